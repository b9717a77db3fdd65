theorem d_M_takeOut_0 : decode b_M_takeOut 0 = .ok (.aload_n 0, 1) := by decide +kernel
theorem d_M_takeOut_1 : decode b_M_takeOut 1 = .ok (.dup, 1) := by decide +kernel
theorem d_M_takeOut_2 : decode b_M_takeOut 2 = .ok (.getfield 64, 3) := by decide +kernel
theorem d_M_takeOut_5 : decode b_M_takeOut 5 = .ok (.iconst 1, 1) := by decide +kernel
theorem d_M_takeOut_6 : decode b_M_takeOut 6 = .ok (.isub, 1) := by decide +kernel
theorem d_M_takeOut_7 : decode b_M_takeOut 7 = .ok (.putfield 64, 3) := by decide +kernel
theorem d_M_takeOut_10 : decode b_M_takeOut 10 = .ok (.iload_n 1, 1) := by decide +kernel
theorem d_M_takeOut_11 : decode b_M_takeOut 11 = .ok (.istore_n 2, 1) := by decide +kernel
theorem d_M_takeOut_12 : decode b_M_takeOut 12 = .ok (.iload_n 2, 1) := by decide +kernel
theorem d_M_takeOut_13 : decode b_M_takeOut 13 = .ok (.aload_n 0, 1) := by decide +kernel
theorem d_M_takeOut_14 : decode b_M_takeOut 14 = .ok (.getfield 64, 3) := by decide +kernel
theorem d_M_takeOut_17 : decode b_M_takeOut 17 = .ok (.if_icmp .ge 79, 3) := by decide +kernel
theorem d_M_takeOut_20 : decode b_M_takeOut 20 = .ok (.aload_n 0, 1) := by decide +kernel
theorem d_M_takeOut_21 : decode b_M_takeOut 21 = .ok (.getfield 38, 3) := by decide +kernel
theorem d_M_takeOut_24 : decode b_M_takeOut 24 = .ok (.iload_n 2, 1) := by decide +kernel
theorem d_M_takeOut_25 : decode b_M_takeOut 25 = .ok (.aload_n 0, 1) := by decide +kernel
theorem d_M_takeOut_26 : decode b_M_takeOut 26 = .ok (.getfield 38, 3) := by decide +kernel
theorem d_M_takeOut_29 : decode b_M_takeOut 29 = .ok (.iload_n 2, 1) := by decide +kernel
theorem d_M_takeOut_30 : decode b_M_takeOut 30 = .ok (.iconst 1, 1) := by decide +kernel
theorem d_M_takeOut_31 : decode b_M_takeOut 31 = .ok (.iadd, 1) := by decide +kernel
theorem d_M_takeOut_32 : decode b_M_takeOut 32 = .ok (.iaload, 1) := by decide +kernel
theorem d_M_takeOut_33 : decode b_M_takeOut 33 = .ok (.iastore, 1) := by decide +kernel
theorem d_M_takeOut_34 : decode b_M_takeOut 34 = .ok (.aload_n 0, 1) := by decide +kernel
theorem d_M_takeOut_35 : decode b_M_takeOut 35 = .ok (.getfield 41, 3) := by decide +kernel
theorem d_M_takeOut_38 : decode b_M_takeOut 38 = .ok (.iload_n 2, 1) := by decide +kernel
theorem d_M_takeOut_39 : decode b_M_takeOut 39 = .ok (.aload_n 0, 1) := by decide +kernel
theorem d_M_takeOut_40 : decode b_M_takeOut 40 = .ok (.getfield 41, 3) := by decide +kernel
theorem d_M_takeOut_43 : decode b_M_takeOut 43 = .ok (.iload_n 2, 1) := by decide +kernel
theorem d_M_takeOut_44 : decode b_M_takeOut 44 = .ok (.iconst 1, 1) := by decide +kernel
theorem d_M_takeOut_45 : decode b_M_takeOut 45 = .ok (.iadd, 1) := by decide +kernel
theorem d_M_takeOut_46 : decode b_M_takeOut 46 = .ok (.iaload, 1) := by decide +kernel
theorem d_M_takeOut_47 : decode b_M_takeOut 47 = .ok (.iastore, 1) := by decide +kernel
theorem d_M_takeOut_48 : decode b_M_takeOut 48 = .ok (.aload_n 0, 1) := by decide +kernel
theorem d_M_takeOut_49 : decode b_M_takeOut 49 = .ok (.getfield 44, 3) := by decide +kernel
theorem d_M_takeOut_52 : decode b_M_takeOut 52 = .ok (.iload_n 2, 1) := by decide +kernel
theorem d_M_takeOut_53 : decode b_M_takeOut 53 = .ok (.aload_n 0, 1) := by decide +kernel
theorem d_M_takeOut_54 : decode b_M_takeOut 54 = .ok (.getfield 44, 3) := by decide +kernel
theorem d_M_takeOut_57 : decode b_M_takeOut 57 = .ok (.iload_n 2, 1) := by decide +kernel
theorem d_M_takeOut_58 : decode b_M_takeOut 58 = .ok (.iconst 1, 1) := by decide +kernel
theorem d_M_takeOut_59 : decode b_M_takeOut 59 = .ok (.iadd, 1) := by decide +kernel
theorem d_M_takeOut_60 : decode b_M_takeOut 60 = .ok (.iaload, 1) := by decide +kernel
theorem d_M_takeOut_61 : decode b_M_takeOut 61 = .ok (.iastore, 1) := by decide +kernel
theorem d_M_takeOut_62 : decode b_M_takeOut 62 = .ok (.aload_n 0, 1) := by decide +kernel
theorem d_M_takeOut_63 : decode b_M_takeOut 63 = .ok (.getfield 47, 3) := by decide +kernel
theorem d_M_takeOut_66 : decode b_M_takeOut 66 = .ok (.iload_n 2, 1) := by decide +kernel
theorem d_M_takeOut_67 : decode b_M_takeOut 67 = .ok (.aload_n 0, 1) := by decide +kernel
theorem d_M_takeOut_68 : decode b_M_takeOut 68 = .ok (.getfield 47, 3) := by decide +kernel
theorem d_M_takeOut_71 : decode b_M_takeOut 71 = .ok (.iload_n 2, 1) := by decide +kernel
theorem d_M_takeOut_72 : decode b_M_takeOut 72 = .ok (.iconst 1, 1) := by decide +kernel
theorem d_M_takeOut_73 : decode b_M_takeOut 73 = .ok (.iadd, 1) := by decide +kernel
theorem d_M_takeOut_74 : decode b_M_takeOut 74 = .ok (.iaload, 1) := by decide +kernel
theorem d_M_takeOut_75 : decode b_M_takeOut 75 = .ok (.iastore, 1) := by decide +kernel
theorem d_M_takeOut_76 : decode b_M_takeOut 76 = .ok (.aload_n 0, 1) := by decide +kernel
theorem d_M_takeOut_77 : decode b_M_takeOut 77 = .ok (.getfield 50, 3) := by decide +kernel
theorem d_M_takeOut_80 : decode b_M_takeOut 80 = .ok (.iload_n 2, 1) := by decide +kernel
theorem d_M_takeOut_81 : decode b_M_takeOut 81 = .ok (.aload_n 0, 1) := by decide +kernel
theorem d_M_takeOut_82 : decode b_M_takeOut 82 = .ok (.getfield 50, 3) := by decide +kernel
theorem d_M_takeOut_85 : decode b_M_takeOut 85 = .ok (.iload_n 2, 1) := by decide +kernel
theorem d_M_takeOut_86 : decode b_M_takeOut 86 = .ok (.iconst 1, 1) := by decide +kernel
theorem d_M_takeOut_87 : decode b_M_takeOut 87 = .ok (.iadd, 1) := by decide +kernel
theorem d_M_takeOut_88 : decode b_M_takeOut 88 = .ok (.iaload, 1) := by decide +kernel
theorem d_M_takeOut_89 : decode b_M_takeOut 89 = .ok (.iastore, 1) := by decide +kernel
theorem d_M_takeOut_90 : decode b_M_takeOut 90 = .ok (.iinc 2 1, 3) := by decide +kernel
theorem d_M_takeOut_93 : decode b_M_takeOut 93 = .ok (.goto (-81), 3) := by decide +kernel
theorem d_M_takeOut_96 : decode b_M_takeOut 96 = .ok (.return_, 1) := by decide +kernel
def F_M_takeOut_L12_s5 (n : Nat) (c12 : Int32 → zS → Option (Int32 × zS)) (v2 : Int32) (st : zS) : Option (Int32 × zS) :=
    c12 (v2 + 1) st

def F_M_takeOut_L12_s4 (n : Nat) (c12 : Int32 → zS → Option (Int32 × zS)) (v2 : Int32) (st : zS) : Option (Int32 × zS) :=
    if zOut (v2 + 1) 1024 then none else if zOut v2 1024 then none else F_M_takeOut_L12_s5 n c12 v2 (zs st 14 0 (Int32.toNatClampNeg v2) (st 14 0 (Int32.toNatClampNeg (v2 + 1))))

def F_M_takeOut_L12_s3 (n : Nat) (c12 : Int32 → zS → Option (Int32 × zS)) (v2 : Int32) (st : zS) : Option (Int32 × zS) :=
    if zOut (v2 + 1) 1024 then none else if zOut v2 1024 then none else F_M_takeOut_L12_s4 n c12 v2 (zs st 13 0 (Int32.toNatClampNeg v2) (st 13 0 (Int32.toNatClampNeg (v2 + 1))))

def F_M_takeOut_L12_s2 (n : Nat) (c12 : Int32 → zS → Option (Int32 × zS)) (v2 : Int32) (st : zS) : Option (Int32 × zS) :=
    if zOut (v2 + 1) 1024 then none else if zOut v2 1024 then none else F_M_takeOut_L12_s3 n c12 v2 (zs st 12 0 (Int32.toNatClampNeg v2) (st 12 0 (Int32.toNatClampNeg (v2 + 1))))

def F_M_takeOut_L12_s1 (n : Nat) (c12 : Int32 → zS → Option (Int32 × zS)) (v2 : Int32) (st : zS) : Option (Int32 × zS) :=
    if zOut (v2 + 1) 1024 then none else if zOut v2 1024 then none else F_M_takeOut_L12_s2 n c12 v2 (zs st 11 0 (Int32.toNatClampNeg v2) (st 11 0 (Int32.toNatClampNeg (v2 + 1))))

def F_M_takeOut_L12 (n : Nat) : Nat → Int32 → zS → Option (Int32 × zS)
  | 0, _, _ => none
  | f + 1, v2, st =>
    if (st 0 0 0) ≤ v2 then (some (0, st)) else (if zOut (v2 + 1) 1024 then none else if zOut v2 1024 then none else F_M_takeOut_L12_s1 n (F_M_takeOut_L12 n f) v2 (zs st 10 0 (Int32.toNatClampNeg v2) (st 10 0 (Int32.toNatClampNeg (v2 + 1)))))

def F_M_takeOut_s1 (n : Nat) (v1 : Int32) (st : zS) : Option (Int32 × zS) :=
    F_M_takeOut_L12 n zFuel v1 st

def F_M_takeOut (n : Nat) (v1 : Int32) (st : zS) : Option (Int32 × zS) :=
    F_M_takeOut_s1 n v1 (zs st 0 0 0 ((st 0 0 0) - 1))

set_option maxHeartbeats 4000000 in
set_option maxRecDepth 1000000 in
theorem T_M_takeOut_L12 {dC : Nat → ClassId} {dI : Nat → Nat → Nat} {cI cZ cR cA : ClassId} {n : Nat} {ad : zK → Nat} {A : Nat → Prop} (hn : 2 ≤ n ∧ n ≤ 6) (hD : zD A zKm ad) {p : Program} {l : Launch} {e : Env} {s : State} {m : MethodId} {args : Array Value} {below : List Frame} {meth : Method} {c : Code} (S : CallFix p m c b_M_takeOut 3 s args zT N_M) (hret : meth.sig.returnType = none) (hlk : meth.locks = false) (hK : va_K (dC, dI) zcl (zty cI cZ cR cA) s) (out : Int32 × zS) : ∀ (fu : Nat) (v2 : Int32) (st : zS) (H : Heap) (locs : List Loc) (ls : Array Slot) (hP : zV (dC, dI) zcl zKm ad (zmE n cI cZ ad) st H) (hS : va_S A s.heap H locs) (hl : lv_has ls 3 [(0, .ref (ad (0, 0))), (2, .int v2)]) (hF : F_M_takeOut_L12 n fu v2 st = some out), W p l e rm_M_takeOut s m args below meth c H locs 0 0 (zQ below A (fun o H => o = none ∧ zV (dC, dI) zcl zKm ad (zmE n cI cZ ad) out.2 H) args s) (F0 m 12 ls []) := by
  intro fu
  induction fu with
  | zero => intro v2 st H locs ls hP hS hl hF; rw [F_M_takeOut_L12] at hF; cases hF
  | succ f ih =>
    intro v2 st H locs ls hP hS hl hF
    rw [F_M_takeOut_L12] at hF
    refine lv_iload_n S.1 S.2.1 d_M_takeOut_12 rfl (lv_at hl 1 rfl) ?_
    refine lv_aload_n S.1 S.2.1 d_M_takeOut_13 rfl (lv_at hl 0 rfl) ?_
    refine zr_get (v := .int (st 0 0 0)) S zi_M hK hP zkm_0 rfl rfl 10 (by decide) zx_40 rfl d_M_takeOut_14 ?_
    refine lv_icmp_ge (tgt := 96) S.1 S.2.1 d_M_takeOut_17 (by decide) (fun h17 => ?_) (fun h17 => ?_)
    · rw [if_pos h17] at hF
      cases hF
      exact zr_vret S hret hlk hS d_M_takeOut_96 ⟨rfl, hP⟩
    · rw [if_neg h17] at hF
      refine lv_aload_n S.1 S.2.1 d_M_takeOut_20 rfl (lv_at hl 0 rfl) ?_
      refine zr_get (v := .ref (ad (10, 0))) S zi_M hK hP zkm_0 rfl rfl 11 (by decide) zx_33 rfl d_M_takeOut_21 ?_
      refine lv_iload_n S.1 S.2.1 d_M_takeOut_24 rfl (lv_at hl 1 rfl) ?_
      refine lv_aload_n S.1 S.2.1 d_M_takeOut_25 rfl (lv_at hl 0 rfl) ?_
      refine zr_get (v := .ref (ad (10, 0))) S zi_M hK hP zkm_0 rfl rfl 11 (by decide) zx_33 rfl d_M_takeOut_26 ?_
      refine lv_iload_n S.1 S.2.1 d_M_takeOut_29 rfl (lv_at hl 1 rfl) ?_
      refine lv_iconst (v := 1) S.1 S.2.1 d_M_takeOut_30 (by decide) ?_
      refine lv_iadd S.1 S.2.1 d_M_takeOut_31 ?_
      by_cases g32 : zOut (v2 + 1) 1024
      · rw [if_pos g32] at hF; cases hF
      rw [if_neg g32] at hF
      refine zr_iald S hK hP zkm_10 rfl 0 rfl g32 d_M_takeOut_32 ?_
      by_cases g33 : zOut v2 1024
      · rw [if_pos g33] at hF; cases hF
      rw [if_neg g33] at hF
      refine zr_iast S hK hP hD hS zkm_10 (fun _ => rfl) 0 rfl g33 d_M_takeOut_33 (fun H locs hP hS => ?_)
      replace hF : F_M_takeOut_L12_s1 n (F_M_takeOut_L12 n f) v2 (zs st 10 0 (Int32.toNatClampNeg v2) (st 10 0 (Int32.toNatClampNeg (v2 + 1)))) = some out := hF
      generalize zs st 10 0 (Int32.toNatClampNeg v2) (st 10 0 (Int32.toNatClampNeg (v2 + 1))) = st34 at hP hF
      unfold F_M_takeOut_L12_s1 at hF
      refine lv_aload_n S.1 S.2.1 d_M_takeOut_34 rfl (lv_at hl 0 rfl) ?_
      refine zr_get (v := .ref (ad (11, 0))) S zi_M hK hP zkm_0 rfl rfl 12 (by decide) zx_34 rfl d_M_takeOut_35 ?_
      refine lv_iload_n S.1 S.2.1 d_M_takeOut_38 rfl (lv_at hl 1 rfl) ?_
      refine lv_aload_n S.1 S.2.1 d_M_takeOut_39 rfl (lv_at hl 0 rfl) ?_
      refine zr_get (v := .ref (ad (11, 0))) S zi_M hK hP zkm_0 rfl rfl 12 (by decide) zx_34 rfl d_M_takeOut_40 ?_
      refine lv_iload_n S.1 S.2.1 d_M_takeOut_43 rfl (lv_at hl 1 rfl) ?_
      refine lv_iconst (v := 1) S.1 S.2.1 d_M_takeOut_44 (by decide) ?_
      refine lv_iadd S.1 S.2.1 d_M_takeOut_45 ?_
      by_cases g46 : zOut (v2 + 1) 1024
      · rw [if_pos g46] at hF; cases hF
      rw [if_neg g46] at hF
      refine zr_iald S hK hP zkm_11 rfl 0 rfl g46 d_M_takeOut_46 ?_
      by_cases g47 : zOut v2 1024
      · rw [if_pos g47] at hF; cases hF
      rw [if_neg g47] at hF
      refine zr_iast S hK hP hD hS zkm_11 (fun _ => rfl) 0 rfl g47 d_M_takeOut_47 (fun H locs hP hS => ?_)
      replace hF : F_M_takeOut_L12_s2 n (F_M_takeOut_L12 n f) v2 (zs st34 11 0 (Int32.toNatClampNeg v2) (st34 11 0 (Int32.toNatClampNeg (v2 + 1)))) = some out := hF
      generalize zs st34 11 0 (Int32.toNatClampNeg v2) (st34 11 0 (Int32.toNatClampNeg (v2 + 1))) = st48 at hP hF
      unfold F_M_takeOut_L12_s2 at hF
      refine lv_aload_n S.1 S.2.1 d_M_takeOut_48 rfl (lv_at hl 0 rfl) ?_
      refine zr_get (v := .ref (ad (12, 0))) S zi_M hK hP zkm_0 rfl rfl 13 (by decide) zx_35 rfl d_M_takeOut_49 ?_
      refine lv_iload_n S.1 S.2.1 d_M_takeOut_52 rfl (lv_at hl 1 rfl) ?_
      refine lv_aload_n S.1 S.2.1 d_M_takeOut_53 rfl (lv_at hl 0 rfl) ?_
      refine zr_get (v := .ref (ad (12, 0))) S zi_M hK hP zkm_0 rfl rfl 13 (by decide) zx_35 rfl d_M_takeOut_54 ?_
      refine lv_iload_n S.1 S.2.1 d_M_takeOut_57 rfl (lv_at hl 1 rfl) ?_
      refine lv_iconst (v := 1) S.1 S.2.1 d_M_takeOut_58 (by decide) ?_
      refine lv_iadd S.1 S.2.1 d_M_takeOut_59 ?_
      by_cases g60 : zOut (v2 + 1) 1024
      · rw [if_pos g60] at hF; cases hF
      rw [if_neg g60] at hF
      refine zr_iald S hK hP zkm_12 rfl 0 rfl g60 d_M_takeOut_60 ?_
      by_cases g61 : zOut v2 1024
      · rw [if_pos g61] at hF; cases hF
      rw [if_neg g61] at hF
      refine zr_iast S hK hP hD hS zkm_12 (fun _ => rfl) 0 rfl g61 d_M_takeOut_61 (fun H locs hP hS => ?_)
      replace hF : F_M_takeOut_L12_s3 n (F_M_takeOut_L12 n f) v2 (zs st48 12 0 (Int32.toNatClampNeg v2) (st48 12 0 (Int32.toNatClampNeg (v2 + 1)))) = some out := hF
      generalize zs st48 12 0 (Int32.toNatClampNeg v2) (st48 12 0 (Int32.toNatClampNeg (v2 + 1))) = st62 at hP hF
      unfold F_M_takeOut_L12_s3 at hF
      refine lv_aload_n S.1 S.2.1 d_M_takeOut_62 rfl (lv_at hl 0 rfl) ?_
      refine zr_get (v := .ref (ad (13, 0))) S zi_M hK hP zkm_0 rfl rfl 14 (by decide) zx_36 rfl d_M_takeOut_63 ?_
      refine lv_iload_n S.1 S.2.1 d_M_takeOut_66 rfl (lv_at hl 1 rfl) ?_
      refine lv_aload_n S.1 S.2.1 d_M_takeOut_67 rfl (lv_at hl 0 rfl) ?_
      refine zr_get (v := .ref (ad (13, 0))) S zi_M hK hP zkm_0 rfl rfl 14 (by decide) zx_36 rfl d_M_takeOut_68 ?_
      refine lv_iload_n S.1 S.2.1 d_M_takeOut_71 rfl (lv_at hl 1 rfl) ?_
      refine lv_iconst (v := 1) S.1 S.2.1 d_M_takeOut_72 (by decide) ?_
      refine lv_iadd S.1 S.2.1 d_M_takeOut_73 ?_
      by_cases g74 : zOut (v2 + 1) 1024
      · rw [if_pos g74] at hF; cases hF
      rw [if_neg g74] at hF
      refine zr_iald S hK hP zkm_13 rfl 0 rfl g74 d_M_takeOut_74 ?_
      by_cases g75 : zOut v2 1024
      · rw [if_pos g75] at hF; cases hF
      rw [if_neg g75] at hF
      refine zr_iast S hK hP hD hS zkm_13 (fun _ => rfl) 0 rfl g75 d_M_takeOut_75 (fun H locs hP hS => ?_)
      replace hF : F_M_takeOut_L12_s4 n (F_M_takeOut_L12 n f) v2 (zs st62 13 0 (Int32.toNatClampNeg v2) (st62 13 0 (Int32.toNatClampNeg (v2 + 1)))) = some out := hF
      generalize zs st62 13 0 (Int32.toNatClampNeg v2) (st62 13 0 (Int32.toNatClampNeg (v2 + 1))) = st76 at hP hF
      unfold F_M_takeOut_L12_s4 at hF
      refine lv_aload_n S.1 S.2.1 d_M_takeOut_76 rfl (lv_at hl 0 rfl) ?_
      refine zr_get (v := .ref (ad (14, 0))) S zi_M hK hP zkm_0 rfl rfl 15 (by decide) zx_37 rfl d_M_takeOut_77 ?_
      refine lv_iload_n S.1 S.2.1 d_M_takeOut_80 rfl (lv_at hl 1 rfl) ?_
      refine lv_aload_n S.1 S.2.1 d_M_takeOut_81 rfl (lv_at hl 0 rfl) ?_
      refine zr_get (v := .ref (ad (14, 0))) S zi_M hK hP zkm_0 rfl rfl 15 (by decide) zx_37 rfl d_M_takeOut_82 ?_
      refine lv_iload_n S.1 S.2.1 d_M_takeOut_85 rfl (lv_at hl 1 rfl) ?_
      refine lv_iconst (v := 1) S.1 S.2.1 d_M_takeOut_86 (by decide) ?_
      refine lv_iadd S.1 S.2.1 d_M_takeOut_87 ?_
      by_cases g88 : zOut (v2 + 1) 1024
      · rw [if_pos g88] at hF; cases hF
      rw [if_neg g88] at hF
      refine zr_iald S hK hP zkm_14 rfl 0 rfl g88 d_M_takeOut_88 ?_
      by_cases g89 : zOut v2 1024
      · rw [if_pos g89] at hF; cases hF
      rw [if_neg g89] at hF
      refine zr_iast S hK hP hD hS zkm_14 (fun _ => rfl) 0 rfl g89 d_M_takeOut_89 (fun H locs hP hS => ?_)
      replace hF : F_M_takeOut_L12_s5 n (F_M_takeOut_L12 n f) v2 (zs st76 14 0 (Int32.toNatClampNeg v2) (st76 14 0 (Int32.toNatClampNeg (v2 + 1)))) = some out := hF
      generalize zs st76 14 0 (Int32.toNatClampNeg v2) (st76 14 0 (Int32.toNatClampNeg (v2 + 1))) = st90 at hP hF
      unfold F_M_takeOut_L12_s5 at hF
      refine lv_iinc (k := 1) (v := v2 + 1) S.1 S.2.1 d_M_takeOut_90 hl rfl rfl (by decide) rfl (fun ls hl => ?_)
      have hl : lv_has ls 3 [(2, .int (v2 + 1)), (0, .ref (ad (0, 0)))] := hl
      refine lv_goto (tgt := 12) S.1 S.2.1 d_M_takeOut_93 (by decide) ?_
      exact ih (v2 + 1) st90 _ _ _ hP hS (lv_sub hl [1, 0] rfl) hF

set_option maxHeartbeats 4000000 in
set_option maxRecDepth 1000000 in
theorem C_M_takeOut {dC : Nat → ClassId} {dI : Nat → Nat → Nat} {cI cZ cR cA : ClassId} {n : Nat} {ad : zK → Nat} {A : Nat → Prop} (hn : 2 ≤ n ∧ n ≤ 6) (hD : zD A zKm ad) (l : Launch) (v1 : Int32) (st : zS) (out : Int32 × zS) (hF : F_M_takeOut n v1 st = some out) : zC zT (dC, dI) zcl (zty cI cZ cR cA) A l y_M_takeOut b_M_takeOut 3 (none) rm_M_takeOut [.ref (ad (0, 0)), .int v1] (fun H => zV (dC, dI) zcl zKm ad (zmE n cI cZ ad) st H) (fun o H => o = none ∧ zV (dC, dI) zcl zKm ad (zmE n cI cZ ad) out.2 H) := by
  refine zC_of (by decide) (Nat.le_of_ble_eq_true rfl) (fun p e s m args below meth c ls S hret hlk hK hP hl => ?_)
  have hS : va_S A s.heap s.heap [] := va_S.rf
  have hl : lv_has ls 3 [(0, .ref (ad (0, 0))), (1, .int v1)] := hl
  have hP : zV (dC, dI) zcl zKm ad (zmE n cI cZ ad) st s.heap := hP
  unfold F_M_takeOut at hF
  refine lv_aload_n S.1 S.2.1 d_M_takeOut_0 rfl (lv_at hl 0 rfl) ?_
  refine lv_dup S.1 S.2.1 d_M_takeOut_1 rfl ?_
  refine zr_get (v := .int (st 0 0 0)) S zi_M hK hP zkm_0 rfl rfl 10 (by decide) zx_40 rfl d_M_takeOut_2 ?_
  refine lv_iconst (v := 1) S.1 S.2.1 d_M_takeOut_5 (by decide) ?_
  refine lv_isub S.1 S.2.1 d_M_takeOut_6 ?_
  refine zr_put (v := (st 0 0 0) - 1) S zi_M t_M t_M_ok n_M hK hP hD hS zkm_0 rfl rfl 10 (by decide) zx_40 rfl rfl rfl (Nat.le_of_ble_eq_true rfl) 0 rfl d_M_takeOut_7 (fun H locs hP hS => ?_)
  replace hF : F_M_takeOut_s1 n v1 (zs st 0 0 0 ((st 0 0 0) - 1)) = some out := hF
  generalize zs st 0 0 0 ((st 0 0 0) - 1) = st10 at hP hF
  unfold F_M_takeOut_s1 at hF
  refine lv_iload_n S.1 S.2.1 d_M_takeOut_10 rfl (lv_at hl 1 rfl) ?_
  refine lv_istore_n S.1 S.2.1 d_M_takeOut_11 rfl hl (by decide) rfl (fun ls hl => ?_)
  have hl : lv_has ls 3 [(2, .int v1), (0, .ref (ad (0, 0))), (1, .int v1)] := hl
  exact T_M_takeOut_L12 hn hD S hret hlk hK out zFuel v1 st10 _ _ _ hP hS (lv_sub hl [1, 0] rfl) hF

theorem d_M_placeOf_0 : decode b_M_placeOf 0 = .ok (.iconst 0, 1) := by decide +kernel
theorem d_M_placeOf_1 : decode b_M_placeOf 1 = .ok (.istore 4, 2) := by decide +kernel
theorem d_M_placeOf_3 : decode b_M_placeOf 3 = .ok (.iconst 0, 1) := by decide +kernel
theorem d_M_placeOf_4 : decode b_M_placeOf 4 = .ok (.istore 5, 2) := by decide +kernel
theorem d_M_placeOf_6 : decode b_M_placeOf 6 = .ok (.iload 5, 2) := by decide +kernel
theorem d_M_placeOf_8 : decode b_M_placeOf 8 = .ok (.aload_n 0, 1) := by decide +kernel
theorem d_M_placeOf_9 : decode b_M_placeOf 9 = .ok (.getfield 64, 3) := by decide +kernel
theorem d_M_placeOf_12 : decode b_M_placeOf 12 = .ok (.if_icmp .ge 43, 3) := by decide +kernel
theorem d_M_placeOf_15 : decode b_M_placeOf 15 = .ok (.aload_n 0, 1) := by decide +kernel
theorem d_M_placeOf_16 : decode b_M_placeOf 16 = .ok (.getfield 38, 3) := by decide +kernel
theorem d_M_placeOf_19 : decode b_M_placeOf 19 = .ok (.iload 5, 2) := by decide +kernel
theorem d_M_placeOf_21 : decode b_M_placeOf 21 = .ok (.iaload, 1) := by decide +kernel
theorem d_M_placeOf_22 : decode b_M_placeOf 22 = .ok (.iload_n 1, 1) := by decide +kernel
theorem d_M_placeOf_23 : decode b_M_placeOf 23 = .ok (.if_icmp .ne 26, 3) := by decide +kernel
theorem d_M_placeOf_26 : decode b_M_placeOf 26 = .ok (.aload_n 0, 1) := by decide +kernel
theorem d_M_placeOf_27 : decode b_M_placeOf 27 = .ok (.getfield 41, 3) := by decide +kernel
theorem d_M_placeOf_30 : decode b_M_placeOf 30 = .ok (.iload 5, 2) := by decide +kernel
theorem d_M_placeOf_32 : decode b_M_placeOf 32 = .ok (.iaload, 1) := by decide +kernel
theorem d_M_placeOf_33 : decode b_M_placeOf 33 = .ok (.iload_n 2, 1) := by decide +kernel
theorem d_M_placeOf_34 : decode b_M_placeOf 34 = .ok (.if_icmp .ne 15, 3) := by decide +kernel
theorem d_M_placeOf_37 : decode b_M_placeOf 37 = .ok (.iload 4, 2) := by decide +kernel
theorem d_M_placeOf_39 : decode b_M_placeOf 39 = .ok (.iload_n 3, 1) := by decide +kernel
theorem d_M_placeOf_40 : decode b_M_placeOf 40 = .ok (.if_icmp .ne 6, 3) := by decide +kernel
theorem d_M_placeOf_43 : decode b_M_placeOf 43 = .ok (.iload 5, 2) := by decide +kernel
theorem d_M_placeOf_45 : decode b_M_placeOf 45 = .ok (.ireturn, 1) := by decide +kernel
theorem d_M_placeOf_46 : decode b_M_placeOf 46 = .ok (.iinc 4 1, 3) := by decide +kernel
theorem d_M_placeOf_49 : decode b_M_placeOf 49 = .ok (.iinc 5 1, 3) := by decide +kernel
theorem d_M_placeOf_52 : decode b_M_placeOf 52 = .ok (.goto (-46), 3) := by decide +kernel
theorem d_M_placeOf_55 : decode b_M_placeOf 55 = .ok (.iconst (-1), 1) := by decide +kernel
theorem d_M_placeOf_56 : decode b_M_placeOf 56 = .ok (.ireturn, 1) := by decide +kernel
def F_M_placeOf_L49 (n : Nat) (c6 : Int32 → Int32 → Int32 → Int32 → Int32 → zS → Option (Int32 × zS)) (v1 : Int32) (v2 : Int32) (v3 : Int32) (v4 : Int32) (v5 : Int32) (st : zS) : Option (Int32 × zS) :=
    c6 v1 v2 v3 v4 (v5 + 1) st

def F_M_placeOf_L6 (n : Nat) : Nat → Int32 → Int32 → Int32 → Int32 → Int32 → zS → Option (Int32 × zS)
  | 0, _, _, _, _, _, _ => none
  | f + 1, v1, v2, v3, v4, v5, st =>
    if (st 0 0 0) ≤ v5 then (some ((-1), st)) else (if zOut v5 1024 then none else if (st 10 0 (Int32.toNatClampNeg v5)) = v1 then (if zOut v5 1024 then none else if (st 11 0 (Int32.toNatClampNeg v5)) = v2 then (if v4 = v3 then (some (v5, st)) else (F_M_placeOf_L49 n (F_M_placeOf_L6 n f) v1 v2 v3 (v4 + 1) v5 st)) else (F_M_placeOf_L49 n (F_M_placeOf_L6 n f) v1 v2 v3 v4 v5 st)) else (F_M_placeOf_L49 n (F_M_placeOf_L6 n f) v1 v2 v3 v4 v5 st))

def F_M_placeOf (n : Nat) (v1 : Int32) (v2 : Int32) (v3 : Int32) (st : zS) : Option (Int32 × zS) :=
    F_M_placeOf_L6 n zFuel v1 v2 v3 0 0 st

set_option maxHeartbeats 4000000 in
set_option maxRecDepth 1000000 in
theorem T_M_placeOf_L49 {dC : Nat → ClassId} {dI : Nat → Nat → Nat} {cI cZ cR cA : ClassId} {n : Nat} {ad : zK → Nat} {A : Nat → Prop} (hn : 2 ≤ n ∧ n ≤ 6) (hD : zD A zKm ad) {p : Program} {l : Launch} {e : Env} {s : State} {m : MethodId} {args : Array Value} {below : List Frame} {meth : Method} {c : Code} (S : CallFix p m c b_M_placeOf 6 s args zT N_M) (hret : meth.sig.returnType = some .int) (hlk : meth.locks = false) (hK : va_K (dC, dI) zcl (zty cI cZ cR cA) s) (out : Int32 × zS) (c6 : Int32 → Int32 → Int32 → Int32 → Int32 → zS → Option (Int32 × zS)) (hc6 : ∀ (v1 : Int32) (v2 : Int32) (v3 : Int32) (v4 : Int32) (v5 : Int32) (st : zS) (H : Heap) (locs : List Loc) (ls : Array Slot), zV (dC, dI) zcl zKm ad (zmE n cI cZ ad) st H → va_S A s.heap H locs → lv_has ls 6 [(0, .ref (ad (0, 0))), (1, .int v1), (2, .int v2), (3, .int v3), (4, .int v4), (5, .int v5)] → c6 v1 v2 v3 v4 v5 st = some out → W p l e rm_M_placeOf s m args below meth c H locs 0 0 (zQ below A (fun o H => o = some (.int out.1) ∧ zV (dC, dI) zcl zKm ad (zmE n cI cZ ad) out.2 H) args s) (F0 m 6 ls [])) (v1 : Int32) (v2 : Int32) (v3 : Int32) (v4 : Int32) (v5 : Int32) (st : zS) (H : Heap) (locs : List Loc) (ls : Array Slot) (hP : zV (dC, dI) zcl zKm ad (zmE n cI cZ ad) st H) (hS : va_S A s.heap H locs) (hl : lv_has ls 6 [(0, .ref (ad (0, 0))), (1, .int v1), (2, .int v2), (3, .int v3), (4, .int v4), (5, .int v5)]) (hF : F_M_placeOf_L49 n c6 v1 v2 v3 v4 v5 st = some out) : W p l e rm_M_placeOf s m args below meth c H locs 0 0 (zQ below A (fun o H => o = some (.int out.1) ∧ zV (dC, dI) zcl zKm ad (zmE n cI cZ ad) out.2 H) args s) (F0 m 49 ls []) := by
  unfold F_M_placeOf_L49 at hF
  refine lv_iinc (k := 5) (v := v5 + 1) S.1 S.2.1 d_M_placeOf_49 hl rfl rfl (by decide) rfl (fun ls hl => ?_)
  have hl : lv_has ls 6 [(5, .int (v5 + 1)), (0, .ref (ad (0, 0))), (1, .int v1), (2, .int v2), (3, .int v3), (4, .int v4)] := hl
  refine lv_goto (tgt := 6) S.1 S.2.1 d_M_placeOf_52 (by decide) ?_
  exact hc6 v1 v2 v3 v4 (v5 + 1) st _ _ _ hP hS (lv_sub hl [1, 2, 3, 4, 5, 0] rfl) hF

set_option maxHeartbeats 4000000 in
set_option maxRecDepth 1000000 in
theorem T_M_placeOf_L6 {dC : Nat → ClassId} {dI : Nat → Nat → Nat} {cI cZ cR cA : ClassId} {n : Nat} {ad : zK → Nat} {A : Nat → Prop} (hn : 2 ≤ n ∧ n ≤ 6) (hD : zD A zKm ad) {p : Program} {l : Launch} {e : Env} {s : State} {m : MethodId} {args : Array Value} {below : List Frame} {meth : Method} {c : Code} (S : CallFix p m c b_M_placeOf 6 s args zT N_M) (hret : meth.sig.returnType = some .int) (hlk : meth.locks = false) (hK : va_K (dC, dI) zcl (zty cI cZ cR cA) s) (out : Int32 × zS) : ∀ (fu : Nat) (v1 : Int32) (v2 : Int32) (v3 : Int32) (v4 : Int32) (v5 : Int32) (st : zS) (H : Heap) (locs : List Loc) (ls : Array Slot) (hP : zV (dC, dI) zcl zKm ad (zmE n cI cZ ad) st H) (hS : va_S A s.heap H locs) (hl : lv_has ls 6 [(0, .ref (ad (0, 0))), (1, .int v1), (2, .int v2), (3, .int v3), (4, .int v4), (5, .int v5)]) (hF : F_M_placeOf_L6 n fu v1 v2 v3 v4 v5 st = some out), W p l e rm_M_placeOf s m args below meth c H locs 0 0 (zQ below A (fun o H => o = some (.int out.1) ∧ zV (dC, dI) zcl zKm ad (zmE n cI cZ ad) out.2 H) args s) (F0 m 6 ls []) := by
  intro fu
  induction fu with
  | zero => intro v1 v2 v3 v4 v5 st H locs ls hP hS hl hF; rw [F_M_placeOf_L6] at hF; cases hF
  | succ f ih =>
    intro v1 v2 v3 v4 v5 st H locs ls hP hS hl hF
    rw [F_M_placeOf_L6] at hF
    refine lv_iload S.1 S.2.1 d_M_placeOf_6 (lv_at hl 5 rfl) ?_
    refine lv_aload_n S.1 S.2.1 d_M_placeOf_8 rfl (lv_at hl 0 rfl) ?_
    refine zr_get (v := .int (st 0 0 0)) S zi_M hK hP zkm_0 rfl rfl 10 (by decide) zx_40 rfl d_M_placeOf_9 ?_
    refine lv_icmp_ge (tgt := 55) S.1 S.2.1 d_M_placeOf_12 (by decide) (fun h12 => ?_) (fun h12 => ?_)
    · rw [if_pos h12] at hF
      refine lv_iconst (v := (-1)) S.1 S.2.1 d_M_placeOf_55 (by decide) ?_
      cases hF
      exact zr_iret S hret hlk hS d_M_placeOf_56 ⟨rfl, hP⟩
    · rw [if_neg h12] at hF
      refine lv_aload_n S.1 S.2.1 d_M_placeOf_15 rfl (lv_at hl 0 rfl) ?_
      refine zr_get (v := .ref (ad (10, 0))) S zi_M hK hP zkm_0 rfl rfl 11 (by decide) zx_33 rfl d_M_placeOf_16 ?_
      refine lv_iload S.1 S.2.1 d_M_placeOf_19 (lv_at hl 5 rfl) ?_
      by_cases g21 : zOut v5 1024
      · rw [if_pos g21] at hF; cases hF
      rw [if_neg g21] at hF
      refine zr_iald S hK hP zkm_10 rfl 0 rfl g21 d_M_placeOf_21 ?_
      refine lv_iload_n S.1 S.2.1 d_M_placeOf_22 rfl (lv_at hl 1 rfl) ?_
      refine lv_icmp_ne (tgt := 49) S.1 S.2.1 d_M_placeOf_23 (by decide) (fun h23 => ?_) (fun h23 => ?_)
      · rw [if_neg h23] at hF
        exact T_M_placeOf_L49 hn hD S hret hlk hK out (F_M_placeOf_L6 n f) ih v1 v2 v3 v4 v5 st _ _ _ hP hS (lv_sub hl [0, 1, 2, 3, 4, 5] rfl) hF
      · rw [if_pos h23] at hF
        refine lv_aload_n S.1 S.2.1 d_M_placeOf_26 rfl (lv_at hl 0 rfl) ?_
        refine zr_get (v := .ref (ad (11, 0))) S zi_M hK hP zkm_0 rfl rfl 12 (by decide) zx_34 rfl d_M_placeOf_27 ?_
        refine lv_iload S.1 S.2.1 d_M_placeOf_30 (lv_at hl 5 rfl) ?_
        by_cases g32 : zOut v5 1024
        · rw [if_pos g32] at hF; cases hF
        rw [if_neg g32] at hF
        refine zr_iald S hK hP zkm_11 rfl 0 rfl g32 d_M_placeOf_32 ?_
        refine lv_iload_n S.1 S.2.1 d_M_placeOf_33 rfl (lv_at hl 2 rfl) ?_
        refine lv_icmp_ne (tgt := 49) S.1 S.2.1 d_M_placeOf_34 (by decide) (fun h34 => ?_) (fun h34 => ?_)
        · rw [if_neg h34] at hF
          exact T_M_placeOf_L49 hn hD S hret hlk hK out (F_M_placeOf_L6 n f) ih v1 v2 v3 v4 v5 st _ _ _ hP hS (lv_sub hl [0, 1, 2, 3, 4, 5] rfl) hF
        · rw [if_pos h34] at hF
          refine lv_iload S.1 S.2.1 d_M_placeOf_37 (lv_at hl 4 rfl) ?_
          refine lv_iload_n S.1 S.2.1 d_M_placeOf_39 rfl (lv_at hl 3 rfl) ?_
          refine lv_icmp_ne (tgt := 46) S.1 S.2.1 d_M_placeOf_40 (by decide) (fun h40 => ?_) (fun h40 => ?_)
          · rw [if_neg h40] at hF
            refine lv_iinc (k := 4) (v := v4 + 1) S.1 S.2.1 d_M_placeOf_46 hl rfl rfl (by decide) rfl (fun ls hl => ?_)
            have hl : lv_has ls 6 [(4, .int (v4 + 1)), (0, .ref (ad (0, 0))), (1, .int v1), (2, .int v2), (3, .int v3), (5, .int v5)] := hl
            exact T_M_placeOf_L49 hn hD S hret hlk hK out (F_M_placeOf_L6 n f) ih v1 v2 v3 (v4 + 1) v5 st _ _ _ hP hS (lv_sub hl [1, 2, 3, 4, 0, 5] rfl) hF
          · rw [if_pos h40] at hF
            refine lv_iload S.1 S.2.1 d_M_placeOf_43 (lv_at hl 5 rfl) ?_
            cases hF
            exact zr_iret S hret hlk hS d_M_placeOf_45 ⟨rfl, hP⟩

set_option maxHeartbeats 4000000 in
set_option maxRecDepth 1000000 in
theorem C_M_placeOf {dC : Nat → ClassId} {dI : Nat → Nat → Nat} {cI cZ cR cA : ClassId} {n : Nat} {ad : zK → Nat} {A : Nat → Prop} (hn : 2 ≤ n ∧ n ≤ 6) (hD : zD A zKm ad) (l : Launch) (v1 : Int32) (v2 : Int32) (v3 : Int32) (st : zS) (out : Int32 × zS) (hF : F_M_placeOf n v1 v2 v3 st = some out) : zC zT (dC, dI) zcl (zty cI cZ cR cA) A l y_M_placeOf b_M_placeOf 6 (some .int) rm_M_placeOf [.ref (ad (0, 0)), .int v1, .int v2, .int v3] (fun H => zV (dC, dI) zcl zKm ad (zmE n cI cZ ad) st H) (fun o H => o = some (.int out.1) ∧ zV (dC, dI) zcl zKm ad (zmE n cI cZ ad) out.2 H) := by
  refine zC_of (by decide) (Nat.le_of_ble_eq_true rfl) (fun p e s m args below meth c ls S hret hlk hK hP hl => ?_)
  have hS : va_S A s.heap s.heap [] := va_S.rf
  have hl : lv_has ls 6 [(0, .ref (ad (0, 0))), (1, .int v1), (2, .int v2), (3, .int v3)] := hl
  have hP : zV (dC, dI) zcl zKm ad (zmE n cI cZ ad) st s.heap := hP
  unfold F_M_placeOf at hF
  refine lv_iconst (v := 0) S.1 S.2.1 d_M_placeOf_0 (by decide) ?_
  refine lv_istore S.1 S.2.1 d_M_placeOf_1 hl (by decide) rfl (fun ls hl => ?_)
  have hl : lv_has ls 6 [(4, .int 0), (0, .ref (ad (0, 0))), (1, .int v1), (2, .int v2), (3, .int v3)] := hl
  refine lv_iconst (v := 0) S.1 S.2.1 d_M_placeOf_3 (by decide) ?_
  refine lv_istore S.1 S.2.1 d_M_placeOf_4 hl (by decide) rfl (fun ls hl => ?_)
  have hl : lv_has ls 6 [(5, .int 0), (4, .int 0), (0, .ref (ad (0, 0))), (1, .int v1), (2, .int v2), (3, .int v3)] := hl
  exact T_M_placeOf_L6 hn hD S hret hlk hK out zFuel v1 v2 v3 0 0 st _ _ _ hP hS (lv_sub hl [2, 3, 4, 5, 1, 0] rfl) hF

theorem d_M_through_0 : decode b_M_through 0 = .ok (.iload_n 3, 1) := by decide +kernel
theorem d_M_through_1 : decode b_M_through 1 = .ok (.ifCond .lt 17, 3) := by decide +kernel
theorem d_M_through_4 : decode b_M_through 4 = .ok (.aload_n 0, 1) := by decide +kernel
theorem d_M_through_5 : decode b_M_through 5 = .ok (.getfield 7, 3) := by decide +kernel
theorem d_M_through_8 : decode b_M_through 8 = .ok (.bipush 6, 2) := by decide +kernel
theorem d_M_through_10 : decode b_M_through 10 = .ok (.iload_n 1, 1) := by decide +kernel
theorem d_M_through_11 : decode b_M_through 11 = .ok (.imul, 1) := by decide +kernel
theorem d_M_through_12 : decode b_M_through 12 = .ok (.iload_n 3, 1) := by decide +kernel
theorem d_M_through_13 : decode b_M_through 13 = .ok (.iadd, 1) := by decide +kernel
theorem d_M_through_14 : decode b_M_through 14 = .ok (.iaload, 1) := by decide +kernel
theorem d_M_through_15 : decode b_M_through 15 = .ok (.ifCond .ne 7, 3) := by decide +kernel
theorem d_M_through_18 : decode b_M_through 18 = .ok (.sipush 10000, 3) := by decide +kernel
theorem d_M_through_21 : decode b_M_through 21 = .ok (.ireturn, 1) := by decide +kernel
theorem d_M_through_22 : decode b_M_through 22 = .ok (.aload_n 0, 1) := by decide +kernel
theorem d_M_through_23 : decode b_M_through 23 = .ok (.getfield 32, 3) := by decide +kernel
theorem d_M_through_26 : decode b_M_through 26 = .ok (.bipush 36, 2) := by decide +kernel
theorem d_M_through_28 : decode b_M_through 28 = .ok (.iload_n 3, 1) := by decide +kernel
theorem d_M_through_29 : decode b_M_through 29 = .ok (.imul, 1) := by decide +kernel
theorem d_M_through_30 : decode b_M_through 30 = .ok (.bipush 6, 2) := by decide +kernel
theorem d_M_through_32 : decode b_M_through 32 = .ok (.iload_n 1, 1) := by decide +kernel
theorem d_M_through_33 : decode b_M_through 33 = .ok (.imul, 1) := by decide +kernel
theorem d_M_through_34 : decode b_M_through 34 = .ok (.iadd, 1) := by decide +kernel
theorem d_M_through_35 : decode b_M_through 35 = .ok (.iload_n 2, 1) := by decide +kernel
theorem d_M_through_36 : decode b_M_through 36 = .ok (.iadd, 1) := by decide +kernel
theorem d_M_through_37 : decode b_M_through 37 = .ok (.iaload, 1) := by decide +kernel
theorem d_M_through_38 : decode b_M_through 38 = .ok (.aload_n 0, 1) := by decide +kernel
theorem d_M_through_39 : decode b_M_through 39 = .ok (.getfield 7, 3) := by decide +kernel
theorem d_M_through_42 : decode b_M_through 42 = .ok (.bipush 6, 2) := by decide +kernel
theorem d_M_through_44 : decode b_M_through 44 = .ok (.iload_n 1, 1) := by decide +kernel
theorem d_M_through_45 : decode b_M_through 45 = .ok (.imul, 1) := by decide +kernel
theorem d_M_through_46 : decode b_M_through 46 = .ok (.iload_n 3, 1) := by decide +kernel
theorem d_M_through_47 : decode b_M_through 47 = .ok (.iadd, 1) := by decide +kernel
theorem d_M_through_48 : decode b_M_through 48 = .ok (.iaload, 1) := by decide +kernel
theorem d_M_through_49 : decode b_M_through 49 = .ok (.iadd, 1) := by decide +kernel
theorem d_M_through_50 : decode b_M_through 50 = .ok (.istore 4, 2) := by decide +kernel
theorem d_M_through_52 : decode b_M_through 52 = .ok (.iload 4, 2) := by decide +kernel
theorem d_M_through_54 : decode b_M_through 54 = .ok (.sipush 10000, 3) := by decide +kernel
theorem d_M_through_57 : decode b_M_through 57 = .ok (.if_icmp .le 9, 3) := by decide +kernel
theorem d_M_through_60 : decode b_M_through 60 = .ok (.sipush 10000, 3) := by decide +kernel
theorem d_M_through_63 : decode b_M_through 63 = .ok (.goto 5, 3) := by decide +kernel
theorem d_M_through_66 : decode b_M_through 66 = .ok (.iload 4, 2) := by decide +kernel
theorem d_M_through_68 : decode b_M_through 68 = .ok (.ireturn, 1) := by decide +kernel
def F_M_through (n : Nat) (v1 : Int32) (v2 : Int32) (v3 : Int32) (st : zS) : Option (Int32 × zS) :=
    if v3 < 0 then (some (10000, st)) else (if zOut ((6 * v1) + v3) 36 then none else if (st 1 0 (Int32.toNatClampNeg ((6 * v1) + v3))) = 0 then (some (10000, st)) else (if zOut (((36 * v3) + (6 * v1)) + v2) 216 then none else if zOut ((6 * v1) + v3) 36 then none else if ((st 8 0 (Int32.toNatClampNeg (((36 * v3) + (6 * v1)) + v2))) + (st 1 0 (Int32.toNatClampNeg ((6 * v1) + v3)))) ≤ 10000 then (some ((st 8 0 (Int32.toNatClampNeg (((36 * v3) + (6 * v1)) + v2))) + (st 1 0 (Int32.toNatClampNeg ((6 * v1) + v3))), st)) else (some (10000, st))))

set_option maxHeartbeats 4000000 in
set_option maxRecDepth 1000000 in
theorem C_M_through {dC : Nat → ClassId} {dI : Nat → Nat → Nat} {cI cZ cR cA : ClassId} {n : Nat} {ad : zK → Nat} {A : Nat → Prop} (hn : 2 ≤ n ∧ n ≤ 6) (hD : zD A zKm ad) (l : Launch) (v1 : Int32) (v2 : Int32) (v3 : Int32) (st : zS) (out : Int32 × zS) (hF : F_M_through n v1 v2 v3 st = some out) : zC zT (dC, dI) zcl (zty cI cZ cR cA) A l y_M_through b_M_through 5 (some .int) rm_M_through [.ref (ad (0, 0)), .int v1, .int v2, .int v3] (fun H => zV (dC, dI) zcl zKm ad (zmE n cI cZ ad) st H) (fun o H => o = some (.int out.1) ∧ zV (dC, dI) zcl zKm ad (zmE n cI cZ ad) out.2 H) := by
  refine zC_of (by decide) (Nat.le_of_ble_eq_true rfl) (fun p e s m args below meth c ls S hret hlk hK hP hl => ?_)
  have hS : va_S A s.heap s.heap [] := va_S.rf
  have hl : lv_has ls 5 [(0, .ref (ad (0, 0))), (1, .int v1), (2, .int v2), (3, .int v3)] := hl
  have hP : zV (dC, dI) zcl zKm ad (zmE n cI cZ ad) st s.heap := hP
  unfold F_M_through at hF
  refine lv_iload_n S.1 S.2.1 d_M_through_0 rfl (lv_at hl 3 rfl) ?_
  refine lv_if_lt (tgt := 18) S.1 S.2.1 d_M_through_1 (by decide) (fun h1 => ?_) (fun h1 => ?_)
  · rw [if_pos h1] at hF
    refine lv_sipush (v := 10000) S.1 S.2.1 d_M_through_18 (by decide) ?_
    cases hF
    exact zr_iret S hret hlk hS d_M_through_21 ⟨rfl, hP⟩
  · rw [if_neg h1] at hF
    refine lv_aload_n S.1 S.2.1 d_M_through_4 rfl (lv_at hl 0 rfl) ?_
    refine zr_get (v := .ref (ad (1, 0))) S zi_M hK hP zkm_0 rfl rfl 1 (by decide) zx_41 rfl d_M_through_5 ?_
    refine lv_bipush (v := 6) S.1 S.2.1 d_M_through_8 (by decide) ?_
    refine lv_iload_n S.1 S.2.1 d_M_through_10 rfl (lv_at hl 1 rfl) ?_
    refine lv_imul S.1 S.2.1 d_M_through_11 ?_
    refine lv_iload_n S.1 S.2.1 d_M_through_12 rfl (lv_at hl 3 rfl) ?_
    refine lv_iadd S.1 S.2.1 d_M_through_13 ?_
    by_cases g14 : zOut ((6 * v1) + v3) 36
    · rw [if_pos g14] at hF; cases hF
    rw [if_neg g14] at hF
    refine zr_iald S hK hP zkm_1 rfl 0 rfl g14 d_M_through_14 ?_
    refine lv_if_ne (tgt := 22) S.1 S.2.1 d_M_through_15 (by decide) (fun h15 => ?_) (fun h15 => ?_)
    · rw [if_neg h15] at hF
      refine lv_aload_n S.1 S.2.1 d_M_through_22 rfl (lv_at hl 0 rfl) ?_
      refine zr_get (v := .ref (ad (8, 0))) S zi_M hK hP zkm_0 rfl rfl 8 (by decide) zx_31 rfl d_M_through_23 ?_
      refine lv_bipush (v := 36) S.1 S.2.1 d_M_through_26 (by decide) ?_
      refine lv_iload_n S.1 S.2.1 d_M_through_28 rfl (lv_at hl 3 rfl) ?_
      refine lv_imul S.1 S.2.1 d_M_through_29 ?_
      refine lv_bipush (v := 6) S.1 S.2.1 d_M_through_30 (by decide) ?_
      refine lv_iload_n S.1 S.2.1 d_M_through_32 rfl (lv_at hl 1 rfl) ?_
      refine lv_imul S.1 S.2.1 d_M_through_33 ?_
      refine lv_iadd S.1 S.2.1 d_M_through_34 ?_
      refine lv_iload_n S.1 S.2.1 d_M_through_35 rfl (lv_at hl 2 rfl) ?_
      refine lv_iadd S.1 S.2.1 d_M_through_36 ?_
      by_cases g37 : zOut (((36 * v3) + (6 * v1)) + v2) 216
      · rw [if_pos g37] at hF; cases hF
      rw [if_neg g37] at hF
      refine zr_iald S hK hP zkm_8 rfl 0 rfl g37 d_M_through_37 ?_
      refine lv_aload_n S.1 S.2.1 d_M_through_38 rfl (lv_at hl 0 rfl) ?_
      refine zr_get (v := .ref (ad (1, 0))) S zi_M hK hP zkm_0 rfl rfl 1 (by decide) zx_41 rfl d_M_through_39 ?_
      refine lv_bipush (v := 6) S.1 S.2.1 d_M_through_42 (by decide) ?_
      refine lv_iload_n S.1 S.2.1 d_M_through_44 rfl (lv_at hl 1 rfl) ?_
      refine lv_imul S.1 S.2.1 d_M_through_45 ?_
      refine lv_iload_n S.1 S.2.1 d_M_through_46 rfl (lv_at hl 3 rfl) ?_
      refine lv_iadd S.1 S.2.1 d_M_through_47 ?_
      by_cases g48 : zOut ((6 * v1) + v3) 36
      · rw [if_pos g48] at hF; cases hF
      rw [if_neg g48] at hF
      refine zr_iald S hK hP zkm_1 rfl 0 rfl g48 d_M_through_48 ?_
      refine lv_iadd S.1 S.2.1 d_M_through_49 ?_
      refine lv_istore S.1 S.2.1 d_M_through_50 hl (by decide) rfl (fun ls hl => ?_)
      have hl : lv_has ls 5 [(4, .int ((st 8 0 (Int32.toNatClampNeg (((36 * v3) + (6 * v1)) + v2))) + (st 1 0 (Int32.toNatClampNeg ((6 * v1) + v3))))), (0, .ref (ad (0, 0))), (1, .int v1), (2, .int v2), (3, .int v3)] := hl
      refine lv_iload S.1 S.2.1 d_M_through_52 (lv_at hl 0 rfl) ?_
      refine lv_sipush (v := 10000) S.1 S.2.1 d_M_through_54 (by decide) ?_
      refine lv_icmp_le (tgt := 66) S.1 S.2.1 d_M_through_57 (by decide) (fun h57 => ?_) (fun h57 => ?_)
      · rw [if_pos h57] at hF
        refine lv_iload S.1 S.2.1 d_M_through_66 (lv_at hl 0 rfl) ?_
        cases hF
        exact zr_iret S hret hlk hS d_M_through_68 ⟨rfl, hP⟩
      · rw [if_neg h57] at hF
        refine lv_sipush (v := 10000) S.1 S.2.1 d_M_through_60 (by decide) ?_
        refine lv_goto (tgt := 68) S.1 S.2.1 d_M_through_63 (by decide) ?_
        cases hF
        exact zr_iret S hret hlk hS d_M_through_68 ⟨rfl, hP⟩
    · rw [if_pos h15] at hF
      refine lv_sipush (v := 10000) S.1 S.2.1 d_M_through_18 (by decide) ?_
      cases hF
      exact zr_iret S hret hlk hS d_M_through_21 ⟨rfl, hP⟩

theorem d_M_least_0 : decode b_M_least 0 = .ok (.sipush 10000, 3) := by decide +kernel
theorem d_M_least_3 : decode b_M_least 3 = .ok (.istore_n 3, 1) := by decide +kernel
theorem d_M_least_4 : decode b_M_least 4 = .ok (.iconst 0, 1) := by decide +kernel
theorem d_M_least_5 : decode b_M_least 5 = .ok (.istore 4, 2) := by decide +kernel
theorem d_M_least_7 : decode b_M_least 7 = .ok (.iload 4, 2) := by decide +kernel
theorem d_M_least_9 : decode b_M_least 9 = .ok (.aload_n 0, 1) := by decide +kernel
theorem d_M_least_10 : decode b_M_least 10 = .ok (.getfield 56, 3) := by decide +kernel
theorem d_M_least_13 : decode b_M_least 13 = .ok (.if_icmp .ge 32, 3) := by decide +kernel
theorem d_M_least_16 : decode b_M_least 16 = .ok (.aload_n 0, 1) := by decide +kernel
theorem d_M_least_17 : decode b_M_least 17 = .ok (.iload_n 1, 1) := by decide +kernel
theorem d_M_least_18 : decode b_M_least 18 = .ok (.iload_n 2, 1) := by decide +kernel
theorem d_M_least_19 : decode b_M_least 19 = .ok (.iload 4, 2) := by decide +kernel
theorem d_M_least_21 : decode b_M_least 21 = .ok (.invokevirtual 71, 3) := by decide +kernel
theorem d_M_least_24 : decode b_M_least 24 = .ok (.istore 5, 2) := by decide +kernel
theorem d_M_least_26 : decode b_M_least 26 = .ok (.iload 5, 2) := by decide +kernel
theorem d_M_least_28 : decode b_M_least 28 = .ok (.iload_n 3, 1) := by decide +kernel
theorem d_M_least_29 : decode b_M_least 29 = .ok (.if_icmp .ge 8, 3) := by decide +kernel
theorem d_M_least_32 : decode b_M_least 32 = .ok (.iload 5, 2) := by decide +kernel
theorem d_M_least_34 : decode b_M_least 34 = .ok (.goto 4, 3) := by decide +kernel
theorem d_M_least_37 : decode b_M_least 37 = .ok (.iload_n 3, 1) := by decide +kernel
theorem d_M_least_38 : decode b_M_least 38 = .ok (.istore_n 3, 1) := by decide +kernel
theorem d_M_least_39 : decode b_M_least 39 = .ok (.iinc 4 1, 3) := by decide +kernel
theorem d_M_least_42 : decode b_M_least 42 = .ok (.goto (-35), 3) := by decide +kernel
theorem d_M_least_45 : decode b_M_least 45 = .ok (.iload_n 3, 1) := by decide +kernel
theorem d_M_least_46 : decode b_M_least 46 = .ok (.ireturn, 1) := by decide +kernel
def F_M_least_L38 (n : Nat) (c7 : Int32 → Int32 → Int32 → Int32 → zS → Option (Int32 × zS)) (v1 : Int32) (v2 : Int32) (v4 : Int32) (t0 : Int32) (st : zS) : Option (Int32 × zS) :=
    c7 v1 v2 t0 (v4 + 1) st

def F_M_least_L7_s1 (n : Nat) (c7 : Int32 → Int32 → Int32 → Int32 → zS → Option (Int32 × zS)) (v1 : Int32) (v2 : Int32) (v3 : Int32) (v4 : Int32) (t0 : Int32) (st : zS) : Option (Int32 × zS) :=
    if v3 ≤ t0 then (F_M_least_L38 n c7 v1 v2 v4 v3 st) else (F_M_least_L38 n c7 v1 v2 v4 t0 st)

def F_M_least_L7 (n : Nat) : Nat → Int32 → Int32 → Int32 → Int32 → zS → Option (Int32 × zS)
  | 0, _, _, _, _, _ => none
  | f + 1, v1, v2, v3, v4, st =>
    if (nI n) ≤ v4 then (some (v3, st)) else ((F_M_through n v1 v2 v4 st).bind (fun u => F_M_least_L7_s1 n (F_M_least_L7 n f) v1 v2 v3 v4 u.1 u.2))

def F_M_least (n : Nat) (v1 : Int32) (v2 : Int32) (st : zS) : Option (Int32 × zS) :=
    F_M_least_L7 n zFuel v1 v2 10000 0 st

set_option maxHeartbeats 4000000 in
set_option maxRecDepth 1000000 in
theorem T_M_least_L38 {dC : Nat → ClassId} {dI : Nat → Nat → Nat} {cI cZ cR cA : ClassId} {n : Nat} {ad : zK → Nat} {A : Nat → Prop} (hn : 2 ≤ n ∧ n ≤ 6) (hD : zD A zKm ad) {p : Program} {l : Launch} {e : Env} {s : State} {m : MethodId} {args : Array Value} {below : List Frame} {meth : Method} {c : Code} (S : CallFix p m c b_M_least 6 s args zT N_M) (hret : meth.sig.returnType = some .int) (hlk : meth.locks = false) (hK : va_K (dC, dI) zcl (zty cI cZ cR cA) s) (out : Int32 × zS) (c7 : Int32 → Int32 → Int32 → Int32 → zS → Option (Int32 × zS)) (hc7 : ∀ (v1 : Int32) (v2 : Int32) (v3 : Int32) (v4 : Int32) (st : zS) (H : Heap) (locs : List Loc) (ls : Array Slot), zV (dC, dI) zcl zKm ad (zmE n cI cZ ad) st H → va_S A s.heap H locs → lv_has ls 6 [(0, .ref (ad (0, 0))), (1, .int v1), (2, .int v2), (3, .int v3), (4, .int v4)] → c7 v1 v2 v3 v4 st = some out → W p l e rm_M_least s m args below meth c H locs 0 0 (zQ below A (fun o H => o = some (.int out.1) ∧ zV (dC, dI) zcl zKm ad (zmE n cI cZ ad) out.2 H) args s) (F0 m 7 ls [])) (v1 : Int32) (v2 : Int32) (v4 : Int32) (t0 : Int32) (st : zS) (H : Heap) (locs : List Loc) (ls : Array Slot) (hP : zV (dC, dI) zcl zKm ad (zmE n cI cZ ad) st H) (hS : va_S A s.heap H locs) (hl : lv_has ls 6 [(0, .ref (ad (0, 0))), (1, .int v1), (2, .int v2), (4, .int v4)]) (hF : F_M_least_L38 n c7 v1 v2 v4 t0 st = some out) : W p l e rm_M_least s m args below meth c H locs 0 0 (zQ below A (fun o H => o = some (.int out.1) ∧ zV (dC, dI) zcl zKm ad (zmE n cI cZ ad) out.2 H) args s) (F0 m 38 ls [.int t0]) := by
  unfold F_M_least_L38 at hF
  refine lv_istore_n S.1 S.2.1 d_M_least_38 rfl hl (by decide) rfl (fun ls hl => ?_)
  have hl : lv_has ls 6 [(3, .int t0), (0, .ref (ad (0, 0))), (1, .int v1), (2, .int v2), (4, .int v4)] := hl
  refine lv_iinc (k := 4) (v := v4 + 1) S.1 S.2.1 d_M_least_39 hl rfl rfl (by decide) rfl (fun ls hl => ?_)
  have hl : lv_has ls 6 [(4, .int (v4 + 1)), (3, .int t0), (0, .ref (ad (0, 0))), (1, .int v1), (2, .int v2)] := hl
  refine lv_goto (tgt := 7) S.1 S.2.1 d_M_least_42 (by decide) ?_
  exact hc7 v1 v2 t0 (v4 + 1) st _ _ _ hP hS (lv_sub hl [2, 3, 4, 1, 0] rfl) hF

set_option maxHeartbeats 4000000 in
set_option maxRecDepth 1000000 in
theorem T_M_least_L7 {dC : Nat → ClassId} {dI : Nat → Nat → Nat} {cI cZ cR cA : ClassId} {n : Nat} {ad : zK → Nat} {A : Nat → Prop} (hn : 2 ≤ n ∧ n ≤ 6) (hD : zD A zKm ad) {p : Program} {l : Launch} {e : Env} {s : State} {m : MethodId} {args : Array Value} {below : List Frame} {meth : Method} {c : Code} (S : CallFix p m c b_M_least 6 s args zT N_M) (hret : meth.sig.returnType = some .int) (hlk : meth.locks = false) (hK : va_K (dC, dI) zcl (zty cI cZ cR cA) s) (out : Int32 × zS) : ∀ (fu : Nat) (v1 : Int32) (v2 : Int32) (v3 : Int32) (v4 : Int32) (st : zS) (H : Heap) (locs : List Loc) (ls : Array Slot) (hP : zV (dC, dI) zcl zKm ad (zmE n cI cZ ad) st H) (hS : va_S A s.heap H locs) (hl : lv_has ls 6 [(0, .ref (ad (0, 0))), (1, .int v1), (2, .int v2), (3, .int v3), (4, .int v4)]) (hF : F_M_least_L7 n fu v1 v2 v3 v4 st = some out), W p l e rm_M_least s m args below meth c H locs 0 0 (zQ below A (fun o H => o = some (.int out.1) ∧ zV (dC, dI) zcl zKm ad (zmE n cI cZ ad) out.2 H) args s) (F0 m 7 ls []) := by
  intro fu
  induction fu with
  | zero => intro v1 v2 v3 v4 st H locs ls hP hS hl hF; rw [F_M_least_L7] at hF; cases hF
  | succ f ih =>
    intro v1 v2 v3 v4 st H locs ls hP hS hl hF
    rw [F_M_least_L7] at hF
    refine lv_iload S.1 S.2.1 d_M_least_7 (lv_at hl 4 rfl) ?_
    refine lv_aload_n S.1 S.2.1 d_M_least_9 rfl (lv_at hl 0 rfl) ?_
    refine zr_get (v := .int (nI n)) S zi_M hK hP zkm_0 rfl rfl 0 (by decide) zx_39 rfl d_M_least_10 ?_
    refine lv_icmp_ge (tgt := 45) S.1 S.2.1 d_M_least_13 (by decide) (fun h13 => ?_) (fun h13 => ?_)
    · rw [if_pos h13] at hF
      refine lv_iload_n S.1 S.2.1 d_M_least_45 rfl (lv_at hl 3 rfl) ?_
      cases hF
      exact zr_iret S hret hlk hS d_M_least_46 ⟨rfl, hP⟩
    · rw [if_neg h13] at hF
      refine lv_aload_n S.1 S.2.1 d_M_least_16 rfl (lv_at hl 0 rfl) ?_
      refine lv_iload_n S.1 S.2.1 d_M_least_17 rfl (lv_at hl 1 rfl) ?_
      refine lv_iload_n S.1 S.2.1 d_M_least_18 rfl (lv_at hl 2 rfl) ?_
      refine lv_iload S.1 S.2.1 d_M_least_19 (lv_at hl 4 rfl) ?_
      cases hc21 : F_M_through n v1 v2 v4 st with
      | none => rw [hc21] at hF; cases hF
      | some u21 =>
        obtain ⟨r21, st21⟩ := u21
        rw [hc21] at hF
        replace hF := zbind hF
        refine zr_callV (rest := []) S zT_good (C_M_through hn hD l v1 v2 v4 st (r21, st21) hc21) zn_M_through zx_108 ⟨rfl, rfl⟩ ⟨Nat.le_of_ble_eq_true rfl, Nat.le_of_ble_eq_true rfl⟩ ⟨Nat.zero_le _, Nat.zero_le _⟩ hK (zr_recv hK hP zkm_0 rfl rfl) hP hl.1 (Nat.le_of_ble_eq_true rfl) hS (fun _ h => h) d_M_least_21 rfl (fun o H locs hpo _ _ hS => ?_)
        obtain ⟨rfl, hP⟩ := hpo
        refine W.eq (g2 := F0 m 24 ls [.int r21]) rfl ?_
        replace hF : F_M_least_L7_s1 n (F_M_least_L7 n f) v1 v2 v3 v4 r21 st21 = some out := hF
        replace hP : zV (dC, dI) zcl zKm ad (zmE n cI cZ ad) st21 H := hP
        unfold F_M_least_L7_s1 at hF
        refine lv_istore S.1 S.2.1 d_M_least_24 hl (by decide) rfl (fun ls hl => ?_)
        have hl : lv_has ls 6 [(5, .int r21), (0, .ref (ad (0, 0))), (1, .int v1), (2, .int v2), (3, .int v3), (4, .int v4)] := hl
        refine lv_iload S.1 S.2.1 d_M_least_26 (lv_at hl 0 rfl) ?_
        refine lv_iload_n S.1 S.2.1 d_M_least_28 rfl (lv_at hl 4 rfl) ?_
        refine lv_icmp_ge (tgt := 37) S.1 S.2.1 d_M_least_29 (by decide) (fun h29 => ?_) (fun h29 => ?_)
        · rw [if_pos h29] at hF
          refine lv_iload_n S.1 S.2.1 d_M_least_37 rfl (lv_at hl 4 rfl) ?_
          exact T_M_least_L38 hn hD S hret hlk hK out (F_M_least_L7 n f) ih v1 v2 v4 v3 st21 _ _ _ hP hS (lv_sub hl [1, 2, 3, 5] rfl) hF
        · rw [if_neg h29] at hF
          refine lv_iload S.1 S.2.1 d_M_least_32 (lv_at hl 0 rfl) ?_
          refine lv_goto (tgt := 38) S.1 S.2.1 d_M_least_34 (by decide) ?_
          exact T_M_least_L38 hn hD S hret hlk hK out (F_M_least_L7 n f) ih v1 v2 v4 r21 st21 _ _ _ hP hS (lv_sub hl [1, 2, 3, 5] rfl) hF

set_option maxHeartbeats 4000000 in
set_option maxRecDepth 1000000 in
theorem C_M_least {dC : Nat → ClassId} {dI : Nat → Nat → Nat} {cI cZ cR cA : ClassId} {n : Nat} {ad : zK → Nat} {A : Nat → Prop} (hn : 2 ≤ n ∧ n ≤ 6) (hD : zD A zKm ad) (l : Launch) (v1 : Int32) (v2 : Int32) (st : zS) (out : Int32 × zS) (hF : F_M_least n v1 v2 st = some out) : zC zT (dC, dI) zcl (zty cI cZ cR cA) A l y_M_least b_M_least 6 (some .int) rm_M_least [.ref (ad (0, 0)), .int v1, .int v2] (fun H => zV (dC, dI) zcl zKm ad (zmE n cI cZ ad) st H) (fun o H => o = some (.int out.1) ∧ zV (dC, dI) zcl zKm ad (zmE n cI cZ ad) out.2 H) := by
  refine zC_of (by decide) (Nat.le_of_ble_eq_true rfl) (fun p e s m args below meth c ls S hret hlk hK hP hl => ?_)
  have hS : va_S A s.heap s.heap [] := va_S.rf
  have hl : lv_has ls 6 [(0, .ref (ad (0, 0))), (1, .int v1), (2, .int v2)] := hl
  have hP : zV (dC, dI) zcl zKm ad (zmE n cI cZ ad) st s.heap := hP
  unfold F_M_least at hF
  refine lv_sipush (v := 10000) S.1 S.2.1 d_M_least_0 (by decide) ?_
  refine lv_istore_n S.1 S.2.1 d_M_least_3 rfl hl (by decide) rfl (fun ls hl => ?_)
  have hl : lv_has ls 6 [(3, .int 10000), (0, .ref (ad (0, 0))), (1, .int v1), (2, .int v2)] := hl
  refine lv_iconst (v := 0) S.1 S.2.1 d_M_least_4 (by decide) ?_
  refine lv_istore S.1 S.2.1 d_M_least_5 hl (by decide) rfl (fun ls hl => ?_)
  have hl : lv_has ls 6 [(4, .int 0), (3, .int 10000), (0, .ref (ad (0, 0))), (1, .int v1), (2, .int v2)] := hl
  exact T_M_least_L7 hn hD S hret hlk hK out zFuel v1 v2 10000 0 st _ _ _ hP hS (lv_sub hl [2, 3, 4, 1, 0] rfl) hF

