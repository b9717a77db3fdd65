theorem d_D_isRouter_0 : decode b_D_isRouter 0 = .ok (.iload_n 1, 1) := by decide +kernel
theorem d_D_isRouter_1 : decode b_D_isRouter 1 = .ok (.ifCond .lt 15, 3) := by decide +kernel
theorem d_D_isRouter_4 : decode b_D_isRouter 4 = .ok (.iload_n 1, 1) := by decide +kernel
theorem d_D_isRouter_5 : decode b_D_isRouter 5 = .ok (.aload_n 0, 1) := by decide +kernel
theorem d_D_isRouter_6 : decode b_D_isRouter 6 = .ok (.getfield 18, 3) := by decide +kernel
theorem d_D_isRouter_9 : decode b_D_isRouter 9 = .ok (.if_icmp .ge 7, 3) := by decide +kernel
theorem d_D_isRouter_12 : decode b_D_isRouter 12 = .ok (.iconst 1, 1) := by decide +kernel
theorem d_D_isRouter_13 : decode b_D_isRouter 13 = .ok (.goto 4, 3) := by decide +kernel
theorem d_D_isRouter_16 : decode b_D_isRouter 16 = .ok (.iconst 0, 1) := by decide +kernel
theorem d_D_isRouter_17 : decode b_D_isRouter 17 = .ok (.ireturn, 1) := by decide +kernel
def F_D_isRouter (n : Nat) (v1 : Int32) (st : zS) : Option (Int32 × zS) :=
    if v1 < 0 then (some (0, st)) else (if (nI n) ≤ v1 then (some (0, st)) else (some (1, st)))

set_option maxHeartbeats 4000000 in
set_option maxRecDepth 1000000 in
theorem C_D_isRouter {dC : Nat → ClassId} {dI : Nat → Nat → Nat} {cI cZ cR cA : ClassId} {n : Nat} {ad : zK → Nat} {A : Nat → Prop} (hn : 2 ≤ n ∧ n ≤ 6) (hD : zD A (zKs n) ad) (l : Launch) (v1 : Int32) (st : zS) (out : Int32 × zS) (hF : F_D_isRouter n v1 st = some out) : zC zT (dC, dI) zcl (zty cI cZ cR cA) A l y_D_isRouter b_D_isRouter 2 (some .boolean) rm_D_isRouter [.ref (ad (0, 0)), .int v1] (fun H => zV (dC, dI) zcl (zKs n) ad (zcE n cI cZ cR cA ad) st H) (fun o H => o = some (.int out.1) ∧ zV (dC, dI) zcl (zKs n) ad (zcE n cI cZ cR cA ad) out.2 H) := by
  refine zC_of (by decide) (Nat.le_of_ble_eq_true rfl) (fun p e s m args below meth c ls S hret hlk hK hP hl => ?_)
  have hS : va_S A s.heap s.heap [] := va_S.rf
  have hl : lv_has ls 2 [(0, .ref (ad (0, 0))), (1, .int v1)] := hl
  have hP : zV (dC, dI) zcl (zKs n) ad (zcE n cI cZ cR cA ad) st s.heap := hP
  unfold F_D_isRouter at hF
  refine lv_iload_n S.1 S.2.1 d_D_isRouter_0 rfl (lv_at hl 1 rfl) ?_
  refine lv_if_lt (tgt := 16) S.1 S.2.1 d_D_isRouter_1 (by decide) (fun h1 => ?_) (fun h1 => ?_)
  · rw [if_pos h1] at hF
    refine lv_iconst (v := 0) S.1 S.2.1 d_D_isRouter_16 (by decide) ?_
    cases hF
    exact zr_zret S hret hlk (by decide) hS d_D_isRouter_17 ⟨rfl, hP⟩
  · rw [if_neg h1] at hF
    refine lv_iload_n S.1 S.2.1 d_D_isRouter_4 rfl (lv_at hl 1 rfl) ?_
    refine lv_aload_n S.1 S.2.1 d_D_isRouter_5 rfl (lv_at hl 0 rfl) ?_
    refine zr_get (v := .int (nI n)) S zi_D hK hP zk_0 rfl rfl 0 (by decide) zx_8 rfl d_D_isRouter_6 ?_
    refine lv_icmp_ge (tgt := 16) S.1 S.2.1 d_D_isRouter_9 (by decide) (fun h9 => ?_) (fun h9 => ?_)
    · rw [if_pos h9] at hF
      refine lv_iconst (v := 0) S.1 S.2.1 d_D_isRouter_16 (by decide) ?_
      cases hF
      exact zr_zret S hret hlk (by decide) hS d_D_isRouter_17 ⟨rfl, hP⟩
    · rw [if_neg h9] at hF
      refine lv_iconst (v := 1) S.1 S.2.1 d_D_isRouter_12 (by decide) ?_
      refine lv_goto (tgt := 17) S.1 S.2.1 d_D_isRouter_13 (by decide) ?_
      cases hF
      exact zr_zret S hret hlk (by decide) hS d_D_isRouter_17 ⟨rfl, hP⟩

theorem d_L_size_0 : decode b_L_size 0 = .ok (.aload_n 0, 1) := by decide +kernel
theorem d_L_size_1 : decode b_L_size 1 = .ok (.getfield 18, 3) := by decide +kernel
theorem d_L_size_4 : decode b_L_size 4 = .ok (.aload_n 0, 1) := by decide +kernel
theorem d_L_size_5 : decode b_L_size 5 = .ok (.getfield 22, 3) := by decide +kernel
theorem d_L_size_8 : decode b_L_size 8 = .ok (.isub, 1) := by decide +kernel
theorem d_L_size_9 : decode b_L_size 9 = .ok (.ireturn, 1) := by decide +kernel
def F_L_size (n : Nat) (st : zS) : Option (Int32 × zS) :=
    some ((st 3 0 1) - (st 3 0 0), st)

set_option maxHeartbeats 4000000 in
set_option maxRecDepth 1000000 in
theorem C_L_size {dC : Nat → ClassId} {dI : Nat → Nat → Nat} {cI cZ cR cA : ClassId} {n : Nat} {ad : zK → Nat} {A : Nat → Prop} (hn : 2 ≤ n ∧ n ≤ 6) (hD : zD A (zKs n) ad) (l : Launch) (st : zS) (out : Int32 × zS) (hF : F_L_size n st = some out) : zC zT (dC, dI) zcl (zty cI cZ cR cA) A l y_L_size b_L_size 1 (some .int) rm_L_size [.ref (ad (3, 0))] (fun H => zV (dC, dI) zcl (zKs n) ad (zcE n cI cZ cR cA ad) st H) (fun o H => o = some (.int out.1) ∧ zV (dC, dI) zcl (zKs n) ad (zcE n cI cZ cR cA ad) out.2 H) := by
  refine zC_of (by decide) (Nat.le_of_ble_eq_true rfl) (fun p e s m args below meth c ls S hret hlk hK hP hl => ?_)
  have hS : va_S A s.heap s.heap [] := va_S.rf
  have hl : lv_has ls 1 [(0, .ref (ad (3, 0)))] := hl
  have hP : zV (dC, dI) zcl (zKs n) ad (zcE n cI cZ cR cA ad) st s.heap := hP
  unfold F_L_size at hF
  refine lv_aload_n S.1 S.2.1 d_L_size_0 rfl (lv_at hl 0 rfl) ?_
  refine zr_get (v := .int (st 3 0 1)) S zi_L hK hP zk_3 rfl rfl 3 (by decide) zx_20 rfl d_L_size_1 ?_
  refine lv_aload_n S.1 S.2.1 d_L_size_4 rfl (lv_at hl 0 rfl) ?_
  refine zr_get (v := .int (st 3 0 0)) S zi_L hK hP zk_3 rfl rfl 2 (by decide) zx_21 rfl d_L_size_5 ?_
  refine lv_isub S.1 S.2.1 d_L_size_8 ?_
  cases hF
  exact zr_iret S hret hlk hS d_L_size_9 ⟨rfl, hP⟩

theorem d_D_route_0 : decode b_D_route 0 = .ok (.aload_n 0, 1) := by decide +kernel
theorem d_D_route_1 : decode b_D_route 1 = .ok (.getfield 29, 3) := by decide +kernel
theorem d_D_route_4 : decode b_D_route 4 = .ok (.iload_n 1, 1) := by decide +kernel
theorem d_D_route_5 : decode b_D_route 5 = .ok (.aload_n 0, 1) := by decide +kernel
theorem d_D_route_6 : decode b_D_route 6 = .ok (.getfield 18, 3) := by decide +kernel
theorem d_D_route_9 : decode b_D_route 9 = .ok (.imul, 1) := by decide +kernel
theorem d_D_route_10 : decode b_D_route 10 = .ok (.iload_n 2, 1) := by decide +kernel
theorem d_D_route_11 : decode b_D_route 11 = .ok (.iadd, 1) := by decide +kernel
theorem d_D_route_12 : decode b_D_route 12 = .ok (.aaload, 1) := by decide +kernel
theorem d_D_route_13 : decode b_D_route 13 = .ok (.areturn, 1) := by decide +kernel
def F_D_route (n : Nat) (v1 : Int32) (v2 : Int32) (st : zS) : Option (Nat × zS) :=
    if zOut ((v1 * (nI n)) + v2) (n * n) then none else some (6 * ((Int32.toNatClampNeg ((v1 * (nI n)) + v2)) / n) + (Int32.toNatClampNeg ((v1 * (nI n)) + v2)) % n, st)

set_option maxHeartbeats 4000000 in
set_option maxRecDepth 1000000 in
theorem C_D_route {dC : Nat → ClassId} {dI : Nat → Nat → Nat} {cI cZ cR cA : ClassId} {n : Nat} {ad : zK → Nat} {A : Nat → Prop} (hn : 2 ≤ n ∧ n ≤ 6) (hD : zD A (zKs n) ad) (l : Launch) (v1 : Int32) (v2 : Int32) (st : zS) (out : Nat × zS) (hF : F_D_route n v1 v2 st = some out) : zC zT (dC, dI) zcl (zty cI cZ cR cA) A l y_D_route b_D_route 3 (some (.object N_R)) rm_D_route [.ref (ad (0, 0)), .int v1, .int v2] (fun H => zV (dC, dI) zcl (zKs n) ad (zcE n cI cZ cR cA ad) st H) (fun o H => o = some (.ref (ad (7, out.1))) ∧ zV (dC, dI) zcl (zKs n) ad (zcE n cI cZ cR cA ad) out.2 H) := by
  refine zC_of (by decide) (Nat.le_of_ble_eq_true rfl) (fun p e s m args below meth c ls S hret hlk hK hP hl => ?_)
  have hS : va_S A s.heap s.heap [] := va_S.rf
  have hl : lv_has ls 3 [(0, .ref (ad (0, 0))), (1, .int v1), (2, .int v2)] := hl
  have hP : zV (dC, dI) zcl (zKs n) ad (zcE n cI cZ cR cA ad) st s.heap := hP
  unfold F_D_route at hF
  refine lv_aload_n S.1 S.2.1 d_D_route_0 rfl (lv_at hl 0 rfl) ?_
  refine zr_get (v := .ref (ad (2, 0))) S zi_D hK hP zk_0 rfl rfl 2 (by decide) zx_10 rfl d_D_route_1 ?_
  refine lv_iload_n S.1 S.2.1 d_D_route_4 rfl (lv_at hl 1 rfl) ?_
  refine lv_aload_n S.1 S.2.1 d_D_route_5 rfl (lv_at hl 0 rfl) ?_
  refine zr_get (v := .int (nI n)) S zi_D hK hP zk_0 rfl rfl 0 (by decide) zx_8 rfl d_D_route_6 ?_
  refine lv_imul S.1 S.2.1 d_D_route_9 ?_
  refine lv_iload_n S.1 S.2.1 d_D_route_10 rfl (lv_at hl 2 rfl) ?_
  refine lv_iadd S.1 S.2.1 d_D_route_11 ?_
  by_cases g12 : zOut ((v1 * (nI n)) + v2) (n * n)
  · rw [if_pos g12] at hF; cases hF
  rw [if_neg g12] at hF
  refine zr_aald (b := ad (7, 6 * ((Int32.toNatClampNeg ((v1 * (nI n)) + v2)) / n) + (Int32.toNatClampNeg ((v1 * (nI n)) + v2)) % n)) S hK hP zk_2 rfl 2 rfl rfl g12 rfl d_D_route_12 ?_
  cases hF
  exact zr_aret S hret hlk hS d_D_route_13 ⟨rfl, hP⟩

theorem zk_D_route {n : Nat} (hn : 2 ≤ n ∧ n ≤ 6) {a b : Int32} {st st1 : zS} {r : Nat} (h : F_D_route n a b st = some (r, st1)) : (((7 : Nat), r) : zK) ∈ zKs n := by
  unfold F_D_route at h
  by_cases g : zOut (a * nI n + b) (n * n)
  · rw [if_pos g] at h; cases h
  rw [if_neg g] at h
  cases h
  exact zk_7 hn g
theorem d_L_send_0 : decode b_L_send 0 = .ok (.aload_n 0, 1) := by decide +kernel
theorem d_L_send_1 : decode b_L_send 1 = .ok (.getfield 18, 3) := by decide +kernel
theorem d_L_send_4 : decode b_L_send 4 = .ok (.sipush 1024, 3) := by decide +kernel
theorem d_L_send_7 : decode b_L_send 7 = .ok (.if_icmp .ne 36, 3) := by decide +kernel
theorem d_L_send_10 : decode b_L_send 10 = .ok (.aload_n 0, 1) := by decide +kernel
theorem d_L_send_11 : decode b_L_send 11 = .ok (.getfield 11, 3) := by decide +kernel
theorem d_L_send_14 : decode b_L_send 14 = .ok (.aload_n 0, 1) := by decide +kernel
theorem d_L_send_15 : decode b_L_send 15 = .ok (.getfield 22, 3) := by decide +kernel
theorem d_L_send_18 : decode b_L_send 18 = .ok (.aload_n 0, 1) := by decide +kernel
theorem d_L_send_19 : decode b_L_send 19 = .ok (.getfield 11, 3) := by decide +kernel
theorem d_L_send_22 : decode b_L_send 22 = .ok (.iconst 0, 1) := by decide +kernel
theorem d_L_send_23 : decode b_L_send 23 = .ok (.aload_n 0, 1) := by decide +kernel
theorem d_L_send_24 : decode b_L_send 24 = .ok (.invokevirtual 25, 3) := by decide +kernel
theorem d_L_send_27 : decode b_L_send 27 = .ok (.invokestatic 29, 3) := by decide +kernel
theorem d_L_send_30 : decode b_L_send 30 = .ok (.aload_n 0, 1) := by decide +kernel
theorem d_L_send_31 : decode b_L_send 31 = .ok (.aload_n 0, 1) := by decide +kernel
theorem d_L_send_32 : decode b_L_send 32 = .ok (.invokevirtual 25, 3) := by decide +kernel
theorem d_L_send_35 : decode b_L_send 35 = .ok (.putfield 18, 3) := by decide +kernel
theorem d_L_send_38 : decode b_L_send 38 = .ok (.aload_n 0, 1) := by decide +kernel
theorem d_L_send_39 : decode b_L_send 39 = .ok (.iconst 0, 1) := by decide +kernel
theorem d_L_send_40 : decode b_L_send 40 = .ok (.putfield 22, 3) := by decide +kernel
theorem d_L_send_43 : decode b_L_send 43 = .ok (.aload_n 0, 1) := by decide +kernel
theorem d_L_send_44 : decode b_L_send 44 = .ok (.getfield 18, 3) := by decide +kernel
theorem d_L_send_47 : decode b_L_send 47 = .ok (.sipush 1024, 3) := by decide +kernel
theorem d_L_send_50 : decode b_L_send 50 = .ok (.if_icmp .ne 4, 3) := by decide +kernel
theorem d_L_send_53 : decode b_L_send 53 = .ok (.return_, 1) := by decide +kernel
theorem d_L_send_54 : decode b_L_send 54 = .ok (.aload_n 0, 1) := by decide +kernel
theorem d_L_send_55 : decode b_L_send 55 = .ok (.getfield 11, 3) := by decide +kernel
theorem d_L_send_58 : decode b_L_send 58 = .ok (.aload_n 0, 1) := by decide +kernel
theorem d_L_send_59 : decode b_L_send 59 = .ok (.getfield 18, 3) := by decide +kernel
theorem d_L_send_62 : decode b_L_send 62 = .ok (.aload_n 1, 1) := by decide +kernel
theorem d_L_send_63 : decode b_L_send 63 = .ok (.getfield 35, 3) := by decide +kernel
theorem d_L_send_66 : decode b_L_send 66 = .ok (.bipush 22, 2) := by decide +kernel
theorem d_L_send_68 : decode b_L_send 68 = .ok (.ishl, 1) := by decide +kernel
theorem d_L_send_69 : decode b_L_send 69 = .ok (.iload_n 2, 1) := by decide +kernel
theorem d_L_send_70 : decode b_L_send 70 = .ok (.bipush 19, 2) := by decide +kernel
theorem d_L_send_72 : decode b_L_send 72 = .ok (.ishl, 1) := by decide +kernel
theorem d_L_send_73 : decode b_L_send 73 = .ok (.ior, 1) := by decide +kernel
theorem d_L_send_74 : decode b_L_send 74 = .ok (.iload_n 3, 1) := by decide +kernel
theorem d_L_send_75 : decode b_L_send 75 = .ok (.bipush 17, 2) := by decide +kernel
theorem d_L_send_77 : decode b_L_send 77 = .ok (.ishl, 1) := by decide +kernel
theorem d_L_send_78 : decode b_L_send 78 = .ok (.ior, 1) := by decide +kernel
theorem d_L_send_79 : decode b_L_send 79 = .ok (.aload_n 1, 1) := by decide +kernel
theorem d_L_send_80 : decode b_L_send 80 = .ok (.getfield 40, 3) := by decide +kernel
theorem d_L_send_83 : decode b_L_send 83 = .ok (.bipush 14, 2) := by decide +kernel
theorem d_L_send_85 : decode b_L_send 85 = .ok (.ishl, 1) := by decide +kernel
theorem d_L_send_86 : decode b_L_send 86 = .ok (.ior, 1) := by decide +kernel
theorem d_L_send_87 : decode b_L_send 87 = .ok (.aload_n 1, 1) := by decide +kernel
theorem d_L_send_88 : decode b_L_send 88 = .ok (.getfield 43, 3) := by decide +kernel
theorem d_L_send_91 : decode b_L_send 91 = .ok (.ior, 1) := by decide +kernel
theorem d_L_send_92 : decode b_L_send 92 = .ok (.iastore, 1) := by decide +kernel
theorem d_L_send_93 : decode b_L_send 93 = .ok (.aload_n 0, 1) := by decide +kernel
theorem d_L_send_94 : decode b_L_send 94 = .ok (.dup, 1) := by decide +kernel
theorem d_L_send_95 : decode b_L_send 95 = .ok (.getfield 18, 3) := by decide +kernel
theorem d_L_send_98 : decode b_L_send 98 = .ok (.iconst 1, 1) := by decide +kernel
theorem d_L_send_99 : decode b_L_send 99 = .ok (.iadd, 1) := by decide +kernel
theorem d_L_send_100 : decode b_L_send 100 = .ok (.putfield 18, 3) := by decide +kernel
theorem d_L_send_103 : decode b_L_send 103 = .ok (.aload_n 0, 1) := by decide +kernel
theorem d_L_send_104 : decode b_L_send 104 = .ok (.getfield 15, 3) := by decide +kernel
theorem d_L_send_107 : decode b_L_send 107 = .ok (.iload_n 3, 1) := by decide +kernel
theorem d_L_send_108 : decode b_L_send 108 = .ok (.dup2, 1) := by decide +kernel
theorem d_L_send_109 : decode b_L_send 109 = .ok (.iaload, 1) := by decide +kernel
theorem d_L_send_110 : decode b_L_send 110 = .ok (.iconst 1, 1) := by decide +kernel
theorem d_L_send_111 : decode b_L_send 111 = .ok (.iadd, 1) := by decide +kernel
theorem d_L_send_112 : decode b_L_send 112 = .ok (.iastore, 1) := by decide +kernel
theorem d_L_send_113 : decode b_L_send 113 = .ok (.return_, 1) := by decide +kernel
def F_L_send_L43_s3 (n : Nat) (st : zS) : Option (Int32 × zS) :=
    some (0, st)

def F_L_send_L43_s2 (n : Nat) (v3 : Int32) (st : zS) : Option (Int32 × zS) :=
    if zOut v3 3 then none else if zOut v3 3 then none else F_L_send_L43_s3 n (zs st 5 0 (Int32.toNatClampNeg v3) ((st 5 0 (Int32.toNatClampNeg v3)) + 1))

def F_L_send_L43_s1 (n : Nat) (v3 : Int32) (st : zS) : Option (Int32 × zS) :=
    F_L_send_L43_s2 n v3 (zs st 3 0 1 ((st 3 0 1) + 1))

def F_L_send_L43 (n : Nat) (k1 : Nat) (v2 : Int32) (v3 : Int32) (st : zS) : Option (Int32 × zS) :=
    if (st 3 0 1) = 1024 then (some (0, st)) else (if zOut (st 3 0 1) 1024 then none else F_L_send_L43_s1 n v3 (zs st 4 0 (Int32.toNatClampNeg (st 3 0 1)) ((((((nI (k1 / 6)) <<< (22 &&& 31)) ||| (v2 <<< (19 &&& 31))) ||| (v3 <<< (17 &&& 31))) ||| ((nI (k1 % 6)) <<< (14 &&& 31))) ||| (st 7 k1 0))))

def F_L_send_s5 (n : Nat) (k1 : Nat) (v2 : Int32) (v3 : Int32) (st : zS) : Option (Int32 × zS) :=
    F_L_send_L43 n k1 v2 v3 st

def F_L_send_s4 (n : Nat) (k1 : Nat) (v2 : Int32) (v3 : Int32) (st : zS) : Option (Int32 × zS) :=
    F_L_send_s5 n k1 v2 v3 (zs st 3 0 0 0)

def F_L_send_s3 (n : Nat) (k1 : Nat) (v2 : Int32) (v3 : Int32) (t1 : Int32) (st : zS) : Option (Int32 × zS) :=
    F_L_send_s4 n k1 v2 v3 (zs st 3 0 1 t1)

def F_L_send_s2 (n : Nat) (k1 : Nat) (v2 : Int32) (v3 : Int32) (st : zS) : Option (Int32 × zS) :=
    (F_L_size n st).bind (fun u => F_L_send_s3 n k1 v2 v3 u.1 u.2)

def F_L_send_s1 (n : Nat) (k1 : Nat) (v2 : Int32) (v3 : Int32) (t1 : Int32) (t3 : Int32) (t4 : Int32) (st : zS) : Option (Int32 × zS) :=
    if zCpyOut t1 t3 t4 1024 then none else F_L_send_s2 n k1 v2 v3 (zrow st 4 0 (va_cpy (st 4 0) (st 4 0) (Int32.toNatClampNeg t1) (Int32.toNatClampNeg t3) (Int32.toNatClampNeg t4)))

def F_L_send (n : Nat) (k1 : Nat) (v2 : Int32) (v3 : Int32) (st : zS) : Option (Int32 × zS) :=
    if (st 3 0 1) = 1024 then ((F_L_size n st).bind (fun u => F_L_send_s1 n k1 v2 v3 (st 3 0 0) 0 u.1 u.2)) else (F_L_send_L43 n k1 v2 v3 st)

set_option maxHeartbeats 4000000 in
set_option maxRecDepth 1000000 in
theorem T_L_send_L43 {dC : Nat → ClassId} {dI : Nat → Nat → Nat} {cI cZ cR cA : ClassId} {n : Nat} {ad : zK → Nat} {A : Nat → Prop} (hn : 2 ≤ n ∧ n ≤ 6) (hD : zD A (zKs n) ad) {p : Program} {l : Launch} {e : Env} {s : State} {m : MethodId} {args : Array Value} {below : List Frame} {meth : Method} {c : Code} (S : CallFix p m c b_L_send 4 s args zT N_L) (hret : meth.sig.returnType = none) (hlk : meth.locks = false) (hK : va_K (dC, dI) zcl (zty cI cZ cR cA) s) (out : Int32 × zS) (k1 : Nat) (v2 : Int32) (v3 : Int32) (hk1 : (7, k1) ∈ zKs n) (st : zS) (H : Heap) (locs : List Loc) (ls : Array Slot) (hP : zV (dC, dI) zcl (zKs n) ad (zcE n cI cZ cR cA ad) st H) (hS : va_S A s.heap H locs) (hl : lv_has ls 4 [(0, .ref (ad (3, 0))), (1, .ref (ad (7, k1))), (2, .int v2), (3, .int v3)]) (hF : F_L_send_L43 n k1 v2 v3 st = some out) : W p l e rm_L_send s m args below meth c H locs 0 0 (zQ below A (fun o H => o = none ∧ zV (dC, dI) zcl (zKs n) ad (zcE n cI cZ cR cA ad) out.2 H) args s) (F0 m 43 ls []) := by
  unfold F_L_send_L43 at hF
  refine lv_aload_n S.1 S.2.1 d_L_send_43 rfl (lv_at hl 0 rfl) ?_
  refine zr_get (v := .int (st 3 0 1)) S zi_L hK hP zk_3 rfl rfl 3 (by decide) zx_20 rfl d_L_send_44 ?_
  refine lv_sipush (v := 1024) S.1 S.2.1 d_L_send_47 (by decide) ?_
  refine lv_icmp_ne (tgt := 54) S.1 S.2.1 d_L_send_50 (by decide) (fun h50 => ?_) (fun h50 => ?_)
  · rw [if_neg h50] at hF
    refine lv_aload_n S.1 S.2.1 d_L_send_54 rfl (lv_at hl 0 rfl) ?_
    refine zr_get (v := .ref (ad (4, 0))) S zi_L hK hP zk_3 rfl rfl 0 (by decide) zx_18 rfl d_L_send_55 ?_
    refine lv_aload_n S.1 S.2.1 d_L_send_58 rfl (lv_at hl 0 rfl) ?_
    refine zr_get (v := .int (st 3 0 1)) S zi_L hK hP zk_3 rfl rfl 3 (by decide) zx_20 rfl d_L_send_59 ?_
    refine lv_aload_n S.1 S.2.1 d_L_send_62 rfl (lv_at hl 1 rfl) ?_
    refine zr_get (v := .int (nI (k1 / 6))) S zi_R hK hP hk1 rfl rfl 0 (by decide) zx_22 rfl d_L_send_63 ?_
    refine lv_bipush (v := 22) S.1 S.2.1 d_L_send_66 (by decide) ?_
    refine lv_ishl S.1 S.2.1 d_L_send_68 ?_
    refine lv_iload_n S.1 S.2.1 d_L_send_69 rfl (lv_at hl 2 rfl) ?_
    refine lv_bipush (v := 19) S.1 S.2.1 d_L_send_70 (by decide) ?_
    refine lv_ishl S.1 S.2.1 d_L_send_72 ?_
    refine lv_ior S.1 S.2.1 d_L_send_73 ?_
    refine lv_iload_n S.1 S.2.1 d_L_send_74 rfl (lv_at hl 3 rfl) ?_
    refine lv_bipush (v := 17) S.1 S.2.1 d_L_send_75 (by decide) ?_
    refine lv_ishl S.1 S.2.1 d_L_send_77 ?_
    refine lv_ior S.1 S.2.1 d_L_send_78 ?_
    refine lv_aload_n S.1 S.2.1 d_L_send_79 rfl (lv_at hl 1 rfl) ?_
    refine zr_get (v := .int (nI (k1 % 6))) S zi_R hK hP hk1 rfl rfl 1 (by decide) zx_23 rfl d_L_send_80 ?_
    refine lv_bipush (v := 14) S.1 S.2.1 d_L_send_83 (by decide) ?_
    refine lv_ishl S.1 S.2.1 d_L_send_85 ?_
    refine lv_ior S.1 S.2.1 d_L_send_86 ?_
    refine lv_aload_n S.1 S.2.1 d_L_send_87 rfl (lv_at hl 1 rfl) ?_
    refine zr_get (v := .int (st 7 k1 0)) S zi_R hK hP hk1 rfl rfl 5 (by decide) zx_24 rfl d_L_send_88 ?_
    refine lv_ior S.1 S.2.1 d_L_send_91 ?_
    by_cases g92 : zOut (st 3 0 1) 1024
    · rw [if_pos g92] at hF; cases hF
    rw [if_neg g92] at hF
    refine zr_iast S hK hP hD hS zk_4 (fun _ => rfl) 0 rfl g92 d_L_send_92 (fun H locs hP hS => ?_)
    replace hF : F_L_send_L43_s1 n v3 (zs st 4 0 (Int32.toNatClampNeg (st 3 0 1)) ((((((nI (k1 / 6)) <<< (22 &&& 31)) ||| (v2 <<< (19 &&& 31))) ||| (v3 <<< (17 &&& 31))) ||| ((nI (k1 % 6)) <<< (14 &&& 31))) ||| (st 7 k1 0))) = some out := hF
    generalize zs st 4 0 (Int32.toNatClampNeg (st 3 0 1)) ((((((nI (k1 / 6)) <<< (22 &&& 31)) ||| (v2 <<< (19 &&& 31))) ||| (v3 <<< (17 &&& 31))) ||| ((nI (k1 % 6)) <<< (14 &&& 31))) ||| (st 7 k1 0)) = st93 at hP hF
    unfold F_L_send_L43_s1 at hF
    refine lv_aload_n S.1 S.2.1 d_L_send_93 rfl (lv_at hl 0 rfl) ?_
    refine lv_dup S.1 S.2.1 d_L_send_94 rfl ?_
    refine zr_get (v := .int (st93 3 0 1)) S zi_L hK hP zk_3 rfl rfl 3 (by decide) zx_20 rfl d_L_send_95 ?_
    refine lv_iconst (v := 1) S.1 S.2.1 d_L_send_98 (by decide) ?_
    refine lv_iadd S.1 S.2.1 d_L_send_99 ?_
    refine zr_put (v := (st93 3 0 1) + 1) S zi_L t_L t_L_ok n_L hK hP hD hS zk_3 rfl rfl 3 (by decide) zx_20 rfl rfl rfl (Nat.le_of_ble_eq_true rfl) 1 rfl d_L_send_100 (fun H locs hP hS => ?_)
    replace hF : F_L_send_L43_s2 n v3 (zs st93 3 0 1 ((st93 3 0 1) + 1)) = some out := hF
    generalize zs st93 3 0 1 ((st93 3 0 1) + 1) = st103 at hP hF
    unfold F_L_send_L43_s2 at hF
    refine lv_aload_n S.1 S.2.1 d_L_send_103 rfl (lv_at hl 0 rfl) ?_
    refine zr_get (v := .ref (ad (5, 0))) S zi_L hK hP zk_3 rfl rfl 1 (by decide) zx_19 rfl d_L_send_104 ?_
    refine lv_iload_n S.1 S.2.1 d_L_send_107 rfl (lv_at hl 3 rfl) ?_
    refine lv_dup2_11 S.1 S.2.1 d_L_send_108 rfl rfl ?_
    by_cases g109 : zOut v3 3
    · rw [if_pos g109] at hF; cases hF
    rw [if_neg g109] at hF
    refine zr_iald S hK hP zk_5 rfl 0 rfl g109 d_L_send_109 ?_
    refine lv_iconst (v := 1) S.1 S.2.1 d_L_send_110 (by decide) ?_
    refine lv_iadd S.1 S.2.1 d_L_send_111 ?_
    by_cases g112 : zOut v3 3
    · rw [if_pos g112] at hF; cases hF
    rw [if_neg g112] at hF
    refine zr_iast S hK hP hD hS zk_5 (fun _ => rfl) 0 rfl g112 d_L_send_112 (fun H locs hP hS => ?_)
    replace hF : F_L_send_L43_s3 n (zs st103 5 0 (Int32.toNatClampNeg v3) ((st103 5 0 (Int32.toNatClampNeg v3)) + 1)) = some out := hF
    generalize zs st103 5 0 (Int32.toNatClampNeg v3) ((st103 5 0 (Int32.toNatClampNeg v3)) + 1) = st113 at hP hF
    unfold F_L_send_L43_s3 at hF
    cases hF
    exact zr_vret S hret hlk hS d_L_send_113 ⟨rfl, hP⟩
  · rw [if_pos h50] at hF
    cases hF
    exact zr_vret S hret hlk hS d_L_send_53 ⟨rfl, hP⟩

set_option maxHeartbeats 4000000 in
set_option maxRecDepth 1000000 in
theorem C_L_send {dC : Nat → ClassId} {dI : Nat → Nat → Nat} {cI cZ cR cA : ClassId} {n : Nat} {ad : zK → Nat} {A : Nat → Prop} (hn : 2 ≤ n ∧ n ≤ 6) (hD : zD A (zKs n) ad) (l : Launch) (k1 : Nat) (v2 : Int32) (v3 : Int32) (hk1 : (7, k1) ∈ zKs n) (st : zS) (out : Int32 × zS) (hF : F_L_send n k1 v2 v3 st = some out) : zC zT (dC, dI) zcl (zty cI cZ cR cA) A l y_L_send b_L_send 4 (none) rm_L_send [.ref (ad (3, 0)), .ref (ad (7, k1)), .int v2, .int v3] (fun H => zV (dC, dI) zcl (zKs n) ad (zcE n cI cZ cR cA ad) st H) (fun o H => o = none ∧ zV (dC, dI) zcl (zKs n) ad (zcE n cI cZ cR cA ad) out.2 H) := by
  refine zC_of (by decide) (Nat.le_of_ble_eq_true rfl) (fun p e s m args below meth c ls S hret hlk hK hP hl => ?_)
  have hS : va_S A s.heap s.heap [] := va_S.rf
  have hl : lv_has ls 4 [(0, .ref (ad (3, 0))), (1, .ref (ad (7, k1))), (2, .int v2), (3, .int v3)] := hl
  have hP : zV (dC, dI) zcl (zKs n) ad (zcE n cI cZ cR cA ad) st s.heap := hP
  unfold F_L_send at hF
  refine lv_aload_n S.1 S.2.1 d_L_send_0 rfl (lv_at hl 0 rfl) ?_
  refine zr_get (v := .int (st 3 0 1)) S zi_L hK hP zk_3 rfl rfl 3 (by decide) zx_20 rfl d_L_send_1 ?_
  refine lv_sipush (v := 1024) S.1 S.2.1 d_L_send_4 (by decide) ?_
  refine lv_icmp_ne (tgt := 43) S.1 S.2.1 d_L_send_7 (by decide) (fun h7 => ?_) (fun h7 => ?_)
  · rw [if_neg h7] at hF
    exact T_L_send_L43 hn hD S hret hlk hK out k1 v2 v3 hk1 st _ _ _ hP hS (lv_sub hl [0, 1, 2, 3] rfl) hF
  · rw [if_pos h7] at hF
    refine lv_aload_n S.1 S.2.1 d_L_send_10 rfl (lv_at hl 0 rfl) ?_
    refine zr_get (v := .ref (ad (4, 0))) S zi_L hK hP zk_3 rfl rfl 0 (by decide) zx_18 rfl d_L_send_11 ?_
    refine lv_aload_n S.1 S.2.1 d_L_send_14 rfl (lv_at hl 0 rfl) ?_
    refine zr_get (v := .int (st 3 0 0)) S zi_L hK hP zk_3 rfl rfl 2 (by decide) zx_21 rfl d_L_send_15 ?_
    refine lv_aload_n S.1 S.2.1 d_L_send_18 rfl (lv_at hl 0 rfl) ?_
    refine zr_get (v := .ref (ad (4, 0))) S zi_L hK hP zk_3 rfl rfl 0 (by decide) zx_18 rfl d_L_send_19 ?_
    refine lv_iconst (v := 0) S.1 S.2.1 d_L_send_22 (by decide) ?_
    refine lv_aload_n S.1 S.2.1 d_L_send_23 rfl (lv_at hl 0 rfl) ?_
    cases hc24 : F_L_size n st with
    | none => rw [hc24] at hF; cases hF
    | some u24 =>
      obtain ⟨r24, st24⟩ := u24
      rw [hc24] at hF
      replace hF := zbind hF
      refine zr_callV (rest := [.int 0, .ref (ad (4, 0)), .int (st 3 0 0), .ref (ad (4, 0))]) S zT_good (C_L_size hn hD l st (r24, st24) hc24) zn_L_size zx_90 ⟨rfl, rfl⟩ ⟨Nat.le_of_ble_eq_true rfl, Nat.le_of_ble_eq_true rfl⟩ ⟨Nat.zero_le _, Nat.zero_le _⟩ hK (zr_recv hK hP zk_3 rfl rfl) hP hl.1 (Nat.le_of_ble_eq_true rfl) hS (fun _ h => h) d_L_send_24 rfl (fun o H locs hpo _ _ hS => ?_)
      obtain ⟨rfl, hP⟩ := hpo
      refine W.eq (g2 := F0 m 27 ls [.int r24, .int 0, .ref (ad (4, 0)), .int (st 3 0 0), .ref (ad (4, 0))]) rfl ?_
      replace hF : F_L_send_s1 n k1 v2 v3 (st 3 0 0) 0 r24 st24 = some out := hF
      replace hP : zV (dC, dI) zcl (zKs n) ad (zcE n cI cZ cR cA ad) st24 H := hP
      unfold F_L_send_s1 at hF
      by_cases g27 : zCpyOut (st 3 0 0) 0 r24 1024
      · rw [if_pos g27] at hF; cases hF
      rw [if_neg g27] at hF
      refine zr_copy (rest := []) S hl.1 zx_91 zx_120 zx_123 zx_54 hK hP hD hS zk_4 (fun _ => rfl) 0 rfl g27 (Nat.le_of_ble_eq_true rfl) (Nat.le_of_ble_eq_true rfl) d_L_send_27 (fun H locs hP hS => ?_)
      replace hF : F_L_send_s2 n k1 v2 v3 (zrow st24 4 0 (va_cpy (st24 4 0) (st24 4 0) (Int32.toNatClampNeg (st 3 0 0)) (Int32.toNatClampNeg 0) (Int32.toNatClampNeg r24))) = some out := hF
      generalize zrow st24 4 0 (va_cpy (st24 4 0) (st24 4 0) (Int32.toNatClampNeg (st 3 0 0)) (Int32.toNatClampNeg 0) (Int32.toNatClampNeg r24)) = st30 at hP hF
      unfold F_L_send_s2 at hF
      refine lv_aload_n S.1 S.2.1 d_L_send_30 rfl (lv_at hl 0 rfl) ?_
      refine lv_aload_n S.1 S.2.1 d_L_send_31 rfl (lv_at hl 0 rfl) ?_
      cases hc32 : F_L_size n st30 with
      | none => rw [hc32] at hF; cases hF
      | some u32 =>
        obtain ⟨r32, st32⟩ := u32
        rw [hc32] at hF
        replace hF := zbind hF
        refine zr_callV (rest := [.ref (ad (3, 0))]) S zT_good (C_L_size hn hD l st30 (r32, st32) hc32) zn_L_size zx_90 ⟨rfl, rfl⟩ ⟨Nat.le_of_ble_eq_true rfl, Nat.le_of_ble_eq_true rfl⟩ ⟨Nat.zero_le _, Nat.zero_le _⟩ hK (zr_recv hK hP zk_3 rfl rfl) hP hl.1 (Nat.le_of_ble_eq_true rfl) hS (fun _ h => h) d_L_send_32 rfl (fun o H locs hpo _ _ hS => ?_)
        obtain ⟨rfl, hP⟩ := hpo
        refine W.eq (g2 := F0 m 35 ls [.int r32, .ref (ad (3, 0))]) rfl ?_
        replace hF : F_L_send_s3 n k1 v2 v3 r32 st32 = some out := hF
        replace hP : zV (dC, dI) zcl (zKs n) ad (zcE n cI cZ cR cA ad) st32 H := hP
        unfold F_L_send_s3 at hF
        refine zr_put (v := r32) S zi_L t_L t_L_ok n_L hK hP hD hS zk_3 rfl rfl 3 (by decide) zx_20 rfl rfl rfl (Nat.le_of_ble_eq_true rfl) 1 rfl d_L_send_35 (fun H locs hP hS => ?_)
        replace hF : F_L_send_s4 n k1 v2 v3 (zs st32 3 0 1 r32) = some out := hF
        generalize zs st32 3 0 1 r32 = st38 at hP hF
        unfold F_L_send_s4 at hF
        refine lv_aload_n S.1 S.2.1 d_L_send_38 rfl (lv_at hl 0 rfl) ?_
        refine lv_iconst (v := 0) S.1 S.2.1 d_L_send_39 (by decide) ?_
        refine zr_put (v := 0) S zi_L t_L t_L_ok n_L hK hP hD hS zk_3 rfl rfl 2 (by decide) zx_21 rfl rfl rfl (Nat.le_of_ble_eq_true rfl) 0 rfl d_L_send_40 (fun H locs hP hS => ?_)
        replace hF : F_L_send_s5 n k1 v2 v3 (zs st38 3 0 0 0) = some out := hF
        generalize zs st38 3 0 0 0 = st43 at hP hF
        unfold F_L_send_s5 at hF
        exact T_L_send_L43 hn hD S hret hlk hK out k1 v2 v3 hk1 st43 _ _ _ hP hS (lv_sub hl [0, 1, 2, 3] rfl) hF

theorem d_D_greet_0 : decode b_D_greet 0 = .ok (.iconst 0, 1) := by decide +kernel
theorem d_D_greet_1 : decode b_D_greet 1 = .ok (.istore_n 3, 1) := by decide +kernel
theorem d_D_greet_2 : decode b_D_greet 2 = .ok (.iload_n 3, 1) := by decide +kernel
theorem d_D_greet_3 : decode b_D_greet 3 = .ok (.aload_n 0, 1) := by decide +kernel
theorem d_D_greet_4 : decode b_D_greet 4 = .ok (.getfield 18, 3) := by decide +kernel
theorem d_D_greet_7 : decode b_D_greet 7 = .ok (.if_icmp .ge 39, 3) := by decide +kernel
theorem d_D_greet_10 : decode b_D_greet 10 = .ok (.aload_n 0, 1) := by decide +kernel
theorem d_D_greet_11 : decode b_D_greet 11 = .ok (.iload_n 1, 1) := by decide +kernel
theorem d_D_greet_12 : decode b_D_greet 12 = .ok (.iload_n 3, 1) := by decide +kernel
theorem d_D_greet_13 : decode b_D_greet 13 = .ok (.invokevirtual 85, 3) := by decide +kernel
theorem d_D_greet_16 : decode b_D_greet 16 = .ok (.astore 4, 2) := by decide +kernel
theorem d_D_greet_18 : decode b_D_greet 18 = .ok (.aload 4, 2) := by decide +kernel
theorem d_D_greet_20 : decode b_D_greet 20 = .ok (.getfield 89, 3) := by decide +kernel
theorem d_D_greet_23 : decode b_D_greet 23 = .ok (.sipush 10000, 3) := by decide +kernel
theorem d_D_greet_26 : decode b_D_greet 26 = .ok (.if_icmp .eq 14, 3) := by decide +kernel
theorem d_D_greet_29 : decode b_D_greet 29 = .ok (.aload_n 0, 1) := by decide +kernel
theorem d_D_greet_30 : decode b_D_greet 30 = .ok (.getfield 39, 3) := by decide +kernel
theorem d_D_greet_33 : decode b_D_greet 33 = .ok (.aload 4, 2) := by decide +kernel
theorem d_D_greet_35 : decode b_D_greet 35 = .ok (.iload_n 2, 1) := by decide +kernel
theorem d_D_greet_36 : decode b_D_greet 36 = .ok (.iconst 0, 1) := by decide +kernel
theorem d_D_greet_37 : decode b_D_greet 37 = .ok (.invokevirtual 137, 3) := by decide +kernel
theorem d_D_greet_40 : decode b_D_greet 40 = .ok (.iinc 3 1, 3) := by decide +kernel
theorem d_D_greet_43 : decode b_D_greet 43 = .ok (.goto (-41), 3) := by decide +kernel
theorem d_D_greet_46 : decode b_D_greet 46 = .ok (.return_, 1) := by decide +kernel
def F_D_greet_L40 (n : Nat) (c2 : Int32 → Int32 → Int32 → zS → Option (Int32 × zS)) (v1 : Int32) (v2 : Int32) (v3 : Int32) (st : zS) : Option (Int32 × zS) :=
    c2 v1 v2 (v3 + 1) st

def F_D_greet_L2_s2 (n : Nat) (c2 : Int32 → Int32 → Int32 → zS → Option (Int32 × zS)) (v1 : Int32) (v2 : Int32) (v3 : Int32) (st : zS) : Option (Int32 × zS) :=
    F_D_greet_L40 n c2 v1 v2 v3 st

def F_D_greet_L2_s1 (n : Nat) (c2 : Int32 → Int32 → Int32 → zS → Option (Int32 × zS)) (v1 : Int32) (v2 : Int32) (v3 : Int32) (u0 : Nat) (st : zS) : Option (Int32 × zS) :=
    if (st 7 u0 0) = 10000 then (F_D_greet_L40 n c2 v1 v2 v3 st) else ((F_L_send n u0 v2 0 st).bind (fun u => F_D_greet_L2_s2 n c2 v1 v2 v3 u.2))

def F_D_greet_L2 (n : Nat) : Nat → Int32 → Int32 → Int32 → zS → Option (Int32 × zS)
  | 0, _, _, _, _ => none
  | f + 1, v1, v2, v3, st =>
    if (nI n) ≤ v3 then (some (0, st)) else ((F_D_route n v1 v3 st).bind (fun u => F_D_greet_L2_s1 n (F_D_greet_L2 n f) v1 v2 v3 u.1 u.2))

def F_D_greet (n : Nat) (v1 : Int32) (v2 : Int32) (st : zS) : Option (Int32 × zS) :=
    F_D_greet_L2 n zFuel v1 v2 0 st

set_option maxHeartbeats 4000000 in
set_option maxRecDepth 1000000 in
theorem T_D_greet_L40 {dC : Nat → ClassId} {dI : Nat → Nat → Nat} {cI cZ cR cA : ClassId} {n : Nat} {ad : zK → Nat} {A : Nat → Prop} (hn : 2 ≤ n ∧ n ≤ 6) (hD : zD A (zKs n) ad) {p : Program} {l : Launch} {e : Env} {s : State} {m : MethodId} {args : Array Value} {below : List Frame} {meth : Method} {c : Code} (S : CallFix p m c b_D_greet 5 s args zT N_D) (hret : meth.sig.returnType = none) (hlk : meth.locks = false) (hK : va_K (dC, dI) zcl (zty cI cZ cR cA) s) (out : Int32 × zS) (c2 : Int32 → Int32 → Int32 → zS → Option (Int32 × zS)) (hc2 : ∀ (v1 : Int32) (v2 : Int32) (v3 : Int32) (st : zS) (H : Heap) (locs : List Loc) (ls : Array Slot), zV (dC, dI) zcl (zKs n) ad (zcE n cI cZ cR cA ad) st H → va_S A s.heap H locs → lv_has ls 5 [(0, .ref (ad (0, 0))), (1, .int v1), (2, .int v2), (3, .int v3)] → c2 v1 v2 v3 st = some out → W p l e rm_D_greet s m args below meth c H locs 0 0 (zQ below A (fun o H => o = none ∧ zV (dC, dI) zcl (zKs n) ad (zcE n cI cZ cR cA ad) out.2 H) args s) (F0 m 2 ls [])) (v1 : Int32) (v2 : Int32) (v3 : Int32) (st : zS) (H : Heap) (locs : List Loc) (ls : Array Slot) (hP : zV (dC, dI) zcl (zKs n) ad (zcE n cI cZ cR cA ad) st H) (hS : va_S A s.heap H locs) (hl : lv_has ls 5 [(0, .ref (ad (0, 0))), (1, .int v1), (2, .int v2), (3, .int v3)]) (hF : F_D_greet_L40 n c2 v1 v2 v3 st = some out) : W p l e rm_D_greet s m args below meth c H locs 0 0 (zQ below A (fun o H => o = none ∧ zV (dC, dI) zcl (zKs n) ad (zcE n cI cZ cR cA ad) out.2 H) args s) (F0 m 40 ls []) := by
  unfold F_D_greet_L40 at hF
  refine lv_iinc (k := 3) (v := v3 + 1) S.1 S.2.1 d_D_greet_40 hl rfl rfl (by decide) rfl (fun ls hl => ?_)
  have hl : lv_has ls 5 [(3, .int (v3 + 1)), (0, .ref (ad (0, 0))), (1, .int v1), (2, .int v2)] := hl
  refine lv_goto (tgt := 2) S.1 S.2.1 d_D_greet_43 (by decide) ?_
  exact hc2 v1 v2 (v3 + 1) st _ _ _ hP hS (lv_sub hl [1, 2, 3, 0] rfl) hF

set_option maxHeartbeats 4000000 in
set_option maxRecDepth 1000000 in
theorem T_D_greet_L2 {dC : Nat → ClassId} {dI : Nat → Nat → Nat} {cI cZ cR cA : ClassId} {n : Nat} {ad : zK → Nat} {A : Nat → Prop} (hn : 2 ≤ n ∧ n ≤ 6) (hD : zD A (zKs n) ad) {p : Program} {l : Launch} {e : Env} {s : State} {m : MethodId} {args : Array Value} {below : List Frame} {meth : Method} {c : Code} (S : CallFix p m c b_D_greet 5 s args zT N_D) (hret : meth.sig.returnType = none) (hlk : meth.locks = false) (hK : va_K (dC, dI) zcl (zty cI cZ cR cA) s) (out : Int32 × zS) : ∀ (fu : Nat) (v1 : Int32) (v2 : Int32) (v3 : Int32) (st : zS) (H : Heap) (locs : List Loc) (ls : Array Slot) (hP : zV (dC, dI) zcl (zKs n) ad (zcE n cI cZ cR cA ad) st H) (hS : va_S A s.heap H locs) (hl : lv_has ls 5 [(0, .ref (ad (0, 0))), (1, .int v1), (2, .int v2), (3, .int v3)]) (hF : F_D_greet_L2 n fu v1 v2 v3 st = some out), W p l e rm_D_greet s m args below meth c H locs 0 0 (zQ below A (fun o H => o = none ∧ zV (dC, dI) zcl (zKs n) ad (zcE n cI cZ cR cA ad) out.2 H) args s) (F0 m 2 ls []) := by
  intro fu
  induction fu with
  | zero => intro v1 v2 v3 st H locs ls hP hS hl hF; rw [F_D_greet_L2] at hF; cases hF
  | succ f ih =>
    intro v1 v2 v3 st H locs ls hP hS hl hF
    rw [F_D_greet_L2] at hF
    refine lv_iload_n S.1 S.2.1 d_D_greet_2 rfl (lv_at hl 3 rfl) ?_
    refine lv_aload_n S.1 S.2.1 d_D_greet_3 rfl (lv_at hl 0 rfl) ?_
    refine zr_get (v := .int (nI n)) S zi_D hK hP zk_0 rfl rfl 0 (by decide) zx_8 rfl d_D_greet_4 ?_
    refine lv_icmp_ge (tgt := 46) S.1 S.2.1 d_D_greet_7 (by decide) (fun h7 => ?_) (fun h7 => ?_)
    · rw [if_pos h7] at hF
      cases hF
      exact zr_vret S hret hlk hS d_D_greet_46 ⟨rfl, hP⟩
    · rw [if_neg h7] at hF
      refine lv_aload_n S.1 S.2.1 d_D_greet_10 rfl (lv_at hl 0 rfl) ?_
      refine lv_iload_n S.1 S.2.1 d_D_greet_11 rfl (lv_at hl 1 rfl) ?_
      refine lv_iload_n S.1 S.2.1 d_D_greet_12 rfl (lv_at hl 3 rfl) ?_
      cases hc13 : F_D_route n v1 v3 st with
      | none => rw [hc13] at hF; cases hF
      | some u13 =>
        obtain ⟨r13, st13⟩ := u13
        rw [hc13] at hF
        replace hF := zbind hF
        refine zr_callV (rest := []) S zT_good (C_D_route hn hD l v1 v3 st (r13, st13) hc13) zn_D_route zx_88 ⟨rfl, rfl⟩ ⟨Nat.le_of_ble_eq_true rfl, Nat.le_of_ble_eq_true rfl⟩ ⟨Nat.zero_le _, Nat.zero_le _⟩ hK (zr_recv hK hP zk_0 rfl rfl) hP hl.1 (Nat.le_of_ble_eq_true rfl) hS (fun _ h => h) d_D_greet_13 rfl (fun o H locs hpo _ _ hS => ?_)
        obtain ⟨rfl, hP⟩ := hpo
        refine W.eq (g2 := F0 m 16 ls [.ref (ad (7, r13))]) rfl ?_
        have hk_r13 := zk_D_route hn hc13
        replace hF : F_D_greet_L2_s1 n (F_D_greet_L2 n f) v1 v2 v3 r13 st13 = some out := hF
        replace hP : zV (dC, dI) zcl (zKs n) ad (zcE n cI cZ cR cA ad) st13 H := hP
        unfold F_D_greet_L2_s1 at hF
        refine lv_astore S.1 S.2.1 d_D_greet_16 hl (by decide) rfl (fun ls hl => ?_)
        have hl : lv_has ls 5 [(4, .ref (ad (7, r13))), (0, .ref (ad (0, 0))), (1, .int v1), (2, .int v2), (3, .int v3)] := hl
        refine lv_aload S.1 S.2.1 d_D_greet_18 (lv_at hl 0 rfl) ?_
        refine zr_get (v := .int (st13 7 r13 0)) S zi_R hK hP hk_r13 rfl rfl 5 (by decide) zx_14 rfl d_D_greet_20 ?_
        refine lv_sipush (v := 10000) S.1 S.2.1 d_D_greet_23 (by decide) ?_
        refine lv_icmp_eq (tgt := 40) S.1 S.2.1 d_D_greet_26 (by decide) (fun h26 => ?_) (fun h26 => ?_)
        · rw [if_pos h26] at hF
          exact T_D_greet_L40 hn hD S hret hlk hK out (F_D_greet_L2 n f) ih v1 v2 v3 st13 _ _ _ hP hS (lv_sub hl [1, 2, 3, 4] rfl) hF
        · rw [if_neg h26] at hF
          refine lv_aload_n S.1 S.2.1 d_D_greet_29 rfl (lv_at hl 1 rfl) ?_
          refine zr_get (v := .ref (ad (3, 0))) S zi_D hK hP zk_0 rfl rfl 3 (by decide) zx_11 rfl d_D_greet_30 ?_
          refine lv_aload S.1 S.2.1 d_D_greet_33 (lv_at hl 0 rfl) ?_
          refine lv_iload_n S.1 S.2.1 d_D_greet_35 rfl (lv_at hl 3 rfl) ?_
          refine lv_iconst (v := 0) S.1 S.2.1 d_D_greet_36 (by decide) ?_
          cases hc37 : F_L_send n r13 v2 0 st13 with
          | none => rw [hc37] at hF; cases hF
          | some u37 =>
            obtain ⟨r37, st37⟩ := u37
            rw [hc37] at hF
            replace hF := zbind hF
            refine zr_callV (rest := []) S zT_good (C_L_send hn hD l r13 v2 0 hk_r13 st13 (r37, st37) hc37) zn_L_send zx_60 ⟨rfl, rfl⟩ ⟨Nat.le_of_ble_eq_true rfl, Nat.le_of_ble_eq_true rfl⟩ ⟨Nat.zero_le _, Nat.zero_le _⟩ hK (zr_recv hK hP zk_3 rfl rfl) hP hl.1 (Nat.le_of_ble_eq_true rfl) hS (fun _ h => h) d_D_greet_37 rfl (fun o H locs hpo _ _ hS => ?_)
            obtain ⟨rfl, hP⟩ := hpo
            refine W.eq (g2 := F0 m 40 ls []) rfl ?_
            replace hF : F_D_greet_L2_s2 n (F_D_greet_L2 n f) v1 v2 v3 st37 = some out := hF
            replace hP : zV (dC, dI) zcl (zKs n) ad (zcE n cI cZ cR cA ad) st37 H := hP
            unfold F_D_greet_L2_s2 at hF
            exact T_D_greet_L40 hn hD S hret hlk hK out (F_D_greet_L2 n f) ih v1 v2 v3 st37 _ _ _ hP hS (lv_sub hl [1, 2, 3, 4] rfl) hF

set_option maxHeartbeats 4000000 in
set_option maxRecDepth 1000000 in
theorem C_D_greet {dC : Nat → ClassId} {dI : Nat → Nat → Nat} {cI cZ cR cA : ClassId} {n : Nat} {ad : zK → Nat} {A : Nat → Prop} (hn : 2 ≤ n ∧ n ≤ 6) (hD : zD A (zKs n) ad) (l : Launch) (v1 : Int32) (v2 : Int32) (st : zS) (out : Int32 × zS) (hF : F_D_greet n v1 v2 st = some out) : zC zT (dC, dI) zcl (zty cI cZ cR cA) A l y_D_greet b_D_greet 5 (none) rm_D_greet [.ref (ad (0, 0)), .int v1, .int v2] (fun H => zV (dC, dI) zcl (zKs n) ad (zcE n cI cZ cR cA ad) st H) (fun o H => o = none ∧ zV (dC, dI) zcl (zKs n) ad (zcE n cI cZ cR cA ad) out.2 H) := by
  refine zC_of (by decide) (Nat.le_of_ble_eq_true rfl) (fun p e s m args below meth c ls S hret hlk hK hP hl => ?_)
  have hS : va_S A s.heap s.heap [] := va_S.rf
  have hl : lv_has ls 5 [(0, .ref (ad (0, 0))), (1, .int v1), (2, .int v2)] := hl
  have hP : zV (dC, dI) zcl (zKs n) ad (zcE n cI cZ cR cA ad) st s.heap := hP
  unfold F_D_greet at hF
  refine lv_iconst (v := 0) S.1 S.2.1 d_D_greet_0 (by decide) ?_
  refine lv_istore_n S.1 S.2.1 d_D_greet_1 rfl hl (by decide) rfl (fun ls hl => ?_)
  have hl : lv_has ls 5 [(3, .int 0), (0, .ref (ad (0, 0))), (1, .int v1), (2, .int v2)] := hl
  exact T_D_greet_L2 hn hD S hret hlk hK out zFuel v1 v2 0 st _ _ _ hP hS (lv_sub hl [1, 2, 3, 0] rfl) hF

theorem d_R_isOwn_0 : decode b_R_isOwn 0 = .ok (.aload_n 0, 1) := by decide +kernel
theorem d_R_isOwn_1 : decode b_R_isOwn 1 = .ok (.getfield 9, 3) := by decide +kernel
theorem d_R_isOwn_4 : decode b_R_isOwn 4 = .ok (.aload_n 0, 1) := by decide +kernel
theorem d_R_isOwn_5 : decode b_R_isOwn 5 = .ok (.getfield 15, 3) := by decide +kernel
theorem d_R_isOwn_8 : decode b_R_isOwn 8 = .ok (.if_icmp .ne 7, 3) := by decide +kernel
theorem d_R_isOwn_11 : decode b_R_isOwn 11 = .ok (.iconst 1, 1) := by decide +kernel
theorem d_R_isOwn_12 : decode b_R_isOwn 12 = .ok (.goto 4, 3) := by decide +kernel
theorem d_R_isOwn_15 : decode b_R_isOwn 15 = .ok (.iconst 0, 1) := by decide +kernel
theorem d_R_isOwn_16 : decode b_R_isOwn 16 = .ok (.ireturn, 1) := by decide +kernel
def F_R_isOwn (n : Nat) (k0 : Nat) (st : zS) : Option (Int32 × zS) :=
    if (nI (k0 / 6)) = (nI (k0 % 6)) then (some (1, st)) else (some (0, st))

set_option maxHeartbeats 4000000 in
set_option maxRecDepth 1000000 in
theorem C_R_isOwn {dC : Nat → ClassId} {dI : Nat → Nat → Nat} {cI cZ cR cA : ClassId} {n : Nat} {ad : zK → Nat} {A : Nat → Prop} (hn : 2 ≤ n ∧ n ≤ 6) (hD : zD A (zKs n) ad) (l : Launch) (k0 : Nat) (hk0 : (7, k0) ∈ zKs n) (st : zS) (out : Int32 × zS) (hF : F_R_isOwn n k0 st = some out) : zC zT (dC, dI) zcl (zty cI cZ cR cA) A l y_R_isOwn b_R_isOwn 1 (some .boolean) rm_R_isOwn [.ref (ad (7, k0))] (fun H => zV (dC, dI) zcl (zKs n) ad (zcE n cI cZ cR cA ad) st H) (fun o H => o = some (.int out.1) ∧ zV (dC, dI) zcl (zKs n) ad (zcE n cI cZ cR cA ad) out.2 H) := by
  refine zC_of (by decide) (Nat.le_of_ble_eq_true rfl) (fun p e s m args below meth c ls S hret hlk hK hP hl => ?_)
  have hS : va_S A s.heap s.heap [] := va_S.rf
  have hl : lv_has ls 1 [(0, .ref (ad (7, k0)))] := hl
  have hP : zV (dC, dI) zcl (zKs n) ad (zcE n cI cZ cR cA ad) st s.heap := hP
  unfold F_R_isOwn at hF
  refine lv_aload_n S.1 S.2.1 d_R_isOwn_0 rfl (lv_at hl 0 rfl) ?_
  refine zr_get (v := .int (nI (k0 / 6))) S zi_R hK hP hk0 rfl rfl 0 (by decide) zx_52 rfl d_R_isOwn_1 ?_
  refine lv_aload_n S.1 S.2.1 d_R_isOwn_4 rfl (lv_at hl 0 rfl) ?_
  refine zr_get (v := .int (nI (k0 % 6))) S zi_R hK hP hk0 rfl rfl 1 (by decide) zx_42 rfl d_R_isOwn_5 ?_
  refine lv_icmp_ne (tgt := 15) S.1 S.2.1 d_R_isOwn_8 (by decide) (fun h8 => ?_) (fun h8 => ?_)
  · rw [if_neg h8] at hF
    refine lv_iconst (v := 0) S.1 S.2.1 d_R_isOwn_15 (by decide) ?_
    cases hF
    exact zr_zret S hret hlk (by decide) hS d_R_isOwn_16 ⟨rfl, hP⟩
  · rw [if_pos h8] at hF
    refine lv_iconst (v := 1) S.1 S.2.1 d_R_isOwn_11 (by decide) ?_
    refine lv_goto (tgt := 16) S.1 S.2.1 d_R_isOwn_12 (by decide) ?_
    cases hF
    exact zr_zret S hret hlk (by decide) hS d_R_isOwn_16 ⟨rfl, hP⟩

theorem d_R_through_0 : decode b_R_through 0 = .ok (.iload_n 1, 1) := by decide +kernel
theorem d_R_through_1 : decode b_R_through 1 = .ok (.iconst (-1), 1) := by decide +kernel
theorem d_R_through_2 : decode b_R_through 2 = .ok (.if_icmp .eq 12, 3) := by decide +kernel
theorem d_R_through_5 : decode b_R_through 5 = .ok (.aload_n 0, 1) := by decide +kernel
theorem d_R_through_6 : decode b_R_through 6 = .ok (.getfield 18, 3) := by decide +kernel
theorem d_R_through_9 : decode b_R_through 9 = .ok (.iload_n 1, 1) := by decide +kernel
theorem d_R_through_10 : decode b_R_through 10 = .ok (.iaload, 1) := by decide +kernel
theorem d_R_through_11 : decode b_R_through 11 = .ok (.ifCond .ne 7, 3) := by decide +kernel
theorem d_R_through_14 : decode b_R_through 14 = .ok (.sipush 10000, 3) := by decide +kernel
theorem d_R_through_17 : decode b_R_through 17 = .ok (.ireturn, 1) := by decide +kernel
theorem d_R_through_18 : decode b_R_through 18 = .ok (.sipush 10000, 3) := by decide +kernel
theorem d_R_through_21 : decode b_R_through 21 = .ok (.aload_n 0, 1) := by decide +kernel
theorem d_R_through_22 : decode b_R_through 22 = .ok (.getfield 22, 3) := by decide +kernel
theorem d_R_through_25 : decode b_R_through 25 = .ok (.iload_n 1, 1) := by decide +kernel
theorem d_R_through_26 : decode b_R_through 26 = .ok (.iaload, 1) := by decide +kernel
theorem d_R_through_27 : decode b_R_through 27 = .ok (.aload_n 0, 1) := by decide +kernel
theorem d_R_through_28 : decode b_R_through 28 = .ok (.getfield 18, 3) := by decide +kernel
theorem d_R_through_31 : decode b_R_through 31 = .ok (.iload_n 1, 1) := by decide +kernel
theorem d_R_through_32 : decode b_R_through 32 = .ok (.iaload, 1) := by decide +kernel
theorem d_R_through_33 : decode b_R_through 33 = .ok (.iadd, 1) := by decide +kernel
theorem d_R_through_34 : decode b_R_through 34 = .ok (.invokestatic 44, 3) := by decide +kernel
theorem d_R_through_37 : decode b_R_through 37 = .ok (.ireturn, 1) := by decide +kernel
def F_R_through (n : Nat) (k0 : Nat) (v1 : Int32) (st : zS) : Option (Int32 × zS) :=
    if v1 = (-1) then (some (10000, st)) else (if zOut v1 n then none else if (st 6 (k0 / 6) (Int32.toNatClampNeg v1)) = 0 then (some (10000, st)) else (if zOut v1 n then none else if zOut v1 n then none else some (if ((st 8 k0 (Int32.toNatClampNeg v1)) + (st 6 (k0 / 6) (Int32.toNatClampNeg v1))) < 10000 then ((st 8 k0 (Int32.toNatClampNeg v1)) + (st 6 (k0 / 6) (Int32.toNatClampNeg v1))) else 10000, st)))

set_option maxHeartbeats 4000000 in
set_option maxRecDepth 1000000 in
theorem C_R_through {dC : Nat → ClassId} {dI : Nat → Nat → Nat} {cI cZ cR cA : ClassId} {n : Nat} {ad : zK → Nat} {A : Nat → Prop} (hn : 2 ≤ n ∧ n ≤ 6) (hD : zD A (zKs n) ad) (l : Launch) (k0 : Nat) (v1 : Int32) (hk0 : (7, k0) ∈ zKs n) (st : zS) (out : Int32 × zS) (hF : F_R_through n k0 v1 st = some out) : zC zT (dC, dI) zcl (zty cI cZ cR cA) A l y_R_through b_R_through 2 (some .int) rm_R_through [.ref (ad (7, k0)), .int v1] (fun H => zV (dC, dI) zcl (zKs n) ad (zcE n cI cZ cR cA ad) st H) (fun o H => o = some (.int out.1) ∧ zV (dC, dI) zcl (zKs n) ad (zcE n cI cZ cR cA ad) out.2 H) := by
  refine zC_of (by decide) (Nat.le_of_ble_eq_true rfl) (fun p e s m args below meth c ls S hret hlk hK hP hl => ?_)
  have hS : va_S A s.heap s.heap [] := va_S.rf
  have hl : lv_has ls 2 [(0, .ref (ad (7, k0))), (1, .int v1)] := hl
  have hP : zV (dC, dI) zcl (zKs n) ad (zcE n cI cZ cR cA ad) st s.heap := hP
  unfold F_R_through at hF
  refine lv_iload_n S.1 S.2.1 d_R_through_0 rfl (lv_at hl 1 rfl) ?_
  refine lv_iconst (v := (-1)) S.1 S.2.1 d_R_through_1 (by decide) ?_
  refine lv_icmp_eq (tgt := 14) S.1 S.2.1 d_R_through_2 (by decide) (fun h2 => ?_) (fun h2 => ?_)
  · rw [if_pos h2] at hF
    refine lv_sipush (v := 10000) S.1 S.2.1 d_R_through_14 (by decide) ?_
    cases hF
    exact zr_iret S hret hlk hS d_R_through_17 ⟨rfl, hP⟩
  · rw [if_neg h2] at hF
    refine lv_aload_n S.1 S.2.1 d_R_through_5 rfl (lv_at hl 0 rfl) ?_
    refine zr_get (v := .ref (ad (6, k0 / 6))) S zi_R hK hP hk0 rfl rfl 2 (by decide) zx_43 rfl d_R_through_6 ?_
    refine lv_iload_n S.1 S.2.1 d_R_through_9 rfl (lv_at hl 1 rfl) ?_
    by_cases g10 : zOut v1 n
    · rw [if_pos g10] at hF; cases hF
    rw [if_neg g10] at hF
    refine zr_iald S hK hP (zk_67 hk0) rfl 0 rfl g10 d_R_through_10 ?_
    refine lv_if_ne (tgt := 18) S.1 S.2.1 d_R_through_11 (by decide) (fun h11 => ?_) (fun h11 => ?_)
    · rw [if_neg h11] at hF
      refine lv_sipush (v := 10000) S.1 S.2.1 d_R_through_18 (by decide) ?_
      refine lv_aload_n S.1 S.2.1 d_R_through_21 rfl (lv_at hl 0 rfl) ?_
      refine zr_get (v := .ref (ad (8, k0))) S zi_R hK hP hk0 rfl rfl 3 (by decide) zx_44 rfl d_R_through_22 ?_
      refine lv_iload_n S.1 S.2.1 d_R_through_25 rfl (lv_at hl 1 rfl) ?_
      by_cases g26 : zOut v1 n
      · rw [if_pos g26] at hF; cases hF
      rw [if_neg g26] at hF
      refine zr_iald S hK hP (zk_87 hk0) rfl 0 rfl g26 d_R_through_26 ?_
      refine lv_aload_n S.1 S.2.1 d_R_through_27 rfl (lv_at hl 0 rfl) ?_
      refine zr_get (v := .ref (ad (6, k0 / 6))) S zi_R hK hP hk0 rfl rfl 2 (by decide) zx_43 rfl d_R_through_28 ?_
      refine lv_iload_n S.1 S.2.1 d_R_through_31 rfl (lv_at hl 1 rfl) ?_
      by_cases g32 : zOut v1 n
      · rw [if_pos g32] at hF; cases hF
      rw [if_neg g32] at hF
      refine zr_iald S hK hP (zk_67 hk0) rfl 0 rfl g32 d_R_through_32 ?_
      refine lv_iadd S.1 S.2.1 d_R_through_33 ?_
      refine va_mmin S.1 S.2.1 (S.2.2.1.trans hl.1.symm) S.2.2.2.1 (S.2.2.2.2 _ zx_116) (S.2.2.2.2 _ zx_122) (S.2.2.2.2 _ zx_53) (S.2.2.2.2 _ zx_1) (Nat.le_of_ble_eq_true rfl) (Nat.le_of_ble_eq_true rfl) (Nat.zero_le _) (Nat.zero_le _) d_R_through_34 ?_
      cases hF
      exact zr_iret S hret hlk hS d_R_through_37 ⟨rfl, hP⟩
    · rw [if_pos h11] at hF
      refine lv_sipush (v := 10000) S.1 S.2.1 d_R_through_14 (by decide) ?_
      cases hF
      exact zr_iret S hret hlk hS d_R_through_17 ⟨rfl, hP⟩

theorem d_R_growIfFarther_0 : decode b_R_growIfFarther 0 = .ok (.iload_n 1, 1) := by decide +kernel
theorem d_R_growIfFarther_1 : decode b_R_growIfFarther 1 = .ok (.aload_n 0, 1) := by decide +kernel
theorem d_R_growIfFarther_2 : decode b_R_growIfFarther 2 = .ok (.getfield 41, 3) := by decide +kernel
theorem d_R_growIfFarther_5 : decode b_R_growIfFarther 5 = .ok (.if_icmp .ne 20, 3) := by decide +kernel
theorem d_R_growIfFarther_8 : decode b_R_growIfFarther 8 = .ok (.aload_n 0, 1) := by decide +kernel
theorem d_R_growIfFarther_9 : decode b_R_growIfFarther 9 = .ok (.iload_n 1, 1) := by decide +kernel
theorem d_R_growIfFarther_10 : decode b_R_growIfFarther 10 = .ok (.invokevirtual 58, 3) := by decide +kernel
theorem d_R_growIfFarther_13 : decode b_R_growIfFarther 13 = .ok (.aload_n 0, 1) := by decide +kernel
theorem d_R_growIfFarther_14 : decode b_R_growIfFarther 14 = .ok (.getfield 35, 3) := by decide +kernel
theorem d_R_growIfFarther_17 : decode b_R_growIfFarther 17 = .ok (.if_icmp .le 8, 3) := by decide +kernel
theorem d_R_growIfFarther_20 : decode b_R_growIfFarther 20 = .ok (.aload_n 0, 1) := by decide +kernel
theorem d_R_growIfFarther_21 : decode b_R_growIfFarther 21 = .ok (.iconst 1, 1) := by decide +kernel
theorem d_R_growIfFarther_22 : decode b_R_growIfFarther 22 = .ok (.putfield 61, 3) := by decide +kernel
theorem d_R_growIfFarther_25 : decode b_R_growIfFarther 25 = .ok (.return_, 1) := by decide +kernel
def F_R_growIfFarther_s2 (n : Nat) (st : zS) : Option (Int32 × zS) :=
    some (0, st)

def F_R_growIfFarther_s1 (n : Nat) (k0 : Nat) (t0 : Int32) (st : zS) : Option (Int32 × zS) :=
    if t0 ≤ (st 7 k0 0) then (some (0, st)) else (F_R_growIfFarther_s2 n (zs st 7 k0 5 1))

def F_R_growIfFarther (n : Nat) (k0 : Nat) (v1 : Int32) (st : zS) : Option (Int32 × zS) :=
    if v1 = (st 7 k0 2) then ((F_R_through n k0 v1 st).bind (fun u => F_R_growIfFarther_s1 n k0 u.1 u.2)) else (some (0, st))

set_option maxHeartbeats 4000000 in
set_option maxRecDepth 1000000 in
theorem C_R_growIfFarther {dC : Nat → ClassId} {dI : Nat → Nat → Nat} {cI cZ cR cA : ClassId} {n : Nat} {ad : zK → Nat} {A : Nat → Prop} (hn : 2 ≤ n ∧ n ≤ 6) (hD : zD A (zKs n) ad) (l : Launch) (k0 : Nat) (v1 : Int32) (hk0 : (7, k0) ∈ zKs n) (st : zS) (out : Int32 × zS) (hF : F_R_growIfFarther n k0 v1 st = some out) : zC zT (dC, dI) zcl (zty cI cZ cR cA) A l y_R_growIfFarther b_R_growIfFarther 2 (none) rm_R_growIfFarther [.ref (ad (7, k0)), .int v1] (fun H => zV (dC, dI) zcl (zKs n) ad (zcE n cI cZ cR cA ad) st H) (fun o H => o = none ∧ zV (dC, dI) zcl (zKs n) ad (zcE n cI cZ cR cA ad) out.2 H) := by
  refine zC_of (by decide) (Nat.le_of_ble_eq_true rfl) (fun p e s m args below meth c ls S hret hlk hK hP hl => ?_)
  have hS : va_S A s.heap s.heap [] := va_S.rf
  have hl : lv_has ls 2 [(0, .ref (ad (7, k0))), (1, .int v1)] := hl
  have hP : zV (dC, dI) zcl (zKs n) ad (zcE n cI cZ cR cA ad) st s.heap := hP
  unfold F_R_growIfFarther at hF
  refine lv_iload_n S.1 S.2.1 d_R_growIfFarther_0 rfl (lv_at hl 1 rfl) ?_
  refine lv_aload_n S.1 S.2.1 d_R_growIfFarther_1 rfl (lv_at hl 0 rfl) ?_
  refine zr_get (v := .int (st 7 k0 2)) S zi_R hK hP hk0 rfl rfl 7 (by decide) zx_48 rfl d_R_growIfFarther_2 ?_
  refine lv_icmp_ne (tgt := 25) S.1 S.2.1 d_R_growIfFarther_5 (by decide) (fun h5 => ?_) (fun h5 => ?_)
  · rw [if_neg h5] at hF
    cases hF
    exact zr_vret S hret hlk hS d_R_growIfFarther_25 ⟨rfl, hP⟩
  · rw [if_pos h5] at hF
    refine lv_aload_n S.1 S.2.1 d_R_growIfFarther_8 rfl (lv_at hl 0 rfl) ?_
    refine lv_iload_n S.1 S.2.1 d_R_growIfFarther_9 rfl (lv_at hl 1 rfl) ?_
    cases hc10 : F_R_through n k0 v1 st with
    | none => rw [hc10] at hF; cases hF
    | some u10 =>
      obtain ⟨r10, st10⟩ := u10
      rw [hc10] at hF
      replace hF := zbind hF
      refine zr_callV (rest := []) S zT_good (C_R_through hn hD l k0 v1 hk0 st (r10, st10) hc10) zn_R_through zx_119 ⟨rfl, rfl⟩ ⟨Nat.le_of_ble_eq_true rfl, Nat.le_of_ble_eq_true rfl⟩ ⟨Nat.zero_le _, Nat.zero_le _⟩ hK (zr_recv hK hP hk0 rfl rfl) hP hl.1 (Nat.le_of_ble_eq_true rfl) hS (fun _ h => h) d_R_growIfFarther_10 rfl (fun o H locs hpo _ _ hS => ?_)
      obtain ⟨rfl, hP⟩ := hpo
      refine W.eq (g2 := F0 m 13 ls [.int r10]) rfl ?_
      replace hF : F_R_growIfFarther_s1 n k0 r10 st10 = some out := hF
      replace hP : zV (dC, dI) zcl (zKs n) ad (zcE n cI cZ cR cA ad) st10 H := hP
      unfold F_R_growIfFarther_s1 at hF
      refine lv_aload_n S.1 S.2.1 d_R_growIfFarther_13 rfl (lv_at hl 0 rfl) ?_
      refine zr_get (v := .int (st10 7 k0 0)) S zi_R hK hP hk0 rfl rfl 5 (by decide) zx_46 rfl d_R_growIfFarther_14 ?_
      refine lv_icmp_le (tgt := 25) S.1 S.2.1 d_R_growIfFarther_17 (by decide) (fun h17 => ?_) (fun h17 => ?_)
      · rw [if_pos h17] at hF
        cases hF
        exact zr_vret S hret hlk hS d_R_growIfFarther_25 ⟨rfl, hP⟩
      · rw [if_neg h17] at hF
        refine lv_aload_n S.1 S.2.1 d_R_growIfFarther_20 rfl (lv_at hl 0 rfl) ?_
        refine lv_iconst (v := 1) S.1 S.2.1 d_R_growIfFarther_21 (by decide) ?_
        refine zr_put (v := 1) S zi_R t_R t_R_ok n_R hK hP hD hS hk0 rfl rfl 10 (by decide) zx_49 rfl rfl rfl (Nat.le_of_ble_eq_true rfl) 5 rfl d_R_growIfFarther_22 (fun H locs hP hS => ?_)
        replace hF : F_R_growIfFarther_s2 n (zs st10 7 k0 5 1) = some out := hF
        generalize zs st10 7 k0 5 1 = st25 at hP hF
        unfold F_R_growIfFarther_s2 at hF
        cases hF
        exact zr_vret S hret hlk hS d_R_growIfFarther_25 ⟨rfl, hP⟩

