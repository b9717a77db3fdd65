theorem d_M_settle_0 : decode b_M_settle 0 = .ok (.bipush 6, 2) := by decide +kernel
theorem d_M_settle_2 : decode b_M_settle 2 = .ok (.iload_n 1, 1) := by decide +kernel
theorem d_M_settle_3 : decode b_M_settle 3 = .ok (.imul, 1) := by decide +kernel
theorem d_M_settle_4 : decode b_M_settle 4 = .ok (.iload_n 2, 1) := by decide +kernel
theorem d_M_settle_5 : decode b_M_settle 5 = .ok (.iadd, 1) := by decide +kernel
theorem d_M_settle_6 : decode b_M_settle 6 = .ok (.istore_n 3, 1) := by decide +kernel
theorem d_M_settle_7 : decode b_M_settle 7 = .ok (.aload_n 0, 1) := by decide +kernel
theorem d_M_settle_8 : decode b_M_settle 8 = .ok (.iload_n 1, 1) := by decide +kernel
theorem d_M_settle_9 : decode b_M_settle 9 = .ok (.iload_n 2, 1) := by decide +kernel
theorem d_M_settle_10 : decode b_M_settle 10 = .ok (.invokevirtual 75, 3) := by decide +kernel
theorem d_M_settle_13 : decode b_M_settle 13 = .ok (.istore 4, 2) := by decide +kernel
theorem d_M_settle_15 : decode b_M_settle 15 = .ok (.aload_n 0, 1) := by decide +kernel
theorem d_M_settle_16 : decode b_M_settle 16 = .ok (.iload_n 1, 1) := by decide +kernel
theorem d_M_settle_17 : decode b_M_settle 17 = .ok (.iload_n 2, 1) := by decide +kernel
theorem d_M_settle_18 : decode b_M_settle 18 = .ok (.aload_n 0, 1) := by decide +kernel
theorem d_M_settle_19 : decode b_M_settle 19 = .ok (.getfield 19, 3) := by decide +kernel
theorem d_M_settle_22 : decode b_M_settle 22 = .ok (.iload_n 3, 1) := by decide +kernel
theorem d_M_settle_23 : decode b_M_settle 23 = .ok (.iaload, 1) := by decide +kernel
theorem d_M_settle_24 : decode b_M_settle 24 = .ok (.iload 4, 2) := by decide +kernel
theorem d_M_settle_26 : decode b_M_settle 26 = .ok (.invokevirtual 79, 3) := by decide +kernel
theorem d_M_settle_29 : decode b_M_settle 29 = .ok (.ifCond .eq 12, 3) := by decide +kernel
theorem d_M_settle_32 : decode b_M_settle 32 = .ok (.aload_n 0, 1) := by decide +kernel
theorem d_M_settle_33 : decode b_M_settle 33 = .ok (.getfield 19, 3) := by decide +kernel
theorem d_M_settle_36 : decode b_M_settle 36 = .ok (.iload_n 3, 1) := by decide +kernel
theorem d_M_settle_37 : decode b_M_settle 37 = .ok (.iaload, 1) := by decide +kernel
theorem d_M_settle_38 : decode b_M_settle 38 = .ok (.goto 4, 3) := by decide +kernel
theorem d_M_settle_41 : decode b_M_settle 41 = .ok (.iconst (-1), 1) := by decide +kernel
theorem d_M_settle_42 : decode b_M_settle 42 = .ok (.istore 5, 2) := by decide +kernel
theorem d_M_settle_44 : decode b_M_settle 44 = .ok (.aload_n 0, 1) := by decide +kernel
theorem d_M_settle_45 : decode b_M_settle 45 = .ok (.getfield 56, 3) := by decide +kernel
theorem d_M_settle_48 : decode b_M_settle 48 = .ok (.iconst 1, 1) := by decide +kernel
theorem d_M_settle_49 : decode b_M_settle 49 = .ok (.isub, 1) := by decide +kernel
theorem d_M_settle_50 : decode b_M_settle 50 = .ok (.istore 6, 2) := by decide +kernel
theorem d_M_settle_52 : decode b_M_settle 52 = .ok (.iload 6, 2) := by decide +kernel
theorem d_M_settle_54 : decode b_M_settle 54 = .ok (.ifCond .lt 48, 3) := by decide +kernel
theorem d_M_settle_57 : decode b_M_settle 57 = .ok (.aload_n 0, 1) := by decide +kernel
theorem d_M_settle_58 : decode b_M_settle 58 = .ok (.iload_n 1, 1) := by decide +kernel
theorem d_M_settle_59 : decode b_M_settle 59 = .ok (.iload_n 2, 1) := by decide +kernel
theorem d_M_settle_60 : decode b_M_settle 60 = .ok (.aload_n 0, 1) := by decide +kernel
theorem d_M_settle_61 : decode b_M_settle 61 = .ok (.getfield 19, 3) := by decide +kernel
theorem d_M_settle_64 : decode b_M_settle 64 = .ok (.iload_n 3, 1) := by decide +kernel
theorem d_M_settle_65 : decode b_M_settle 65 = .ok (.iaload, 1) := by decide +kernel
theorem d_M_settle_66 : decode b_M_settle 66 = .ok (.iload 4, 2) := by decide +kernel
theorem d_M_settle_68 : decode b_M_settle 68 = .ok (.invokevirtual 79, 3) := by decide +kernel
theorem d_M_settle_71 : decode b_M_settle 71 = .ok (.ifCond .ne 31, 3) := by decide +kernel
theorem d_M_settle_74 : decode b_M_settle 74 = .ok (.aload_n 0, 1) := by decide +kernel
theorem d_M_settle_75 : decode b_M_settle 75 = .ok (.iload_n 1, 1) := by decide +kernel
theorem d_M_settle_76 : decode b_M_settle 76 = .ok (.iload_n 2, 1) := by decide +kernel
theorem d_M_settle_77 : decode b_M_settle 77 = .ok (.iload 6, 2) := by decide +kernel
theorem d_M_settle_79 : decode b_M_settle 79 = .ok (.iload 4, 2) := by decide +kernel
theorem d_M_settle_81 : decode b_M_settle 81 = .ok (.invokevirtual 79, 3) := by decide +kernel
theorem d_M_settle_84 : decode b_M_settle 84 = .ok (.ifCond .eq 8, 3) := by decide +kernel
theorem d_M_settle_87 : decode b_M_settle 87 = .ok (.iload 6, 2) := by decide +kernel
theorem d_M_settle_89 : decode b_M_settle 89 = .ok (.goto 5, 3) := by decide +kernel
theorem d_M_settle_92 : decode b_M_settle 92 = .ok (.iload 5, 2) := by decide +kernel
theorem d_M_settle_94 : decode b_M_settle 94 = .ok (.istore 5, 2) := by decide +kernel
theorem d_M_settle_96 : decode b_M_settle 96 = .ok (.iinc 6 (-1), 3) := by decide +kernel
theorem d_M_settle_99 : decode b_M_settle 99 = .ok (.goto (-47), 3) := by decide +kernel
theorem d_M_settle_102 : decode b_M_settle 102 = .ok (.aload_n 0, 1) := by decide +kernel
theorem d_M_settle_103 : decode b_M_settle 103 = .ok (.getfield 19, 3) := by decide +kernel
theorem d_M_settle_106 : decode b_M_settle 106 = .ok (.iload_n 3, 1) := by decide +kernel
theorem d_M_settle_107 : decode b_M_settle 107 = .ok (.iload 4, 2) := by decide +kernel
theorem d_M_settle_109 : decode b_M_settle 109 = .ok (.sipush 10000, 3) := by decide +kernel
theorem d_M_settle_112 : decode b_M_settle 112 = .ok (.if_icmp .ne 7, 3) := by decide +kernel
theorem d_M_settle_115 : decode b_M_settle 115 = .ok (.iconst (-1), 1) := by decide +kernel
theorem d_M_settle_116 : decode b_M_settle 116 = .ok (.goto 5, 3) := by decide +kernel
theorem d_M_settle_119 : decode b_M_settle 119 = .ok (.iload 5, 2) := by decide +kernel
theorem d_M_settle_121 : decode b_M_settle 121 = .ok (.iastore, 1) := by decide +kernel
theorem d_M_settle_122 : decode b_M_settle 122 = .ok (.aload_n 0, 1) := by decide +kernel
theorem d_M_settle_123 : decode b_M_settle 123 = .ok (.getfield 13, 3) := by decide +kernel
theorem d_M_settle_126 : decode b_M_settle 126 = .ok (.iload_n 3, 1) := by decide +kernel
theorem d_M_settle_127 : decode b_M_settle 127 = .ok (.iload 4, 2) := by decide +kernel
theorem d_M_settle_129 : decode b_M_settle 129 = .ok (.iastore, 1) := by decide +kernel
theorem d_M_settle_130 : decode b_M_settle 130 = .ok (.aload_n 0, 1) := by decide +kernel
theorem d_M_settle_131 : decode b_M_settle 131 = .ok (.getfield 16, 3) := by decide +kernel
theorem d_M_settle_134 : decode b_M_settle 134 = .ok (.iload_n 3, 1) := by decide +kernel
theorem d_M_settle_135 : decode b_M_settle 135 = .ok (.iload 4, 2) := by decide +kernel
theorem d_M_settle_137 : decode b_M_settle 137 = .ok (.aload_n 0, 1) := by decide +kernel
theorem d_M_settle_138 : decode b_M_settle 138 = .ok (.getfield 16, 3) := by decide +kernel
theorem d_M_settle_141 : decode b_M_settle 141 = .ok (.iload_n 3, 1) := by decide +kernel
theorem d_M_settle_142 : decode b_M_settle 142 = .ok (.iaload, 1) := by decide +kernel
theorem d_M_settle_143 : decode b_M_settle 143 = .ok (.if_icmp .ge 8, 3) := by decide +kernel
theorem d_M_settle_146 : decode b_M_settle 146 = .ok (.iload 4, 2) := by decide +kernel
theorem d_M_settle_148 : decode b_M_settle 148 = .ok (.goto 9, 3) := by decide +kernel
theorem d_M_settle_151 : decode b_M_settle 151 = .ok (.aload_n 0, 1) := by decide +kernel
theorem d_M_settle_152 : decode b_M_settle 152 = .ok (.getfield 16, 3) := by decide +kernel
theorem d_M_settle_155 : decode b_M_settle 155 = .ok (.iload_n 3, 1) := by decide +kernel
theorem d_M_settle_156 : decode b_M_settle 156 = .ok (.iaload, 1) := by decide +kernel
theorem d_M_settle_157 : decode b_M_settle 157 = .ok (.iastore, 1) := by decide +kernel
theorem d_M_settle_158 : decode b_M_settle 158 = .ok (.return_, 1) := by decide +kernel
def F_M_settle_L94 (n : Nat) (c52 : Int32 → Int32 → Int32 → Int32 → Int32 → Int32 → zS → Option (Int32 × zS)) (v1 : Int32) (v2 : Int32) (v3 : Int32) (v4 : Int32) (v6 : Int32) (t0 : Int32) (st : zS) : Option (Int32 × zS) :=
    c52 v1 v2 v3 v4 t0 (v6 + (-1)) st

def F_M_settle_L157_s1 (n : Nat) (st : zS) : Option (Int32 × zS) :=
    some (0, st)

def F_M_settle_L157 (n : Nat) (t1 : Int32) (t2 : Int32) (st : zS) : Option (Int32 × zS) :=
    if zOut t1 36 then none else F_M_settle_L157_s1 n (zs st 3 0 (Int32.toNatClampNeg t1) t2)

def F_M_settle_L121_s2 (n : Nat) (v3 : Int32) (v4 : Int32) (st : zS) : Option (Int32 × zS) :=
    if zOut v3 36 then none else if (st 3 0 (Int32.toNatClampNeg v3)) ≤ v4 then (if zOut v3 36 then none else F_M_settle_L157 n v3 (st 3 0 (Int32.toNatClampNeg v3)) st) else (F_M_settle_L157 n v3 v4 st)

def F_M_settle_L121_s1 (n : Nat) (v3 : Int32) (v4 : Int32) (st : zS) : Option (Int32 × zS) :=
    if zOut v3 36 then none else F_M_settle_L121_s2 n v3 v4 (zs st 2 0 (Int32.toNatClampNeg v3) v4)

def F_M_settle_L121 (n : Nat) (v3 : Int32) (v4 : Int32) (t1 : Int32) (t2 : Int32) (st : zS) : Option (Int32 × zS) :=
    if zOut t1 36 then none else F_M_settle_L121_s1 n v3 v4 (zs st 4 0 (Int32.toNatClampNeg t1) t2)

def F_M_settle_L102 (n : Nat) (v3 : Int32) (v4 : Int32) (v5 : Int32) (st : zS) : Option (Int32 × zS) :=
    if v4 = 10000 then (F_M_settle_L121 n v3 v4 v3 (-1) st) else (F_M_settle_L121 n v3 v4 v3 v5 st)

def F_M_settle_L52_s2 (n : Nat) (c52 : Int32 → Int32 → Int32 → Int32 → Int32 → Int32 → zS → Option (Int32 × zS)) (v1 : Int32) (v2 : Int32) (v3 : Int32) (v4 : Int32) (v5 : Int32) (v6 : Int32) (t0 : Int32) (st : zS) : Option (Int32 × zS) :=
    if t0 = 0 then (F_M_settle_L94 n c52 v1 v2 v3 v4 v6 v5 st) else (F_M_settle_L94 n c52 v1 v2 v3 v4 v6 v6 st)

def F_M_settle_L52_s1 (n : Nat) (c52 : Int32 → Int32 → Int32 → Int32 → Int32 → Int32 → zS → Option (Int32 × zS)) (v1 : Int32) (v2 : Int32) (v3 : Int32) (v4 : Int32) (v5 : Int32) (v6 : Int32) (t0 : Int32) (st : zS) : Option (Int32 × zS) :=
    if t0 = 0 then ((F_M_isSure n v1 v2 v6 v4 st).bind (fun u => F_M_settle_L52_s2 n c52 v1 v2 v3 v4 v5 v6 u.1 u.2)) else (F_M_settle_L102 n v3 v4 v5 st)

def F_M_settle_L52 (n : Nat) : Nat → Int32 → Int32 → Int32 → Int32 → Int32 → Int32 → zS → Option (Int32 × zS)
  | 0, _, _, _, _, _, _, _ => none
  | f + 1, v1, v2, v3, v4, v5, v6, st =>
    if v6 < 0 then (F_M_settle_L102 n v3 v4 v5 st) else (if zOut v3 36 then none else (F_M_isSure n v1 v2 (st 4 0 (Int32.toNatClampNeg v3)) v4 st).bind (fun u => F_M_settle_L52_s1 n (F_M_settle_L52 n f) v1 v2 v3 v4 v5 v6 u.1 u.2))

def F_M_settle_L42 (n : Nat) (v1 : Int32) (v2 : Int32) (v3 : Int32) (v4 : Int32) (t0 : Int32) (st : zS) : Option (Int32 × zS) :=
    F_M_settle_L52 n zFuel v1 v2 v3 v4 t0 ((nI n) - 1) st

def F_M_settle_s2 (n : Nat) (v4 : Int32) (v3 : Int32) (v1 : Int32) (v2 : Int32) (t0 : Int32) (st : zS) : Option (Int32 × zS) :=
    if t0 = 0 then (F_M_settle_L42 n v1 v2 v3 v4 (-1) st) else (if zOut v3 36 then none else F_M_settle_L42 n v1 v2 v3 v4 (st 4 0 (Int32.toNatClampNeg v3)) st)

def F_M_settle_s1 (n : Nat) (v3 : Int32) (v1 : Int32) (v2 : Int32) (t0 : Int32) (st : zS) : Option (Int32 × zS) :=
    if zOut v3 36 then none else (F_M_isSure n v1 v2 (st 4 0 (Int32.toNatClampNeg v3)) t0 st).bind (fun u => F_M_settle_s2 n t0 v3 v1 v2 u.1 u.2)

def F_M_settle (n : Nat) (v1 : Int32) (v2 : Int32) (st : zS) : Option (Int32 × zS) :=
    (F_M_least n v1 v2 st).bind (fun u => F_M_settle_s1 n ((6 * v1) + v2) v1 v2 u.1 u.2)

set_option maxHeartbeats 4000000 in
set_option maxRecDepth 1000000 in
theorem T_M_settle_L94 {dC : Nat → ClassId} {dI : Nat → Nat → Nat} {cI cZ cR cA : ClassId} {n : Nat} {ad : zK → Nat} {A : Nat → Prop} (hn : 2 ≤ n ∧ n ≤ 6) (hD : zD A zKm ad) {p : Program} {l : Launch} {e : Env} {s : State} {m : MethodId} {args : Array Value} {below : List Frame} {meth : Method} {c : Code} (S : CallFix p m c b_M_settle 7 s args zT N_M) (hret : meth.sig.returnType = none) (hlk : meth.locks = false) (hK : va_K (dC, dI) zcl (zty cI cZ cR cA) s) (out : Int32 × zS) (c52 : Int32 → Int32 → Int32 → Int32 → Int32 → Int32 → zS → Option (Int32 × zS)) (hc52 : ∀ (v1 : Int32) (v2 : Int32) (v3 : Int32) (v4 : Int32) (v5 : Int32) (v6 : Int32) (st : zS) (H : Heap) (locs : List Loc) (ls : Array Slot), zV (dC, dI) zcl zKm ad (zmE n cI cZ ad) st H → va_S A s.heap H locs → lv_has ls 7 [(0, .ref (ad (0, 0))), (1, .int v1), (2, .int v2), (3, .int v3), (4, .int v4), (5, .int v5), (6, .int v6)] → c52 v1 v2 v3 v4 v5 v6 st = some out → W p l e rm_M_settle s m args below meth c H locs 0 0 (zQ below A (fun o H => o = none ∧ zV (dC, dI) zcl zKm ad (zmE n cI cZ ad) out.2 H) args s) (F0 m 52 ls [])) (v1 : Int32) (v2 : Int32) (v3 : Int32) (v4 : Int32) (v6 : Int32) (t0 : Int32) (st : zS) (H : Heap) (locs : List Loc) (ls : Array Slot) (hP : zV (dC, dI) zcl zKm ad (zmE n cI cZ ad) st H) (hS : va_S A s.heap H locs) (hl : lv_has ls 7 [(0, .ref (ad (0, 0))), (1, .int v1), (2, .int v2), (3, .int v3), (4, .int v4), (6, .int v6)]) (hF : F_M_settle_L94 n c52 v1 v2 v3 v4 v6 t0 st = some out) : W p l e rm_M_settle s m args below meth c H locs 0 0 (zQ below A (fun o H => o = none ∧ zV (dC, dI) zcl zKm ad (zmE n cI cZ ad) out.2 H) args s) (F0 m 94 ls [.int t0]) := by
  unfold F_M_settle_L94 at hF
  refine lv_istore S.1 S.2.1 d_M_settle_94 hl (by decide) rfl (fun ls hl => ?_)
  have hl : lv_has ls 7 [(5, .int t0), (0, .ref (ad (0, 0))), (1, .int v1), (2, .int v2), (3, .int v3), (4, .int v4), (6, .int v6)] := hl
  refine lv_iinc (k := 6) (v := v6 + (-1)) S.1 S.2.1 d_M_settle_96 hl rfl rfl (by decide) rfl (fun ls hl => ?_)
  have hl : lv_has ls 7 [(6, .int (v6 + (-1))), (5, .int t0), (0, .ref (ad (0, 0))), (1, .int v1), (2, .int v2), (3, .int v3), (4, .int v4)] := hl
  refine lv_goto (tgt := 52) S.1 S.2.1 d_M_settle_99 (by decide) ?_
  exact hc52 v1 v2 v3 v4 t0 (v6 + (-1)) st _ _ _ hP hS (lv_sub hl [2, 3, 4, 5, 6, 1, 0] rfl) hF

set_option maxHeartbeats 4000000 in
set_option maxRecDepth 1000000 in
theorem T_M_settle_L157 {dC : Nat → ClassId} {dI : Nat → Nat → Nat} {cI cZ cR cA : ClassId} {n : Nat} {ad : zK → Nat} {A : Nat → Prop} (hn : 2 ≤ n ∧ n ≤ 6) (hD : zD A zKm ad) {p : Program} {l : Launch} {e : Env} {s : State} {m : MethodId} {args : Array Value} {below : List Frame} {meth : Method} {c : Code} (S : CallFix p m c b_M_settle 7 s args zT N_M) (hret : meth.sig.returnType = none) (hlk : meth.locks = false) (hK : va_K (dC, dI) zcl (zty cI cZ cR cA) s) (out : Int32 × zS) (t1 : Int32) (t2 : Int32) (st : zS) (H : Heap) (locs : List Loc) (ls : Array Slot) (hP : zV (dC, dI) zcl zKm ad (zmE n cI cZ ad) st H) (hS : va_S A s.heap H locs) (hl : lv_has ls 7 []) (hF : F_M_settle_L157 n t1 t2 st = some out) : W p l e rm_M_settle s m args below meth c H locs 0 0 (zQ below A (fun o H => o = none ∧ zV (dC, dI) zcl zKm ad (zmE n cI cZ ad) out.2 H) args s) (F0 m 157 ls [.int t2, .int t1, .ref (ad (3, 0))]) := by
  unfold F_M_settle_L157 at hF
  by_cases g157 : zOut t1 36
  · rw [if_pos g157] at hF; cases hF
  rw [if_neg g157] at hF
  refine zr_iast S hK hP hD hS zkm_3 (fun _ => rfl) 0 rfl g157 d_M_settle_157 (fun H locs hP hS => ?_)
  replace hF : F_M_settle_L157_s1 n (zs st 3 0 (Int32.toNatClampNeg t1) t2) = some out := hF
  generalize zs st 3 0 (Int32.toNatClampNeg t1) t2 = st158 at hP hF
  unfold F_M_settle_L157_s1 at hF
  cases hF
  exact zr_vret S hret hlk hS d_M_settle_158 ⟨rfl, hP⟩

set_option maxHeartbeats 4000000 in
set_option maxRecDepth 1000000 in
theorem T_M_settle_L121 {dC : Nat → ClassId} {dI : Nat → Nat → Nat} {cI cZ cR cA : ClassId} {n : Nat} {ad : zK → Nat} {A : Nat → Prop} (hn : 2 ≤ n ∧ n ≤ 6) (hD : zD A zKm ad) {p : Program} {l : Launch} {e : Env} {s : State} {m : MethodId} {args : Array Value} {below : List Frame} {meth : Method} {c : Code} (S : CallFix p m c b_M_settle 7 s args zT N_M) (hret : meth.sig.returnType = none) (hlk : meth.locks = false) (hK : va_K (dC, dI) zcl (zty cI cZ cR cA) s) (out : Int32 × zS) (v3 : Int32) (v4 : Int32) (t1 : Int32) (t2 : Int32) (st : zS) (H : Heap) (locs : List Loc) (ls : Array Slot) (hP : zV (dC, dI) zcl zKm ad (zmE n cI cZ ad) st H) (hS : va_S A s.heap H locs) (hl : lv_has ls 7 [(0, .ref (ad (0, 0))), (3, .int v3), (4, .int v4)]) (hF : F_M_settle_L121 n v3 v4 t1 t2 st = some out) : W p l e rm_M_settle s m args below meth c H locs 0 0 (zQ below A (fun o H => o = none ∧ zV (dC, dI) zcl zKm ad (zmE n cI cZ ad) out.2 H) args s) (F0 m 121 ls [.int t2, .int t1, .ref (ad (4, 0))]) := by
  unfold F_M_settle_L121 at hF
  by_cases g121 : zOut t1 36
  · rw [if_pos g121] at hF; cases hF
  rw [if_neg g121] at hF
  refine zr_iast S hK hP hD hS zkm_4 (fun _ => rfl) 0 rfl g121 d_M_settle_121 (fun H locs hP hS => ?_)
  replace hF : F_M_settle_L121_s1 n v3 v4 (zs st 4 0 (Int32.toNatClampNeg t1) t2) = some out := hF
  generalize zs st 4 0 (Int32.toNatClampNeg t1) t2 = st122 at hP hF
  unfold F_M_settle_L121_s1 at hF
  refine lv_aload_n S.1 S.2.1 d_M_settle_122 rfl (lv_at hl 0 rfl) ?_
  refine zr_get (v := .ref (ad (2, 0))) S zi_M hK hP zkm_0 rfl rfl 2 (by decide) zx_25 rfl d_M_settle_123 ?_
  refine lv_iload_n S.1 S.2.1 d_M_settle_126 rfl (lv_at hl 1 rfl) ?_
  refine lv_iload S.1 S.2.1 d_M_settle_127 (lv_at hl 2 rfl) ?_
  by_cases g129 : zOut v3 36
  · rw [if_pos g129] at hF; cases hF
  rw [if_neg g129] at hF
  refine zr_iast S hK hP hD hS zkm_2 (fun _ => rfl) 0 rfl g129 d_M_settle_129 (fun H locs hP hS => ?_)
  replace hF : F_M_settle_L121_s2 n v3 v4 (zs st122 2 0 (Int32.toNatClampNeg v3) v4) = some out := hF
  generalize zs st122 2 0 (Int32.toNatClampNeg v3) v4 = st130 at hP hF
  unfold F_M_settle_L121_s2 at hF
  refine lv_aload_n S.1 S.2.1 d_M_settle_130 rfl (lv_at hl 0 rfl) ?_
  refine zr_get (v := .ref (ad (3, 0))) S zi_M hK hP zkm_0 rfl rfl 3 (by decide) zx_26 rfl d_M_settle_131 ?_
  refine lv_iload_n S.1 S.2.1 d_M_settle_134 rfl (lv_at hl 1 rfl) ?_
  refine lv_iload S.1 S.2.1 d_M_settle_135 (lv_at hl 2 rfl) ?_
  refine lv_aload_n S.1 S.2.1 d_M_settle_137 rfl (lv_at hl 0 rfl) ?_
  refine zr_get (v := .ref (ad (3, 0))) S zi_M hK hP zkm_0 rfl rfl 3 (by decide) zx_26 rfl d_M_settle_138 ?_
  refine lv_iload_n S.1 S.2.1 d_M_settle_141 rfl (lv_at hl 1 rfl) ?_
  by_cases g142 : zOut v3 36
  · rw [if_pos g142] at hF; cases hF
  rw [if_neg g142] at hF
  refine zr_iald S hK hP zkm_3 rfl 0 rfl g142 d_M_settle_142 ?_
  refine lv_icmp_ge (tgt := 151) S.1 S.2.1 d_M_settle_143 (by decide) (fun h143 => ?_) (fun h143 => ?_)
  · rw [if_pos h143] at hF
    refine lv_aload_n S.1 S.2.1 d_M_settle_151 rfl (lv_at hl 0 rfl) ?_
    refine zr_get (v := .ref (ad (3, 0))) S zi_M hK hP zkm_0 rfl rfl 3 (by decide) zx_26 rfl d_M_settle_152 ?_
    refine lv_iload_n S.1 S.2.1 d_M_settle_155 rfl (lv_at hl 1 rfl) ?_
    by_cases g156 : zOut v3 36
    · rw [if_pos g156] at hF; cases hF
    rw [if_neg g156] at hF
    refine zr_iald S hK hP zkm_3 rfl 0 rfl g156 d_M_settle_156 ?_
    exact T_M_settle_L157 hn hD S hret hlk hK out v3 (st130 3 0 (Int32.toNatClampNeg v3)) st130 _ _ _ hP hS (lv_sub hl [] rfl) hF
  · rw [if_neg h143] at hF
    refine lv_iload S.1 S.2.1 d_M_settle_146 (lv_at hl 2 rfl) ?_
    refine lv_goto (tgt := 157) S.1 S.2.1 d_M_settle_148 (by decide) ?_
    exact T_M_settle_L157 hn hD S hret hlk hK out v3 v4 st130 _ _ _ hP hS (lv_sub hl [] rfl) hF

set_option maxHeartbeats 4000000 in
set_option maxRecDepth 1000000 in
theorem T_M_settle_L102 {dC : Nat → ClassId} {dI : Nat → Nat → Nat} {cI cZ cR cA : ClassId} {n : Nat} {ad : zK → Nat} {A : Nat → Prop} (hn : 2 ≤ n ∧ n ≤ 6) (hD : zD A zKm ad) {p : Program} {l : Launch} {e : Env} {s : State} {m : MethodId} {args : Array Value} {below : List Frame} {meth : Method} {c : Code} (S : CallFix p m c b_M_settle 7 s args zT N_M) (hret : meth.sig.returnType = none) (hlk : meth.locks = false) (hK : va_K (dC, dI) zcl (zty cI cZ cR cA) s) (out : Int32 × zS) (v3 : Int32) (v4 : Int32) (v5 : Int32) (st : zS) (H : Heap) (locs : List Loc) (ls : Array Slot) (hP : zV (dC, dI) zcl zKm ad (zmE n cI cZ ad) st H) (hS : va_S A s.heap H locs) (hl : lv_has ls 7 [(0, .ref (ad (0, 0))), (3, .int v3), (4, .int v4), (5, .int v5)]) (hF : F_M_settle_L102 n v3 v4 v5 st = some out) : W p l e rm_M_settle s m args below meth c H locs 0 0 (zQ below A (fun o H => o = none ∧ zV (dC, dI) zcl zKm ad (zmE n cI cZ ad) out.2 H) args s) (F0 m 102 ls []) := by
  unfold F_M_settle_L102 at hF
  refine lv_aload_n S.1 S.2.1 d_M_settle_102 rfl (lv_at hl 0 rfl) ?_
  refine zr_get (v := .ref (ad (4, 0))) S zi_M hK hP zkm_0 rfl rfl 4 (by decide) zx_27 rfl d_M_settle_103 ?_
  refine lv_iload_n S.1 S.2.1 d_M_settle_106 rfl (lv_at hl 1 rfl) ?_
  refine lv_iload S.1 S.2.1 d_M_settle_107 (lv_at hl 2 rfl) ?_
  refine lv_sipush (v := 10000) S.1 S.2.1 d_M_settle_109 (by decide) ?_
  refine lv_icmp_ne (tgt := 119) S.1 S.2.1 d_M_settle_112 (by decide) (fun h112 => ?_) (fun h112 => ?_)
  · rw [if_neg h112] at hF
    refine lv_iload S.1 S.2.1 d_M_settle_119 (lv_at hl 3 rfl) ?_
    exact T_M_settle_L121 hn hD S hret hlk hK out v3 v4 v3 v5 st _ _ _ hP hS (lv_sub hl [0, 1, 2] rfl) hF
  · rw [if_pos h112] at hF
    refine lv_iconst (v := (-1)) S.1 S.2.1 d_M_settle_115 (by decide) ?_
    refine lv_goto (tgt := 121) S.1 S.2.1 d_M_settle_116 (by decide) ?_
    exact T_M_settle_L121 hn hD S hret hlk hK out v3 v4 v3 (-1) st _ _ _ hP hS (lv_sub hl [0, 1, 2] rfl) hF

set_option maxHeartbeats 4000000 in
set_option maxRecDepth 1000000 in
theorem T_M_settle_L52 {dC : Nat → ClassId} {dI : Nat → Nat → Nat} {cI cZ cR cA : ClassId} {n : Nat} {ad : zK → Nat} {A : Nat → Prop} (hn : 2 ≤ n ∧ n ≤ 6) (hD : zD A zKm ad) {p : Program} {l : Launch} {e : Env} {s : State} {m : MethodId} {args : Array Value} {below : List Frame} {meth : Method} {c : Code} (S : CallFix p m c b_M_settle 7 s args zT N_M) (hret : meth.sig.returnType = none) (hlk : meth.locks = false) (hK : va_K (dC, dI) zcl (zty cI cZ cR cA) s) (out : Int32 × zS) : ∀ (fu : Nat) (v1 : Int32) (v2 : Int32) (v3 : Int32) (v4 : Int32) (v5 : Int32) (v6 : Int32) (st : zS) (H : Heap) (locs : List Loc) (ls : Array Slot) (hP : zV (dC, dI) zcl zKm ad (zmE n cI cZ ad) st H) (hS : va_S A s.heap H locs) (hl : lv_has ls 7 [(0, .ref (ad (0, 0))), (1, .int v1), (2, .int v2), (3, .int v3), (4, .int v4), (5, .int v5), (6, .int v6)]) (hF : F_M_settle_L52 n fu v1 v2 v3 v4 v5 v6 st = some out), W p l e rm_M_settle s m args below meth c H locs 0 0 (zQ below A (fun o H => o = none ∧ zV (dC, dI) zcl zKm ad (zmE n cI cZ ad) out.2 H) args s) (F0 m 52 ls []) := by
  intro fu
  induction fu with
  | zero => intro v1 v2 v3 v4 v5 v6 st H locs ls hP hS hl hF; rw [F_M_settle_L52] at hF; cases hF
  | succ f ih =>
    intro v1 v2 v3 v4 v5 v6 st H locs ls hP hS hl hF
    rw [F_M_settle_L52] at hF
    refine lv_iload S.1 S.2.1 d_M_settle_52 (lv_at hl 6 rfl) ?_
    refine lv_if_lt (tgt := 102) S.1 S.2.1 d_M_settle_54 (by decide) (fun h54 => ?_) (fun h54 => ?_)
    · rw [if_pos h54] at hF
      exact T_M_settle_L102 hn hD S hret hlk hK out v3 v4 v5 st _ _ _ hP hS (lv_sub hl [0, 3, 4, 5] rfl) hF
    · rw [if_neg h54] at hF
      refine lv_aload_n S.1 S.2.1 d_M_settle_57 rfl (lv_at hl 0 rfl) ?_
      refine lv_iload_n S.1 S.2.1 d_M_settle_58 rfl (lv_at hl 1 rfl) ?_
      refine lv_iload_n S.1 S.2.1 d_M_settle_59 rfl (lv_at hl 2 rfl) ?_
      refine lv_aload_n S.1 S.2.1 d_M_settle_60 rfl (lv_at hl 0 rfl) ?_
      refine zr_get (v := .ref (ad (4, 0))) S zi_M hK hP zkm_0 rfl rfl 4 (by decide) zx_27 rfl d_M_settle_61 ?_
      refine lv_iload_n S.1 S.2.1 d_M_settle_64 rfl (lv_at hl 3 rfl) ?_
      by_cases g65 : zOut v3 36
      · rw [if_pos g65] at hF; cases hF
      rw [if_neg g65] at hF
      refine zr_iald S hK hP zkm_4 rfl 0 rfl g65 d_M_settle_65 ?_
      refine lv_iload S.1 S.2.1 d_M_settle_66 (lv_at hl 4 rfl) ?_
      cases hc68 : F_M_isSure n v1 v2 (st 4 0 (Int32.toNatClampNeg v3)) v4 st with
      | none => rw [hc68] at hF; cases hF
      | some u68 =>
        obtain ⟨r68, st68⟩ := u68
        rw [hc68] at hF
        replace hF := zbind hF
        refine zr_callV (rest := []) S zT_good (C_M_isSure hn hD l v1 v2 (st 4 0 (Int32.toNatClampNeg v3)) v4 st (r68, st68) hc68) zn_M_isSure zx_110 ⟨rfl, rfl⟩ ⟨Nat.le_of_ble_eq_true rfl, Nat.le_of_ble_eq_true rfl⟩ ⟨Nat.zero_le _, Nat.zero_le _⟩ hK (zr_recv hK hP zkm_0 rfl rfl) hP hl.1 (Nat.le_of_ble_eq_true rfl) hS (fun _ h => h) d_M_settle_68 rfl (fun o H locs hpo _ _ hS => ?_)
        obtain ⟨rfl, hP⟩ := hpo
        refine W.eq (g2 := F0 m 71 ls [.int r68]) rfl ?_
        replace hF : F_M_settle_L52_s1 n (F_M_settle_L52 n f) v1 v2 v3 v4 v5 v6 r68 st68 = some out := hF
        replace hP : zV (dC, dI) zcl zKm ad (zmE n cI cZ ad) st68 H := hP
        unfold F_M_settle_L52_s1 at hF
        refine lv_if_ne (tgt := 102) S.1 S.2.1 d_M_settle_71 (by decide) (fun h71 => ?_) (fun h71 => ?_)
        · rw [if_neg h71] at hF
          exact T_M_settle_L102 hn hD S hret hlk hK out v3 v4 v5 st68 _ _ _ hP hS (lv_sub hl [0, 3, 4, 5] rfl) hF
        · rw [if_pos h71] at hF
          refine lv_aload_n S.1 S.2.1 d_M_settle_74 rfl (lv_at hl 0 rfl) ?_
          refine lv_iload_n S.1 S.2.1 d_M_settle_75 rfl (lv_at hl 1 rfl) ?_
          refine lv_iload_n S.1 S.2.1 d_M_settle_76 rfl (lv_at hl 2 rfl) ?_
          refine lv_iload S.1 S.2.1 d_M_settle_77 (lv_at hl 6 rfl) ?_
          refine lv_iload S.1 S.2.1 d_M_settle_79 (lv_at hl 4 rfl) ?_
          cases hc81 : F_M_isSure n v1 v2 v6 v4 st68 with
          | none => rw [hc81] at hF; cases hF
          | some u81 =>
            obtain ⟨r81, st81⟩ := u81
            rw [hc81] at hF
            replace hF := zbind hF
            refine zr_callV (rest := []) S zT_good (C_M_isSure hn hD l v1 v2 v6 v4 st68 (r81, st81) hc81) zn_M_isSure zx_110 ⟨rfl, rfl⟩ ⟨Nat.le_of_ble_eq_true rfl, Nat.le_of_ble_eq_true rfl⟩ ⟨Nat.zero_le _, Nat.zero_le _⟩ hK (zr_recv hK hP zkm_0 rfl rfl) hP hl.1 (Nat.le_of_ble_eq_true rfl) hS (fun _ h => h) d_M_settle_81 rfl (fun o H locs hpo _ _ hS => ?_)
            obtain ⟨rfl, hP⟩ := hpo
            refine W.eq (g2 := F0 m 84 ls [.int r81]) rfl ?_
            replace hF : F_M_settle_L52_s2 n (F_M_settle_L52 n f) v1 v2 v3 v4 v5 v6 r81 st81 = some out := hF
            replace hP : zV (dC, dI) zcl zKm ad (zmE n cI cZ ad) st81 H := hP
            unfold F_M_settle_L52_s2 at hF
            refine lv_if_eq (tgt := 92) S.1 S.2.1 d_M_settle_84 (by decide) (fun h84 => ?_) (fun h84 => ?_)
            · rw [if_pos h84] at hF
              refine lv_iload S.1 S.2.1 d_M_settle_92 (lv_at hl 5 rfl) ?_
              exact T_M_settle_L94 hn hD S hret hlk hK out (F_M_settle_L52 n f) ih v1 v2 v3 v4 v6 v5 st81 _ _ _ hP hS (lv_sub hl [0, 1, 2, 3, 4, 6] rfl) hF
            · rw [if_neg h84] at hF
              refine lv_iload S.1 S.2.1 d_M_settle_87 (lv_at hl 6 rfl) ?_
              refine lv_goto (tgt := 94) S.1 S.2.1 d_M_settle_89 (by decide) ?_
              exact T_M_settle_L94 hn hD S hret hlk hK out (F_M_settle_L52 n f) ih v1 v2 v3 v4 v6 v6 st81 _ _ _ hP hS (lv_sub hl [0, 1, 2, 3, 4, 6] rfl) hF

set_option maxHeartbeats 4000000 in
set_option maxRecDepth 1000000 in
theorem T_M_settle_L42 {dC : Nat → ClassId} {dI : Nat → Nat → Nat} {cI cZ cR cA : ClassId} {n : Nat} {ad : zK → Nat} {A : Nat → Prop} (hn : 2 ≤ n ∧ n ≤ 6) (hD : zD A zKm ad) {p : Program} {l : Launch} {e : Env} {s : State} {m : MethodId} {args : Array Value} {below : List Frame} {meth : Method} {c : Code} (S : CallFix p m c b_M_settle 7 s args zT N_M) (hret : meth.sig.returnType = none) (hlk : meth.locks = false) (hK : va_K (dC, dI) zcl (zty cI cZ cR cA) s) (out : Int32 × zS) (v1 : Int32) (v2 : Int32) (v3 : Int32) (v4 : Int32) (t0 : Int32) (st : zS) (H : Heap) (locs : List Loc) (ls : Array Slot) (hP : zV (dC, dI) zcl zKm ad (zmE n cI cZ ad) st H) (hS : va_S A s.heap H locs) (hl : lv_has ls 7 [(0, .ref (ad (0, 0))), (1, .int v1), (2, .int v2), (3, .int v3), (4, .int v4)]) (hF : F_M_settle_L42 n v1 v2 v3 v4 t0 st = some out) : W p l e rm_M_settle s m args below meth c H locs 0 0 (zQ below A (fun o H => o = none ∧ zV (dC, dI) zcl zKm ad (zmE n cI cZ ad) out.2 H) args s) (F0 m 42 ls [.int t0]) := by
  unfold F_M_settle_L42 at hF
  refine lv_istore S.1 S.2.1 d_M_settle_42 hl (by decide) rfl (fun ls hl => ?_)
  have hl : lv_has ls 7 [(5, .int t0), (0, .ref (ad (0, 0))), (1, .int v1), (2, .int v2), (3, .int v3), (4, .int v4)] := hl
  refine lv_aload_n S.1 S.2.1 d_M_settle_44 rfl (lv_at hl 1 rfl) ?_
  refine zr_get (v := .int (nI n)) S zi_M hK hP zkm_0 rfl rfl 0 (by decide) zx_39 rfl d_M_settle_45 ?_
  refine lv_iconst (v := 1) S.1 S.2.1 d_M_settle_48 (by decide) ?_
  refine lv_isub S.1 S.2.1 d_M_settle_49 ?_
  refine lv_istore S.1 S.2.1 d_M_settle_50 hl (by decide) rfl (fun ls hl => ?_)
  have hl : lv_has ls 7 [(6, .int ((nI n) - 1)), (5, .int t0), (0, .ref (ad (0, 0))), (1, .int v1), (2, .int v2), (3, .int v3), (4, .int v4)] := hl
  exact T_M_settle_L52 hn hD S hret hlk hK out zFuel v1 v2 v3 v4 t0 ((nI n) - 1) st _ _ _ hP hS (lv_sub hl [2, 3, 4, 5, 6, 1, 0] rfl) hF

set_option maxHeartbeats 4000000 in
set_option maxRecDepth 1000000 in
theorem C_M_settle {dC : Nat → ClassId} {dI : Nat → Nat → Nat} {cI cZ cR cA : ClassId} {n : Nat} {ad : zK → Nat} {A : Nat → Prop} (hn : 2 ≤ n ∧ n ≤ 6) (hD : zD A zKm ad) (l : Launch) (v1 : Int32) (v2 : Int32) (st : zS) (out : Int32 × zS) (hF : F_M_settle n v1 v2 st = some out) : zC zT (dC, dI) zcl (zty cI cZ cR cA) A l y_M_settle b_M_settle 7 (none) rm_M_settle [.ref (ad (0, 0)), .int v1, .int v2] (fun H => zV (dC, dI) zcl zKm ad (zmE n cI cZ ad) st H) (fun o H => o = none ∧ zV (dC, dI) zcl zKm ad (zmE n cI cZ ad) out.2 H) := by
  refine zC_of (by decide) (Nat.le_of_ble_eq_true rfl) (fun p e s m args below meth c ls S hret hlk hK hP hl => ?_)
  have hS : va_S A s.heap s.heap [] := va_S.rf
  have hl : lv_has ls 7 [(0, .ref (ad (0, 0))), (1, .int v1), (2, .int v2)] := hl
  have hP : zV (dC, dI) zcl zKm ad (zmE n cI cZ ad) st s.heap := hP
  unfold F_M_settle at hF
  refine lv_bipush (v := 6) S.1 S.2.1 d_M_settle_0 (by decide) ?_
  refine lv_iload_n S.1 S.2.1 d_M_settle_2 rfl (lv_at hl 1 rfl) ?_
  refine lv_imul S.1 S.2.1 d_M_settle_3 ?_
  refine lv_iload_n S.1 S.2.1 d_M_settle_4 rfl (lv_at hl 2 rfl) ?_
  refine lv_iadd S.1 S.2.1 d_M_settle_5 ?_
  refine lv_istore_n S.1 S.2.1 d_M_settle_6 rfl hl (by decide) rfl (fun ls hl => ?_)
  have hl : lv_has ls 7 [(3, .int ((6 * v1) + v2)), (0, .ref (ad (0, 0))), (1, .int v1), (2, .int v2)] := hl
  refine lv_aload_n S.1 S.2.1 d_M_settle_7 rfl (lv_at hl 1 rfl) ?_
  refine lv_iload_n S.1 S.2.1 d_M_settle_8 rfl (lv_at hl 2 rfl) ?_
  refine lv_iload_n S.1 S.2.1 d_M_settle_9 rfl (lv_at hl 3 rfl) ?_
  cases hc10 : F_M_least n v1 v2 st with
  | none => rw [hc10] at hF; cases hF
  | some u10 =>
    obtain ⟨r10, st10⟩ := u10
    rw [hc10] at hF
    replace hF := zbind hF
    refine zr_callV (rest := []) S zT_good (C_M_least hn hD l v1 v2 st (r10, st10) hc10) zn_M_least zx_109 ⟨rfl, rfl⟩ ⟨Nat.le_of_ble_eq_true rfl, Nat.le_of_ble_eq_true rfl⟩ ⟨Nat.zero_le _, Nat.zero_le _⟩ hK (zr_recv hK hP zkm_0 rfl rfl) hP hl.1 (Nat.le_of_ble_eq_true rfl) hS (fun _ h => h) d_M_settle_10 rfl (fun o H locs hpo _ _ hS => ?_)
    obtain ⟨rfl, hP⟩ := hpo
    refine W.eq (g2 := F0 m 13 ls [.int r10]) rfl ?_
    replace hF : F_M_settle_s1 n ((6 * v1) + v2) v1 v2 r10 st10 = some out := hF
    replace hP : zV (dC, dI) zcl zKm ad (zmE n cI cZ ad) st10 H := hP
    unfold F_M_settle_s1 at hF
    refine lv_istore S.1 S.2.1 d_M_settle_13 hl (by decide) rfl (fun ls hl => ?_)
    have hl : lv_has ls 7 [(4, .int r10), (3, .int ((6 * v1) + v2)), (0, .ref (ad (0, 0))), (1, .int v1), (2, .int v2)] := hl
    refine lv_aload_n S.1 S.2.1 d_M_settle_15 rfl (lv_at hl 2 rfl) ?_
    refine lv_iload_n S.1 S.2.1 d_M_settle_16 rfl (lv_at hl 3 rfl) ?_
    refine lv_iload_n S.1 S.2.1 d_M_settle_17 rfl (lv_at hl 4 rfl) ?_
    refine lv_aload_n S.1 S.2.1 d_M_settle_18 rfl (lv_at hl 2 rfl) ?_
    refine zr_get (v := .ref (ad (4, 0))) S zi_M hK hP zkm_0 rfl rfl 4 (by decide) zx_27 rfl d_M_settle_19 ?_
    refine lv_iload_n S.1 S.2.1 d_M_settle_22 rfl (lv_at hl 1 rfl) ?_
    by_cases g23 : zOut ((6 * v1) + v2) 36
    · rw [if_pos g23] at hF; cases hF
    rw [if_neg g23] at hF
    refine zr_iald S hK hP zkm_4 rfl 0 rfl g23 d_M_settle_23 ?_
    refine lv_iload S.1 S.2.1 d_M_settle_24 (lv_at hl 0 rfl) ?_
    cases hc26 : F_M_isSure n v1 v2 (st10 4 0 (Int32.toNatClampNeg ((6 * v1) + v2))) r10 st10 with
    | none => rw [hc26] at hF; cases hF
    | some u26 =>
      obtain ⟨r26, st26⟩ := u26
      rw [hc26] at hF
      replace hF := zbind hF
      refine zr_callV (rest := []) S zT_good (C_M_isSure hn hD l v1 v2 (st10 4 0 (Int32.toNatClampNeg ((6 * v1) + v2))) r10 st10 (r26, st26) hc26) zn_M_isSure zx_110 ⟨rfl, rfl⟩ ⟨Nat.le_of_ble_eq_true rfl, Nat.le_of_ble_eq_true rfl⟩ ⟨Nat.zero_le _, Nat.zero_le _⟩ hK (zr_recv hK hP zkm_0 rfl rfl) hP hl.1 (Nat.le_of_ble_eq_true rfl) hS (fun _ h => h) d_M_settle_26 rfl (fun o H locs hpo _ _ hS => ?_)
      obtain ⟨rfl, hP⟩ := hpo
      refine W.eq (g2 := F0 m 29 ls [.int r26]) rfl ?_
      replace hF : F_M_settle_s2 n r10 ((6 * v1) + v2) v1 v2 r26 st26 = some out := hF
      replace hP : zV (dC, dI) zcl zKm ad (zmE n cI cZ ad) st26 H := hP
      unfold F_M_settle_s2 at hF
      refine lv_if_eq (tgt := 41) S.1 S.2.1 d_M_settle_29 (by decide) (fun h29 => ?_) (fun h29 => ?_)
      · rw [if_pos h29] at hF
        refine lv_iconst (v := (-1)) S.1 S.2.1 d_M_settle_41 (by decide) ?_
        exact T_M_settle_L42 hn hD S hret hlk hK out v1 v2 ((6 * v1) + v2) r10 (-1) st26 _ _ _ hP hS (lv_sub hl [2, 3, 4, 1, 0] rfl) hF
      · rw [if_neg h29] at hF
        refine lv_aload_n S.1 S.2.1 d_M_settle_32 rfl (lv_at hl 2 rfl) ?_
        refine zr_get (v := .ref (ad (4, 0))) S zi_M hK hP zkm_0 rfl rfl 4 (by decide) zx_27 rfl d_M_settle_33 ?_
        refine lv_iload_n S.1 S.2.1 d_M_settle_36 rfl (lv_at hl 1 rfl) ?_
        by_cases g37 : zOut ((6 * v1) + v2) 36
        · rw [if_pos g37] at hF; cases hF
        rw [if_neg g37] at hF
        refine zr_iald S hK hP zkm_4 rfl 0 rfl g37 d_M_settle_37 ?_
        refine lv_goto (tgt := 42) S.1 S.2.1 d_M_settle_38 (by decide) ?_
        exact T_M_settle_L42 hn hD S hret hlk hK out v1 v2 ((6 * v1) + v2) r10 (st26 4 0 (Int32.toNatClampNeg ((6 * v1) + v2))) st26 _ _ _ hP hS (lv_sub hl [2, 3, 4, 1, 0] rfl) hF

theorem d_M_askAll_0 : decode b_M_askAll 0 = .ok (.bipush 6, 2) := by decide +kernel
theorem d_M_askAll_2 : decode b_M_askAll 2 = .ok (.iload_n 1, 1) := by decide +kernel
theorem d_M_askAll_3 : decode b_M_askAll 3 = .ok (.imul, 1) := by decide +kernel
theorem d_M_askAll_4 : decode b_M_askAll 4 = .ok (.iload_n 2, 1) := by decide +kernel
theorem d_M_askAll_5 : decode b_M_askAll 5 = .ok (.iadd, 1) := by decide +kernel
theorem d_M_askAll_6 : decode b_M_askAll 6 = .ok (.istore_n 3, 1) := by decide +kernel
theorem d_M_askAll_7 : decode b_M_askAll 7 = .ok (.aload_n 0, 1) := by decide +kernel
theorem d_M_askAll_8 : decode b_M_askAll 8 = .ok (.getfield 13, 3) := by decide +kernel
theorem d_M_askAll_11 : decode b_M_askAll 11 = .ok (.iload_n 3, 1) := by decide +kernel
theorem d_M_askAll_12 : decode b_M_askAll 12 = .ok (.aload_n 0, 1) := by decide +kernel
theorem d_M_askAll_13 : decode b_M_askAll 13 = .ok (.iload_n 1, 1) := by decide +kernel
theorem d_M_askAll_14 : decode b_M_askAll 14 = .ok (.iload_n 2, 1) := by decide +kernel
theorem d_M_askAll_15 : decode b_M_askAll 15 = .ok (.aload_n 0, 1) := by decide +kernel
theorem d_M_askAll_16 : decode b_M_askAll 16 = .ok (.getfield 19, 3) := by decide +kernel
theorem d_M_askAll_19 : decode b_M_askAll 19 = .ok (.iload_n 3, 1) := by decide +kernel
theorem d_M_askAll_20 : decode b_M_askAll 20 = .ok (.iaload, 1) := by decide +kernel
theorem d_M_askAll_21 : decode b_M_askAll 21 = .ok (.invokevirtual 71, 3) := by decide +kernel
theorem d_M_askAll_24 : decode b_M_askAll 24 = .ok (.iastore, 1) := by decide +kernel
theorem d_M_askAll_25 : decode b_M_askAll 25 = .ok (.aload_n 0, 1) := by decide +kernel
theorem d_M_askAll_26 : decode b_M_askAll 26 = .ok (.iload_n 1, 1) := by decide +kernel
theorem d_M_askAll_27 : decode b_M_askAll 27 = .ok (.iload_n 2, 1) := by decide +kernel
theorem d_M_askAll_28 : decode b_M_askAll 28 = .ok (.iconst 1, 1) := by decide +kernel
theorem d_M_askAll_29 : decode b_M_askAll 29 = .ok (.iconst (-1), 1) := by decide +kernel
theorem d_M_askAll_30 : decode b_M_askAll 30 = .ok (.invokevirtual 83, 3) := by decide +kernel
theorem d_M_askAll_33 : decode b_M_askAll 33 = .ok (.istore 4, 2) := by decide +kernel
theorem d_M_askAll_35 : decode b_M_askAll 35 = .ok (.iconst 0, 1) := by decide +kernel
theorem d_M_askAll_36 : decode b_M_askAll 36 = .ok (.istore 5, 2) := by decide +kernel
theorem d_M_askAll_38 : decode b_M_askAll 38 = .ok (.iload 5, 2) := by decide +kernel
theorem d_M_askAll_40 : decode b_M_askAll 40 = .ok (.aload_n 0, 1) := by decide +kernel
theorem d_M_askAll_41 : decode b_M_askAll 41 = .ok (.getfield 56, 3) := by decide +kernel
theorem d_M_askAll_44 : decode b_M_askAll 44 = .ok (.if_icmp .ge 41, 3) := by decide +kernel
theorem d_M_askAll_47 : decode b_M_askAll 47 = .ok (.aload_n 0, 1) := by decide +kernel
theorem d_M_askAll_48 : decode b_M_askAll 48 = .ok (.getfield 35, 3) := by decide +kernel
theorem d_M_askAll_51 : decode b_M_askAll 51 = .ok (.bipush 36, 2) := by decide +kernel
theorem d_M_askAll_53 : decode b_M_askAll 53 = .ok (.iload 5, 2) := by decide +kernel
theorem d_M_askAll_55 : decode b_M_askAll 55 = .ok (.imul, 1) := by decide +kernel
theorem d_M_askAll_56 : decode b_M_askAll 56 = .ok (.iload_n 3, 1) := by decide +kernel
theorem d_M_askAll_57 : decode b_M_askAll 57 = .ok (.iadd, 1) := by decide +kernel
theorem d_M_askAll_58 : decode b_M_askAll 58 = .ok (.aload_n 0, 1) := by decide +kernel
theorem d_M_askAll_59 : decode b_M_askAll 59 = .ok (.getfield 7, 3) := by decide +kernel
theorem d_M_askAll_62 : decode b_M_askAll 62 = .ok (.bipush 6, 2) := by decide +kernel
theorem d_M_askAll_64 : decode b_M_askAll 64 = .ok (.iload_n 1, 1) := by decide +kernel
theorem d_M_askAll_65 : decode b_M_askAll 65 = .ok (.imul, 1) := by decide +kernel
theorem d_M_askAll_66 : decode b_M_askAll 66 = .ok (.iload 5, 2) := by decide +kernel
theorem d_M_askAll_68 : decode b_M_askAll 68 = .ok (.iadd, 1) := by decide +kernel
theorem d_M_askAll_69 : decode b_M_askAll 69 = .ok (.iaload, 1) := by decide +kernel
theorem d_M_askAll_70 : decode b_M_askAll 70 = .ok (.ifCond .le 7, 3) := by decide +kernel
theorem d_M_askAll_73 : decode b_M_askAll 73 = .ok (.iconst 1, 1) := by decide +kernel
theorem d_M_askAll_74 : decode b_M_askAll 74 = .ok (.goto 4, 3) := by decide +kernel
theorem d_M_askAll_77 : decode b_M_askAll 77 = .ok (.iconst 0, 1) := by decide +kernel
theorem d_M_askAll_78 : decode b_M_askAll 78 = .ok (.bastore, 1) := by decide +kernel
theorem d_M_askAll_79 : decode b_M_askAll 79 = .ok (.iinc 5 1, 3) := by decide +kernel
theorem d_M_askAll_82 : decode b_M_askAll 82 = .ok (.goto (-44), 3) := by decide +kernel
theorem d_M_askAll_85 : decode b_M_askAll 85 = .ok (.iload 4, 2) := by decide +kernel
theorem d_M_askAll_87 : decode b_M_askAll 87 = .ok (.ifCond .le 7, 3) := by decide +kernel
theorem d_M_askAll_90 : decode b_M_askAll 90 = .ok (.iconst 1, 1) := by decide +kernel
theorem d_M_askAll_91 : decode b_M_askAll 91 = .ok (.goto 4, 3) := by decide +kernel
theorem d_M_askAll_94 : decode b_M_askAll 94 = .ok (.iconst 0, 1) := by decide +kernel
theorem d_M_askAll_95 : decode b_M_askAll 95 = .ok (.ireturn, 1) := by decide +kernel
def F_M_askAll_L78_s1 (n : Nat) (c38 : Int32 → Int32 → Int32 → Int32 → zS → Option (Int32 × zS)) (v1 : Int32) (v3 : Int32) (v4 : Int32) (v5 : Int32) (st : zS) : Option (Int32 × zS) :=
    c38 v1 v3 v4 (v5 + 1) st

def F_M_askAll_L78 (n : Nat) (c38 : Int32 → Int32 → Int32 → Int32 → zS → Option (Int32 × zS)) (v1 : Int32) (v3 : Int32) (v4 : Int32) (v5 : Int32) (t1 : Int32) (t2 : Int32) (st : zS) : Option (Int32 × zS) :=
    if zOut t1 216 then none else if ¬ (t2 = 0 ∨ t2 = 1) then none else F_M_askAll_L78_s1 n c38 v1 v3 v4 v5 (zs st 9 0 (Int32.toNatClampNeg t1) t2)

def F_M_askAll_L38 (n : Nat) : Nat → Int32 → Int32 → Int32 → Int32 → zS → Option (Int32 × zS)
  | 0, _, _, _, _, _ => none
  | f + 1, v1, v3, v4, v5, st =>
    if (nI n) ≤ v5 then (if v4 ≤ 0 then (some (0, st)) else (some (1, st))) else (if zOut ((6 * v1) + v5) 36 then none else if (st 1 0 (Int32.toNatClampNeg ((6 * v1) + v5))) ≤ 0 then (F_M_askAll_L78 n (F_M_askAll_L38 n f) v1 v3 v4 v5 ((36 * v5) + v3) 0 st) else (F_M_askAll_L78 n (F_M_askAll_L38 n f) v1 v3 v4 v5 ((36 * v5) + v3) 1 st))

def F_M_askAll_s3 (n : Nat) (v3 : Int32) (v1 : Int32) (t0 : Int32) (st : zS) : Option (Int32 × zS) :=
    F_M_askAll_L38 n zFuel v1 v3 t0 0 st

def F_M_askAll_s2 (n : Nat) (v3 : Int32) (v1 : Int32) (v2 : Int32) (st : zS) : Option (Int32 × zS) :=
    (F_M_tellAll n v1 v2 1 (-1) st).bind (fun u => F_M_askAll_s3 n v3 v1 u.1 u.2)

def F_M_askAll_s1 (n : Nat) (v3 : Int32) (v1 : Int32) (v2 : Int32) (t1 : Int32) (t2 : Int32) (st : zS) : Option (Int32 × zS) :=
    if zOut t1 36 then none else F_M_askAll_s2 n v3 v1 v2 (zs st 2 0 (Int32.toNatClampNeg t1) t2)

def F_M_askAll (n : Nat) (v1 : Int32) (v2 : Int32) (st : zS) : Option (Int32 × zS) :=
    if zOut ((6 * v1) + v2) 36 then none else (F_M_through n v1 v2 (st 4 0 (Int32.toNatClampNeg ((6 * v1) + v2))) st).bind (fun u => F_M_askAll_s1 n ((6 * v1) + v2) v1 v2 ((6 * v1) + v2) u.1 u.2)

set_option maxHeartbeats 4000000 in
set_option maxRecDepth 1000000 in
theorem T_M_askAll_L78 {dC : Nat → ClassId} {dI : Nat → Nat → Nat} {cI cZ cR cA : ClassId} {n : Nat} {ad : zK → Nat} {A : Nat → Prop} (hn : 2 ≤ n ∧ n ≤ 6) (hD : zD A zKm ad) {p : Program} {l : Launch} {e : Env} {s : State} {m : MethodId} {args : Array Value} {below : List Frame} {meth : Method} {c : Code} (S : CallFix p m c b_M_askAll 6 s args zT N_M) (hret : meth.sig.returnType = some .boolean) (hlk : meth.locks = false) (hK : va_K (dC, dI) zcl (zty cI cZ cR cA) s) (out : Int32 × zS) (c38 : Int32 → Int32 → Int32 → Int32 → zS → Option (Int32 × zS)) (hc38 : ∀ (v1 : Int32) (v3 : Int32) (v4 : Int32) (v5 : Int32) (st : zS) (H : Heap) (locs : List Loc) (ls : Array Slot), zV (dC, dI) zcl zKm ad (zmE n cI cZ ad) st H → va_S A s.heap H locs → lv_has ls 6 [(0, .ref (ad (0, 0))), (1, .int v1), (3, .int v3), (4, .int v4), (5, .int v5)] → c38 v1 v3 v4 v5 st = some out → W p l e rm_M_askAll s m args below meth c H locs 0 0 (zQ below A (fun o H => o = some (.int out.1) ∧ zV (dC, dI) zcl zKm ad (zmE n cI cZ ad) out.2 H) args s) (F0 m 38 ls [])) (v1 : Int32) (v3 : Int32) (v4 : Int32) (v5 : Int32) (t1 : Int32) (t2 : Int32) (st : zS) (H : Heap) (locs : List Loc) (ls : Array Slot) (hP : zV (dC, dI) zcl zKm ad (zmE n cI cZ ad) st H) (hS : va_S A s.heap H locs) (hl : lv_has ls 6 [(0, .ref (ad (0, 0))), (1, .int v1), (3, .int v3), (4, .int v4), (5, .int v5)]) (hF : F_M_askAll_L78 n c38 v1 v3 v4 v5 t1 t2 st = some out) : W p l e rm_M_askAll s m args below meth c H locs 0 0 (zQ below A (fun o H => o = some (.int out.1) ∧ zV (dC, dI) zcl zKm ad (zmE n cI cZ ad) out.2 H) args s) (F0 m 78 ls [.int t2, .int t1, .ref (ad (9, 0))]) := by
  unfold F_M_askAll_L78 at hF
  by_cases g78 : zOut t1 216
  · rw [if_pos g78] at hF; cases hF
  rw [if_neg g78] at hF
  by_cases b78 : ¬ (t2 = 0 ∨ t2 = 1)
  · rw [if_pos b78] at hF; cases hF
  rw [if_neg b78] at hF
  refine zr_zast S hK hP hD hS zkm_9 (fun _ => rfl) 1 rfl g78 (Decidable.not_not.mp b78) d_M_askAll_78 (fun H locs hP hS => ?_)
  replace hF : F_M_askAll_L78_s1 n c38 v1 v3 v4 v5 (zs st 9 0 (Int32.toNatClampNeg t1) t2) = some out := hF
  generalize zs st 9 0 (Int32.toNatClampNeg t1) t2 = st79 at hP hF
  unfold F_M_askAll_L78_s1 at hF
  refine lv_iinc (k := 4) (v := v5 + 1) S.1 S.2.1 d_M_askAll_79 hl rfl rfl (by decide) rfl (fun ls hl => ?_)
  have hl : lv_has ls 6 [(5, .int (v5 + 1)), (0, .ref (ad (0, 0))), (1, .int v1), (3, .int v3), (4, .int v4)] := hl
  refine lv_goto (tgt := 38) S.1 S.2.1 d_M_askAll_82 (by decide) ?_
  exact hc38 v1 v3 v4 (v5 + 1) st79 _ _ _ hP hS (lv_sub hl [1, 2, 3, 4, 0] rfl) hF

set_option maxHeartbeats 4000000 in
set_option maxRecDepth 1000000 in
theorem T_M_askAll_L38 {dC : Nat → ClassId} {dI : Nat → Nat → Nat} {cI cZ cR cA : ClassId} {n : Nat} {ad : zK → Nat} {A : Nat → Prop} (hn : 2 ≤ n ∧ n ≤ 6) (hD : zD A zKm ad) {p : Program} {l : Launch} {e : Env} {s : State} {m : MethodId} {args : Array Value} {below : List Frame} {meth : Method} {c : Code} (S : CallFix p m c b_M_askAll 6 s args zT N_M) (hret : meth.sig.returnType = some .boolean) (hlk : meth.locks = false) (hK : va_K (dC, dI) zcl (zty cI cZ cR cA) s) (out : Int32 × zS) : ∀ (fu : Nat) (v1 : Int32) (v3 : Int32) (v4 : Int32) (v5 : Int32) (st : zS) (H : Heap) (locs : List Loc) (ls : Array Slot) (hP : zV (dC, dI) zcl zKm ad (zmE n cI cZ ad) st H) (hS : va_S A s.heap H locs) (hl : lv_has ls 6 [(0, .ref (ad (0, 0))), (1, .int v1), (3, .int v3), (4, .int v4), (5, .int v5)]) (hF : F_M_askAll_L38 n fu v1 v3 v4 v5 st = some out), W p l e rm_M_askAll s m args below meth c H locs 0 0 (zQ below A (fun o H => o = some (.int out.1) ∧ zV (dC, dI) zcl zKm ad (zmE n cI cZ ad) out.2 H) args s) (F0 m 38 ls []) := by
  intro fu
  induction fu with
  | zero => intro v1 v3 v4 v5 st H locs ls hP hS hl hF; rw [F_M_askAll_L38] at hF; cases hF
  | succ f ih =>
    intro v1 v3 v4 v5 st H locs ls hP hS hl hF
    rw [F_M_askAll_L38] at hF
    refine lv_iload S.1 S.2.1 d_M_askAll_38 (lv_at hl 4 rfl) ?_
    refine lv_aload_n S.1 S.2.1 d_M_askAll_40 rfl (lv_at hl 0 rfl) ?_
    refine zr_get (v := .int (nI n)) S zi_M hK hP zkm_0 rfl rfl 0 (by decide) zx_39 rfl d_M_askAll_41 ?_
    refine lv_icmp_ge (tgt := 85) S.1 S.2.1 d_M_askAll_44 (by decide) (fun h44 => ?_) (fun h44 => ?_)
    · rw [if_pos h44] at hF
      refine lv_iload S.1 S.2.1 d_M_askAll_85 (lv_at hl 3 rfl) ?_
      refine lv_if_le (tgt := 94) S.1 S.2.1 d_M_askAll_87 (by decide) (fun h87 => ?_) (fun h87 => ?_)
      · rw [if_pos h87] at hF
        refine lv_iconst (v := 0) S.1 S.2.1 d_M_askAll_94 (by decide) ?_
        cases hF
        exact zr_zret S hret hlk (by decide) hS d_M_askAll_95 ⟨rfl, hP⟩
      · rw [if_neg h87] at hF
        refine lv_iconst (v := 1) S.1 S.2.1 d_M_askAll_90 (by decide) ?_
        refine lv_goto (tgt := 95) S.1 S.2.1 d_M_askAll_91 (by decide) ?_
        cases hF
        exact zr_zret S hret hlk (by decide) hS d_M_askAll_95 ⟨rfl, hP⟩
    · rw [if_neg h44] at hF
      refine lv_aload_n S.1 S.2.1 d_M_askAll_47 rfl (lv_at hl 0 rfl) ?_
      refine zr_get (v := .ref (ad (9, 0))) S zi_M hK hP zkm_0 rfl rfl 9 (by decide) zx_32 rfl d_M_askAll_48 ?_
      refine lv_bipush (v := 36) S.1 S.2.1 d_M_askAll_51 (by decide) ?_
      refine lv_iload S.1 S.2.1 d_M_askAll_53 (lv_at hl 4 rfl) ?_
      refine lv_imul S.1 S.2.1 d_M_askAll_55 ?_
      refine lv_iload_n S.1 S.2.1 d_M_askAll_56 rfl (lv_at hl 2 rfl) ?_
      refine lv_iadd S.1 S.2.1 d_M_askAll_57 ?_
      refine lv_aload_n S.1 S.2.1 d_M_askAll_58 rfl (lv_at hl 0 rfl) ?_
      refine zr_get (v := .ref (ad (1, 0))) S zi_M hK hP zkm_0 rfl rfl 1 (by decide) zx_41 rfl d_M_askAll_59 ?_
      refine lv_bipush (v := 6) S.1 S.2.1 d_M_askAll_62 (by decide) ?_
      refine lv_iload_n S.1 S.2.1 d_M_askAll_64 rfl (lv_at hl 1 rfl) ?_
      refine lv_imul S.1 S.2.1 d_M_askAll_65 ?_
      refine lv_iload S.1 S.2.1 d_M_askAll_66 (lv_at hl 4 rfl) ?_
      refine lv_iadd S.1 S.2.1 d_M_askAll_68 ?_
      by_cases g69 : zOut ((6 * v1) + v5) 36
      · rw [if_pos g69] at hF; cases hF
      rw [if_neg g69] at hF
      refine zr_iald S hK hP zkm_1 rfl 0 rfl g69 d_M_askAll_69 ?_
      refine lv_if_le (tgt := 77) S.1 S.2.1 d_M_askAll_70 (by decide) (fun h70 => ?_) (fun h70 => ?_)
      · rw [if_pos h70] at hF
        refine lv_iconst (v := 0) S.1 S.2.1 d_M_askAll_77 (by decide) ?_
        exact T_M_askAll_L78 hn hD S hret hlk hK out (F_M_askAll_L38 n f) ih v1 v3 v4 v5 ((36 * v5) + v3) 0 st _ _ _ hP hS (lv_sub hl [0, 1, 2, 3, 4] rfl) hF
      · rw [if_neg h70] at hF
        refine lv_iconst (v := 1) S.1 S.2.1 d_M_askAll_73 (by decide) ?_
        refine lv_goto (tgt := 78) S.1 S.2.1 d_M_askAll_74 (by decide) ?_
        exact T_M_askAll_L78 hn hD S hret hlk hK out (F_M_askAll_L38 n f) ih v1 v3 v4 v5 ((36 * v5) + v3) 1 st _ _ _ hP hS (lv_sub hl [0, 1, 2, 3, 4] rfl) hF

set_option maxHeartbeats 4000000 in
set_option maxRecDepth 1000000 in
theorem C_M_askAll {dC : Nat → ClassId} {dI : Nat → Nat → Nat} {cI cZ cR cA : ClassId} {n : Nat} {ad : zK → Nat} {A : Nat → Prop} (hn : 2 ≤ n ∧ n ≤ 6) (hD : zD A zKm ad) (l : Launch) (v1 : Int32) (v2 : Int32) (st : zS) (out : Int32 × zS) (hF : F_M_askAll n v1 v2 st = some out) : zC zT (dC, dI) zcl (zty cI cZ cR cA) A l y_M_askAll b_M_askAll 6 (some .boolean) rm_M_askAll [.ref (ad (0, 0)), .int v1, .int v2] (fun H => zV (dC, dI) zcl zKm ad (zmE n cI cZ ad) st H) (fun o H => o = some (.int out.1) ∧ zV (dC, dI) zcl zKm ad (zmE n cI cZ ad) out.2 H) := by
  refine zC_of (by decide) (Nat.le_of_ble_eq_true rfl) (fun p e s m args below meth c ls S hret hlk hK hP hl => ?_)
  have hS : va_S A s.heap s.heap [] := va_S.rf
  have hl : lv_has ls 6 [(0, .ref (ad (0, 0))), (1, .int v1), (2, .int v2)] := hl
  have hP : zV (dC, dI) zcl zKm ad (zmE n cI cZ ad) st s.heap := hP
  unfold F_M_askAll at hF
  refine lv_bipush (v := 6) S.1 S.2.1 d_M_askAll_0 (by decide) ?_
  refine lv_iload_n S.1 S.2.1 d_M_askAll_2 rfl (lv_at hl 1 rfl) ?_
  refine lv_imul S.1 S.2.1 d_M_askAll_3 ?_
  refine lv_iload_n S.1 S.2.1 d_M_askAll_4 rfl (lv_at hl 2 rfl) ?_
  refine lv_iadd S.1 S.2.1 d_M_askAll_5 ?_
  refine lv_istore_n S.1 S.2.1 d_M_askAll_6 rfl hl (by decide) rfl (fun ls hl => ?_)
  have hl : lv_has ls 6 [(3, .int ((6 * v1) + v2)), (0, .ref (ad (0, 0))), (1, .int v1), (2, .int v2)] := hl
  refine lv_aload_n S.1 S.2.1 d_M_askAll_7 rfl (lv_at hl 1 rfl) ?_
  refine zr_get (v := .ref (ad (2, 0))) S zi_M hK hP zkm_0 rfl rfl 2 (by decide) zx_25 rfl d_M_askAll_8 ?_
  refine lv_iload_n S.1 S.2.1 d_M_askAll_11 rfl (lv_at hl 0 rfl) ?_
  refine lv_aload_n S.1 S.2.1 d_M_askAll_12 rfl (lv_at hl 1 rfl) ?_
  refine lv_iload_n S.1 S.2.1 d_M_askAll_13 rfl (lv_at hl 2 rfl) ?_
  refine lv_iload_n S.1 S.2.1 d_M_askAll_14 rfl (lv_at hl 3 rfl) ?_
  refine lv_aload_n S.1 S.2.1 d_M_askAll_15 rfl (lv_at hl 1 rfl) ?_
  refine zr_get (v := .ref (ad (4, 0))) S zi_M hK hP zkm_0 rfl rfl 4 (by decide) zx_27 rfl d_M_askAll_16 ?_
  refine lv_iload_n S.1 S.2.1 d_M_askAll_19 rfl (lv_at hl 0 rfl) ?_
  by_cases g20 : zOut ((6 * v1) + v2) 36
  · rw [if_pos g20] at hF; cases hF
  rw [if_neg g20] at hF
  refine zr_iald S hK hP zkm_4 rfl 0 rfl g20 d_M_askAll_20 ?_
  cases hc21 : F_M_through n v1 v2 (st 4 0 (Int32.toNatClampNeg ((6 * v1) + v2))) st with
  | none => rw [hc21] at hF; cases hF
  | some u21 =>
    obtain ⟨r21, st21⟩ := u21
    rw [hc21] at hF
    replace hF := zbind hF
    refine zr_callV (rest := [.int ((6 * v1) + v2), .ref (ad (2, 0))]) S zT_good (C_M_through hn hD l v1 v2 (st 4 0 (Int32.toNatClampNeg ((6 * v1) + v2))) st (r21, st21) hc21) zn_M_through zx_108 ⟨rfl, rfl⟩ ⟨Nat.le_of_ble_eq_true rfl, Nat.le_of_ble_eq_true rfl⟩ ⟨Nat.zero_le _, Nat.zero_le _⟩ hK (zr_recv hK hP zkm_0 rfl rfl) hP hl.1 (Nat.le_of_ble_eq_true rfl) hS (fun _ h => h) d_M_askAll_21 rfl (fun o H locs hpo _ _ hS => ?_)
    obtain ⟨rfl, hP⟩ := hpo
    refine W.eq (g2 := F0 m 24 ls [.int r21, .int ((6 * v1) + v2), .ref (ad (2, 0))]) rfl ?_
    replace hF : F_M_askAll_s1 n ((6 * v1) + v2) v1 v2 ((6 * v1) + v2) r21 st21 = some out := hF
    replace hP : zV (dC, dI) zcl zKm ad (zmE n cI cZ ad) st21 H := hP
    unfold F_M_askAll_s1 at hF
    by_cases g24 : zOut ((6 * v1) + v2) 36
    · rw [if_pos g24] at hF; cases hF
    rw [if_neg g24] at hF
    refine zr_iast S hK hP hD hS zkm_2 (fun _ => rfl) 0 rfl g24 d_M_askAll_24 (fun H locs hP hS => ?_)
    replace hF : F_M_askAll_s2 n ((6 * v1) + v2) v1 v2 (zs st21 2 0 (Int32.toNatClampNeg ((6 * v1) + v2)) r21) = some out := hF
    generalize zs st21 2 0 (Int32.toNatClampNeg ((6 * v1) + v2)) r21 = st25 at hP hF
    unfold F_M_askAll_s2 at hF
    refine lv_aload_n S.1 S.2.1 d_M_askAll_25 rfl (lv_at hl 1 rfl) ?_
    refine lv_iload_n S.1 S.2.1 d_M_askAll_26 rfl (lv_at hl 2 rfl) ?_
    refine lv_iload_n S.1 S.2.1 d_M_askAll_27 rfl (lv_at hl 3 rfl) ?_
    refine lv_iconst (v := 1) S.1 S.2.1 d_M_askAll_28 (by decide) ?_
    refine lv_iconst (v := (-1)) S.1 S.2.1 d_M_askAll_29 (by decide) ?_
    cases hc30 : F_M_tellAll n v1 v2 1 (-1) st25 with
    | none => rw [hc30] at hF; cases hF
    | some u30 =>
      obtain ⟨r30, st30⟩ := u30
      rw [hc30] at hF
      replace hF := zbind hF
      refine zr_callV (rest := []) S zT_good (C_M_tellAll hn hD l v1 v2 1 (-1) st25 (r30, st30) hc30) zn_M_tellAll zx_111 ⟨rfl, rfl⟩ ⟨Nat.le_of_ble_eq_true rfl, Nat.le_of_ble_eq_true rfl⟩ ⟨Nat.zero_le _, Nat.zero_le _⟩ hK (zr_recv hK hP zkm_0 rfl rfl) hP hl.1 (Nat.le_of_ble_eq_true rfl) hS (fun _ h => h) d_M_askAll_30 rfl (fun o H locs hpo _ _ hS => ?_)
      obtain ⟨rfl, hP⟩ := hpo
      refine W.eq (g2 := F0 m 33 ls [.int r30]) rfl ?_
      replace hF : F_M_askAll_s3 n ((6 * v1) + v2) v1 r30 st30 = some out := hF
      replace hP : zV (dC, dI) zcl zKm ad (zmE n cI cZ ad) st30 H := hP
      unfold F_M_askAll_s3 at hF
      refine lv_istore S.1 S.2.1 d_M_askAll_33 hl (by decide) rfl (fun ls hl => ?_)
      have hl : lv_has ls 6 [(4, .int r30), (3, .int ((6 * v1) + v2)), (0, .ref (ad (0, 0))), (1, .int v1), (2, .int v2)] := hl
      refine lv_iconst (v := 0) S.1 S.2.1 d_M_askAll_35 (by decide) ?_
      refine lv_istore S.1 S.2.1 d_M_askAll_36 hl (by decide) rfl (fun ls hl => ?_)
      have hl : lv_has ls 6 [(5, .int 0), (4, .int r30), (3, .int ((6 * v1) + v2)), (0, .ref (ad (0, 0))), (1, .int v1), (2, .int v2)] := hl
      exact T_M_askAll_L38 hn hD S hret hlk hK out zFuel v1 ((6 * v1) + v2) r30 0 st30 _ _ _ hP hS (lv_sub hl [3, 4, 2, 1, 0] rfl) hF

