theorem d_M_cut_0 : decode b_M_cut 0 = .ok (.aload_n 0, 1) := by decide +kernel
theorem d_M_cut_1 : decode b_M_cut 1 = .ok (.iload_n 1, 1) := by decide +kernel
theorem d_M_cut_2 : decode b_M_cut 2 = .ok (.iload_n 2, 1) := by decide +kernel
theorem d_M_cut_3 : decode b_M_cut 3 = .ok (.invokevirtual 108, 3) := by decide +kernel
theorem d_M_cut_6 : decode b_M_cut 6 = .ok (.ifCond .ne 5, 3) := by decide +kernel
theorem d_M_cut_9 : decode b_M_cut 9 = .ok (.iconst (-1), 1) := by decide +kernel
theorem d_M_cut_10 : decode b_M_cut 10 = .ok (.ireturn, 1) := by decide +kernel
theorem d_M_cut_11 : decode b_M_cut 11 = .ok (.aload_n 0, 1) := by decide +kernel
theorem d_M_cut_12 : decode b_M_cut 12 = .ok (.getfield 64, 3) := by decide +kernel
theorem d_M_cut_15 : decode b_M_cut 15 = .ok (.bipush 100, 2) := by decide +kernel
theorem d_M_cut_17 : decode b_M_cut 17 = .ok (.if_icmp .le 6, 3) := by decide +kernel
theorem d_M_cut_20 : decode b_M_cut 20 = .ok (.bipush (-2), 2) := by decide +kernel
theorem d_M_cut_22 : decode b_M_cut 22 = .ok (.ireturn, 1) := by decide +kernel
theorem d_M_cut_23 : decode b_M_cut 23 = .ok (.iconst 0, 1) := by decide +kernel
theorem d_M_cut_24 : decode b_M_cut 24 = .ok (.istore_n 3, 1) := by decide +kernel
theorem d_M_cut_25 : decode b_M_cut 25 = .ok (.aload_n 0, 1) := by decide +kernel
theorem d_M_cut_26 : decode b_M_cut 26 = .ok (.getfield 64, 3) := by decide +kernel
theorem d_M_cut_29 : decode b_M_cut 29 = .ok (.iconst 1, 1) := by decide +kernel
theorem d_M_cut_30 : decode b_M_cut 30 = .ok (.isub, 1) := by decide +kernel
theorem d_M_cut_31 : decode b_M_cut 31 = .ok (.istore 4, 2) := by decide +kernel
theorem d_M_cut_33 : decode b_M_cut 33 = .ok (.iload 4, 2) := by decide +kernel
theorem d_M_cut_35 : decode b_M_cut 35 = .ok (.ifCond .lt 62, 3) := by decide +kernel
theorem d_M_cut_38 : decode b_M_cut 38 = .ok (.aload_n 0, 1) := by decide +kernel
theorem d_M_cut_39 : decode b_M_cut 39 = .ok (.getfield 38, 3) := by decide +kernel
theorem d_M_cut_42 : decode b_M_cut 42 = .ok (.iload 4, 2) := by decide +kernel
theorem d_M_cut_44 : decode b_M_cut 44 = .ok (.iaload, 1) := by decide +kernel
theorem d_M_cut_45 : decode b_M_cut 45 = .ok (.iload_n 1, 1) := by decide +kernel
theorem d_M_cut_46 : decode b_M_cut 46 = .ok (.if_icmp .ne 14, 3) := by decide +kernel
theorem d_M_cut_49 : decode b_M_cut 49 = .ok (.aload_n 0, 1) := by decide +kernel
theorem d_M_cut_50 : decode b_M_cut 50 = .ok (.getfield 41, 3) := by decide +kernel
theorem d_M_cut_53 : decode b_M_cut 53 = .ok (.iload 4, 2) := by decide +kernel
theorem d_M_cut_55 : decode b_M_cut 55 = .ok (.iaload, 1) := by decide +kernel
theorem d_M_cut_56 : decode b_M_cut 56 = .ok (.iload_n 2, 1) := by decide +kernel
theorem d_M_cut_57 : decode b_M_cut 57 = .ok (.if_icmp .eq 25, 3) := by decide +kernel
theorem d_M_cut_60 : decode b_M_cut 60 = .ok (.aload_n 0, 1) := by decide +kernel
theorem d_M_cut_61 : decode b_M_cut 61 = .ok (.getfield 38, 3) := by decide +kernel
theorem d_M_cut_64 : decode b_M_cut 64 = .ok (.iload 4, 2) := by decide +kernel
theorem d_M_cut_66 : decode b_M_cut 66 = .ok (.iaload, 1) := by decide +kernel
theorem d_M_cut_67 : decode b_M_cut 67 = .ok (.iload_n 2, 1) := by decide +kernel
theorem d_M_cut_68 : decode b_M_cut 68 = .ok (.if_icmp .ne 23, 3) := by decide +kernel
theorem d_M_cut_71 : decode b_M_cut 71 = .ok (.aload_n 0, 1) := by decide +kernel
theorem d_M_cut_72 : decode b_M_cut 72 = .ok (.getfield 41, 3) := by decide +kernel
theorem d_M_cut_75 : decode b_M_cut 75 = .ok (.iload 4, 2) := by decide +kernel
theorem d_M_cut_77 : decode b_M_cut 77 = .ok (.iaload, 1) := by decide +kernel
theorem d_M_cut_78 : decode b_M_cut 78 = .ok (.iload_n 1, 1) := by decide +kernel
theorem d_M_cut_79 : decode b_M_cut 79 = .ok (.if_icmp .ne 12, 3) := by decide +kernel
theorem d_M_cut_82 : decode b_M_cut 82 = .ok (.aload_n 0, 1) := by decide +kernel
theorem d_M_cut_83 : decode b_M_cut 83 = .ok (.iload 4, 2) := by decide +kernel
theorem d_M_cut_85 : decode b_M_cut 85 = .ok (.invokevirtual 121, 3) := by decide +kernel
theorem d_M_cut_88 : decode b_M_cut 88 = .ok (.iinc 3 1, 3) := by decide +kernel
theorem d_M_cut_91 : decode b_M_cut 91 = .ok (.iinc 4 (-1), 3) := by decide +kernel
theorem d_M_cut_94 : decode b_M_cut 94 = .ok (.goto (-61), 3) := by decide +kernel
theorem d_M_cut_97 : decode b_M_cut 97 = .ok (.aload_n 0, 1) := by decide +kernel
theorem d_M_cut_98 : decode b_M_cut 98 = .ok (.getfield 7, 3) := by decide +kernel
theorem d_M_cut_101 : decode b_M_cut 101 = .ok (.bipush 6, 2) := by decide +kernel
theorem d_M_cut_103 : decode b_M_cut 103 = .ok (.iload_n 1, 1) := by decide +kernel
theorem d_M_cut_104 : decode b_M_cut 104 = .ok (.imul, 1) := by decide +kernel
theorem d_M_cut_105 : decode b_M_cut 105 = .ok (.iload_n 2, 1) := by decide +kernel
theorem d_M_cut_106 : decode b_M_cut 106 = .ok (.iadd, 1) := by decide +kernel
theorem d_M_cut_107 : decode b_M_cut 107 = .ok (.iconst 0, 1) := by decide +kernel
theorem d_M_cut_108 : decode b_M_cut 108 = .ok (.iastore, 1) := by decide +kernel
theorem d_M_cut_109 : decode b_M_cut 109 = .ok (.aload_n 0, 1) := by decide +kernel
theorem d_M_cut_110 : decode b_M_cut 110 = .ok (.getfield 7, 3) := by decide +kernel
theorem d_M_cut_113 : decode b_M_cut 113 = .ok (.bipush 6, 2) := by decide +kernel
theorem d_M_cut_115 : decode b_M_cut 115 = .ok (.iload_n 2, 1) := by decide +kernel
theorem d_M_cut_116 : decode b_M_cut 116 = .ok (.imul, 1) := by decide +kernel
theorem d_M_cut_117 : decode b_M_cut 117 = .ok (.iload_n 1, 1) := by decide +kernel
theorem d_M_cut_118 : decode b_M_cut 118 = .ok (.iadd, 1) := by decide +kernel
theorem d_M_cut_119 : decode b_M_cut 119 = .ok (.iconst 0, 1) := by decide +kernel
theorem d_M_cut_120 : decode b_M_cut 120 = .ok (.iastore, 1) := by decide +kernel
theorem d_M_cut_121 : decode b_M_cut 121 = .ok (.aload_n 0, 1) := by decide +kernel
theorem d_M_cut_122 : decode b_M_cut 122 = .ok (.iload_n 1, 1) := by decide +kernel
theorem d_M_cut_123 : decode b_M_cut 123 = .ok (.iload_n 2, 1) := by decide +kernel
theorem d_M_cut_124 : decode b_M_cut 124 = .ok (.if_icmp .ge 7, 3) := by decide +kernel
theorem d_M_cut_127 : decode b_M_cut 127 = .ok (.iload_n 1, 1) := by decide +kernel
theorem d_M_cut_128 : decode b_M_cut 128 = .ok (.goto 4, 3) := by decide +kernel
theorem d_M_cut_131 : decode b_M_cut 131 = .ok (.iload_n 2, 1) := by decide +kernel
theorem d_M_cut_132 : decode b_M_cut 132 = .ok (.iload_n 1, 1) := by decide +kernel
theorem d_M_cut_133 : decode b_M_cut 133 = .ok (.iload_n 2, 1) := by decide +kernel
theorem d_M_cut_134 : decode b_M_cut 134 = .ok (.if_icmp .ge 7, 3) := by decide +kernel
theorem d_M_cut_137 : decode b_M_cut 137 = .ok (.iload_n 2, 1) := by decide +kernel
theorem d_M_cut_138 : decode b_M_cut 138 = .ok (.goto 4, 3) := by decide +kernel
theorem d_M_cut_141 : decode b_M_cut 141 = .ok (.iload_n 1, 1) := by decide +kernel
theorem d_M_cut_142 : decode b_M_cut 142 = .ok (.invokevirtual 125, 3) := by decide +kernel
theorem d_M_cut_145 : decode b_M_cut 145 = .ok (.aload_n 0, 1) := by decide +kernel
theorem d_M_cut_146 : decode b_M_cut 146 = .ok (.iload_n 1, 1) := by decide +kernel
theorem d_M_cut_147 : decode b_M_cut 147 = .ok (.iload_n 2, 1) := by decide +kernel
theorem d_M_cut_148 : decode b_M_cut 148 = .ok (.if_icmp .ge 7, 3) := by decide +kernel
theorem d_M_cut_151 : decode b_M_cut 151 = .ok (.iload_n 2, 1) := by decide +kernel
theorem d_M_cut_152 : decode b_M_cut 152 = .ok (.goto 4, 3) := by decide +kernel
theorem d_M_cut_155 : decode b_M_cut 155 = .ok (.iload_n 1, 1) := by decide +kernel
theorem d_M_cut_156 : decode b_M_cut 156 = .ok (.iload_n 1, 1) := by decide +kernel
theorem d_M_cut_157 : decode b_M_cut 157 = .ok (.iload_n 2, 1) := by decide +kernel
theorem d_M_cut_158 : decode b_M_cut 158 = .ok (.if_icmp .ge 7, 3) := by decide +kernel
theorem d_M_cut_161 : decode b_M_cut 161 = .ok (.iload_n 1, 1) := by decide +kernel
theorem d_M_cut_162 : decode b_M_cut 162 = .ok (.goto 4, 3) := by decide +kernel
theorem d_M_cut_165 : decode b_M_cut 165 = .ok (.iload_n 2, 1) := by decide +kernel
theorem d_M_cut_166 : decode b_M_cut 166 = .ok (.invokevirtual 125, 3) := by decide +kernel
theorem d_M_cut_169 : decode b_M_cut 169 = .ok (.iload_n 3, 1) := by decide +kernel
theorem d_M_cut_170 : decode b_M_cut 170 = .ok (.ireturn, 1) := by decide +kernel
def F_M_cut_L91 (n : Nat) (c33 : Int32 → Int32 → Int32 → Int32 → zS → Option (Int32 × zS)) (v1 : Int32) (v2 : Int32) (v3 : Int32) (v4 : Int32) (st : zS) : Option (Int32 × zS) :=
    c33 v1 v2 v3 (v4 + (-1)) st

def F_M_cut_L82_s1 (n : Nat) (c33 : Int32 → Int32 → Int32 → Int32 → zS → Option (Int32 × zS)) (v1 : Int32) (v2 : Int32) (v3 : Int32) (v4 : Int32) (st : zS) : Option (Int32 × zS) :=
    F_M_cut_L91 n c33 v1 v2 (v3 + 1) v4 st

def F_M_cut_L82 (n : Nat) (c33 : Int32 → Int32 → Int32 → Int32 → zS → Option (Int32 × zS)) (v1 : Int32) (v2 : Int32) (v3 : Int32) (v4 : Int32) (st : zS) : Option (Int32 × zS) :=
    (F_M_takeOut n v4 st).bind (fun u => F_M_cut_L82_s1 n c33 v1 v2 v3 v4 u.2)

def F_M_cut_L60 (n : Nat) (c33 : Int32 → Int32 → Int32 → Int32 → zS → Option (Int32 × zS)) (v1 : Int32) (v2 : Int32) (v3 : Int32) (v4 : Int32) (st : zS) : Option (Int32 × zS) :=
    if zOut v4 1024 then none else if (st 10 0 (Int32.toNatClampNeg v4)) = v2 then (if zOut v4 1024 then none else if (st 11 0 (Int32.toNatClampNeg v4)) = v1 then (F_M_cut_L82 n c33 v1 v2 v3 v4 st) else (F_M_cut_L91 n c33 v1 v2 v3 v4 st)) else (F_M_cut_L91 n c33 v1 v2 v3 v4 st)

def F_M_cut_L166_s1 (n : Nat) (v3 : Int32) (st : zS) : Option (Int32 × zS) :=
    some (v3, st)

def F_M_cut_L166 (n : Nat) (v3 : Int32) (t1 : Int32) (t2 : Int32) (st : zS) : Option (Int32 × zS) :=
    (F_M_lose n t1 t2 st).bind (fun u => F_M_cut_L166_s1 n v3 u.2)

def F_M_cut_L156 (n : Nat) (v1 : Int32) (v2 : Int32) (v3 : Int32) (t1 : Int32) (st : zS) : Option (Int32 × zS) :=
    if v2 ≤ v1 then (F_M_cut_L166 n v3 t1 v2 st) else (F_M_cut_L166 n v3 t1 v1 st)

def F_M_cut_L142_s1 (n : Nat) (v1 : Int32) (v2 : Int32) (v3 : Int32) (st : zS) : Option (Int32 × zS) :=
    if v2 ≤ v1 then (F_M_cut_L156 n v1 v2 v3 v1 st) else (F_M_cut_L156 n v1 v2 v3 v2 st)

def F_M_cut_L142 (n : Nat) (v1 : Int32) (v2 : Int32) (v3 : Int32) (t1 : Int32) (t2 : Int32) (st : zS) : Option (Int32 × zS) :=
    (F_M_lose n t1 t2 st).bind (fun u => F_M_cut_L142_s1 n v1 v2 v3 u.2)

def F_M_cut_L132 (n : Nat) (v1 : Int32) (v2 : Int32) (v3 : Int32) (t1 : Int32) (st : zS) : Option (Int32 × zS) :=
    if v2 ≤ v1 then (F_M_cut_L142 n v1 v2 v3 t1 v1 st) else (F_M_cut_L142 n v1 v2 v3 t1 v2 st)

def F_M_cut_L33_s2 (n : Nat) (c33 : Int32 → Int32 → Int32 → Int32 → zS → Option (Int32 × zS)) (v1 : Int32) (v2 : Int32) (v3 : Int32) (st : zS) : Option (Int32 × zS) :=
    if v2 ≤ v1 then (F_M_cut_L132 n v1 v2 v3 v2 st) else (F_M_cut_L132 n v1 v2 v3 v1 st)

def F_M_cut_L33_s1 (n : Nat) (c33 : Int32 → Int32 → Int32 → Int32 → zS → Option (Int32 × zS)) (v1 : Int32) (v2 : Int32) (v3 : Int32) (st : zS) : Option (Int32 × zS) :=
    if zOut ((6 * v2) + v1) 36 then none else F_M_cut_L33_s2 n c33 v1 v2 v3 (zs st 1 0 (Int32.toNatClampNeg ((6 * v2) + v1)) 0)

def F_M_cut_L33 (n : Nat) : Nat → Int32 → Int32 → Int32 → Int32 → zS → Option (Int32 × zS)
  | 0, _, _, _, _, _ => none
  | f + 1, v1, v2, v3, v4, st =>
    if v4 < 0 then (if zOut ((6 * v1) + v2) 36 then none else F_M_cut_L33_s1 n (F_M_cut_L33 n f) v1 v2 v3 (zs st 1 0 (Int32.toNatClampNeg ((6 * v1) + v2)) 0)) else (if zOut v4 1024 then none else if (st 10 0 (Int32.toNatClampNeg v4)) = v1 then (if zOut v4 1024 then none else if (st 11 0 (Int32.toNatClampNeg v4)) = v2 then (F_M_cut_L82 n (F_M_cut_L33 n f) v1 v2 v3 v4 st) else (F_M_cut_L60 n (F_M_cut_L33 n f) v1 v2 v3 v4 st)) else (F_M_cut_L60 n (F_M_cut_L33 n f) v1 v2 v3 v4 st))

def F_M_cut_s1 (n : Nat) (v1 : Int32) (v2 : Int32) (t0 : Int32) (st : zS) : Option (Int32 × zS) :=
    if t0 = 0 then (some ((-1), st)) else (if (st 0 0 0) ≤ 100 then (F_M_cut_L33 n zFuel v1 v2 0 ((st 0 0 0) - 1) st) else (some ((-2), st)))

def F_M_cut (n : Nat) (v1 : Int32) (v2 : Int32) (st : zS) : Option (Int32 × zS) :=
    (F_M_isLink n v1 v2 st).bind (fun u => F_M_cut_s1 n v1 v2 u.1 u.2)

set_option maxHeartbeats 4000000 in
set_option maxRecDepth 1000000 in
theorem T_M_cut_L91 {dC : Nat → ClassId} {dI : Nat → Nat → Nat} {cI cZ cR cA : ClassId} {n : Nat} {ad : zK → Nat} {A : Nat → Prop} (hn : 2 ≤ n ∧ n ≤ 6) (hD : zD A zKm ad) {p : Program} {l : Launch} {e : Env} {s : State} {m : MethodId} {args : Array Value} {below : List Frame} {meth : Method} {c : Code} (S : CallFix p m c b_M_cut 5 s args zT N_M) (hret : meth.sig.returnType = some .int) (hlk : meth.locks = false) (hK : va_K (dC, dI) zcl (zty cI cZ cR cA) s) (out : Int32 × zS) (c33 : Int32 → Int32 → Int32 → Int32 → zS → Option (Int32 × zS)) (hc33 : ∀ (v1 : Int32) (v2 : Int32) (v3 : Int32) (v4 : Int32) (st : zS) (H : Heap) (locs : List Loc) (ls : Array Slot), zV (dC, dI) zcl zKm ad (zmE n cI cZ ad) st H → va_S A s.heap H locs → lv_has ls 5 [(0, .ref (ad (0, 0))), (1, .int v1), (2, .int v2), (3, .int v3), (4, .int v4)] → c33 v1 v2 v3 v4 st = some out → W p l e rm_M_cut s m args below meth c H locs 0 0 (zQ below A (fun o H => o = some (.int out.1) ∧ zV (dC, dI) zcl zKm ad (zmE n cI cZ ad) out.2 H) args s) (F0 m 33 ls [])) (v1 : Int32) (v2 : Int32) (v3 : Int32) (v4 : Int32) (st : zS) (H : Heap) (locs : List Loc) (ls : Array Slot) (hP : zV (dC, dI) zcl zKm ad (zmE n cI cZ ad) st H) (hS : va_S A s.heap H locs) (hl : lv_has ls 5 [(0, .ref (ad (0, 0))), (1, .int v1), (2, .int v2), (3, .int v3), (4, .int v4)]) (hF : F_M_cut_L91 n c33 v1 v2 v3 v4 st = some out) : W p l e rm_M_cut s m args below meth c H locs 0 0 (zQ below A (fun o H => o = some (.int out.1) ∧ zV (dC, dI) zcl zKm ad (zmE n cI cZ ad) out.2 H) args s) (F0 m 91 ls []) := by
  unfold F_M_cut_L91 at hF
  refine lv_iinc (k := 4) (v := v4 + (-1)) S.1 S.2.1 d_M_cut_91 hl rfl rfl (by decide) rfl (fun ls hl => ?_)
  have hl : lv_has ls 5 [(4, .int (v4 + (-1))), (0, .ref (ad (0, 0))), (1, .int v1), (2, .int v2), (3, .int v3)] := hl
  refine lv_goto (tgt := 33) S.1 S.2.1 d_M_cut_94 (by decide) ?_
  exact hc33 v1 v2 v3 (v4 + (-1)) st _ _ _ hP hS (lv_sub hl [1, 2, 3, 4, 0] rfl) hF

set_option maxHeartbeats 4000000 in
set_option maxRecDepth 1000000 in
theorem T_M_cut_L82 {dC : Nat → ClassId} {dI : Nat → Nat → Nat} {cI cZ cR cA : ClassId} {n : Nat} {ad : zK → Nat} {A : Nat → Prop} (hn : 2 ≤ n ∧ n ≤ 6) (hD : zD A zKm ad) {p : Program} {l : Launch} {e : Env} {s : State} {m : MethodId} {args : Array Value} {below : List Frame} {meth : Method} {c : Code} (S : CallFix p m c b_M_cut 5 s args zT N_M) (hret : meth.sig.returnType = some .int) (hlk : meth.locks = false) (hK : va_K (dC, dI) zcl (zty cI cZ cR cA) s) (out : Int32 × zS) (c33 : Int32 → Int32 → Int32 → Int32 → zS → Option (Int32 × zS)) (hc33 : ∀ (v1 : Int32) (v2 : Int32) (v3 : Int32) (v4 : Int32) (st : zS) (H : Heap) (locs : List Loc) (ls : Array Slot), zV (dC, dI) zcl zKm ad (zmE n cI cZ ad) st H → va_S A s.heap H locs → lv_has ls 5 [(0, .ref (ad (0, 0))), (1, .int v1), (2, .int v2), (3, .int v3), (4, .int v4)] → c33 v1 v2 v3 v4 st = some out → W p l e rm_M_cut s m args below meth c H locs 0 0 (zQ below A (fun o H => o = some (.int out.1) ∧ zV (dC, dI) zcl zKm ad (zmE n cI cZ ad) out.2 H) args s) (F0 m 33 ls [])) (v1 : Int32) (v2 : Int32) (v3 : Int32) (v4 : Int32) (st : zS) (H : Heap) (locs : List Loc) (ls : Array Slot) (hP : zV (dC, dI) zcl zKm ad (zmE n cI cZ ad) st H) (hS : va_S A s.heap H locs) (hl : lv_has ls 5 [(0, .ref (ad (0, 0))), (1, .int v1), (2, .int v2), (3, .int v3), (4, .int v4)]) (hF : F_M_cut_L82 n c33 v1 v2 v3 v4 st = some out) : W p l e rm_M_cut s m args below meth c H locs 0 0 (zQ below A (fun o H => o = some (.int out.1) ∧ zV (dC, dI) zcl zKm ad (zmE n cI cZ ad) out.2 H) args s) (F0 m 82 ls []) := by
  unfold F_M_cut_L82 at hF
  refine lv_aload_n S.1 S.2.1 d_M_cut_82 rfl (lv_at hl 0 rfl) ?_
  refine lv_iload S.1 S.2.1 d_M_cut_83 (lv_at hl 4 rfl) ?_
  cases hc85 : F_M_takeOut n v4 st with
  | none => rw [hc85] at hF; cases hF
  | some u85 =>
    obtain ⟨r85, st85⟩ := u85
    rw [hc85] at hF
    replace hF := zbind hF
    refine zr_callV (rest := []) S zT_good (C_M_takeOut hn hD l v4 st (r85, st85) hc85) zn_M_takeOut zx_101 ⟨rfl, rfl⟩ ⟨Nat.le_of_ble_eq_true rfl, Nat.le_of_ble_eq_true rfl⟩ ⟨Nat.zero_le _, Nat.zero_le _⟩ hK (zr_recv hK hP zkm_0 rfl rfl) hP hl.1 (Nat.le_of_ble_eq_true rfl) hS (fun _ h => h) d_M_cut_85 rfl (fun o H locs hpo _ _ hS => ?_)
    obtain ⟨rfl, hP⟩ := hpo
    refine W.eq (g2 := F0 m 88 ls []) rfl ?_
    replace hF : F_M_cut_L82_s1 n c33 v1 v2 v3 v4 st85 = some out := hF
    replace hP : zV (dC, dI) zcl zKm ad (zmE n cI cZ ad) st85 H := hP
    unfold F_M_cut_L82_s1 at hF
    refine lv_iinc (k := 3) (v := v3 + 1) S.1 S.2.1 d_M_cut_88 hl rfl rfl (by decide) rfl (fun ls hl => ?_)
    have hl : lv_has ls 5 [(3, .int (v3 + 1)), (0, .ref (ad (0, 0))), (1, .int v1), (2, .int v2), (4, .int v4)] := hl
    exact T_M_cut_L91 hn hD S hret hlk hK out c33 hc33 v1 v2 (v3 + 1) v4 st85 _ _ _ hP hS (lv_sub hl [1, 2, 3, 0, 4] rfl) hF

set_option maxHeartbeats 4000000 in
set_option maxRecDepth 1000000 in
theorem T_M_cut_L60 {dC : Nat → ClassId} {dI : Nat → Nat → Nat} {cI cZ cR cA : ClassId} {n : Nat} {ad : zK → Nat} {A : Nat → Prop} (hn : 2 ≤ n ∧ n ≤ 6) (hD : zD A zKm ad) {p : Program} {l : Launch} {e : Env} {s : State} {m : MethodId} {args : Array Value} {below : List Frame} {meth : Method} {c : Code} (S : CallFix p m c b_M_cut 5 s args zT N_M) (hret : meth.sig.returnType = some .int) (hlk : meth.locks = false) (hK : va_K (dC, dI) zcl (zty cI cZ cR cA) s) (out : Int32 × zS) (c33 : Int32 → Int32 → Int32 → Int32 → zS → Option (Int32 × zS)) (hc33 : ∀ (v1 : Int32) (v2 : Int32) (v3 : Int32) (v4 : Int32) (st : zS) (H : Heap) (locs : List Loc) (ls : Array Slot), zV (dC, dI) zcl zKm ad (zmE n cI cZ ad) st H → va_S A s.heap H locs → lv_has ls 5 [(0, .ref (ad (0, 0))), (1, .int v1), (2, .int v2), (3, .int v3), (4, .int v4)] → c33 v1 v2 v3 v4 st = some out → W p l e rm_M_cut s m args below meth c H locs 0 0 (zQ below A (fun o H => o = some (.int out.1) ∧ zV (dC, dI) zcl zKm ad (zmE n cI cZ ad) out.2 H) args s) (F0 m 33 ls [])) (v1 : Int32) (v2 : Int32) (v3 : Int32) (v4 : Int32) (st : zS) (H : Heap) (locs : List Loc) (ls : Array Slot) (hP : zV (dC, dI) zcl zKm ad (zmE n cI cZ ad) st H) (hS : va_S A s.heap H locs) (hl : lv_has ls 5 [(0, .ref (ad (0, 0))), (1, .int v1), (2, .int v2), (3, .int v3), (4, .int v4)]) (hF : F_M_cut_L60 n c33 v1 v2 v3 v4 st = some out) : W p l e rm_M_cut s m args below meth c H locs 0 0 (zQ below A (fun o H => o = some (.int out.1) ∧ zV (dC, dI) zcl zKm ad (zmE n cI cZ ad) out.2 H) args s) (F0 m 60 ls []) := by
  unfold F_M_cut_L60 at hF
  refine lv_aload_n S.1 S.2.1 d_M_cut_60 rfl (lv_at hl 0 rfl) ?_
  refine zr_get (v := .ref (ad (10, 0))) S zi_M hK hP zkm_0 rfl rfl 11 (by decide) zx_33 rfl d_M_cut_61 ?_
  refine lv_iload S.1 S.2.1 d_M_cut_64 (lv_at hl 4 rfl) ?_
  by_cases g66 : zOut v4 1024
  · rw [if_pos g66] at hF; cases hF
  rw [if_neg g66] at hF
  refine zr_iald S hK hP zkm_10 rfl 0 rfl g66 d_M_cut_66 ?_
  refine lv_iload_n S.1 S.2.1 d_M_cut_67 rfl (lv_at hl 2 rfl) ?_
  refine lv_icmp_ne (tgt := 91) S.1 S.2.1 d_M_cut_68 (by decide) (fun h68 => ?_) (fun h68 => ?_)
  · rw [if_neg h68] at hF
    exact T_M_cut_L91 hn hD S hret hlk hK out c33 hc33 v1 v2 v3 v4 st _ _ _ hP hS (lv_sub hl [0, 1, 2, 3, 4] rfl) hF
  · rw [if_pos h68] at hF
    refine lv_aload_n S.1 S.2.1 d_M_cut_71 rfl (lv_at hl 0 rfl) ?_
    refine zr_get (v := .ref (ad (11, 0))) S zi_M hK hP zkm_0 rfl rfl 12 (by decide) zx_34 rfl d_M_cut_72 ?_
    refine lv_iload S.1 S.2.1 d_M_cut_75 (lv_at hl 4 rfl) ?_
    by_cases g77 : zOut v4 1024
    · rw [if_pos g77] at hF; cases hF
    rw [if_neg g77] at hF
    refine zr_iald S hK hP zkm_11 rfl 0 rfl g77 d_M_cut_77 ?_
    refine lv_iload_n S.1 S.2.1 d_M_cut_78 rfl (lv_at hl 1 rfl) ?_
    refine lv_icmp_ne (tgt := 91) S.1 S.2.1 d_M_cut_79 (by decide) (fun h79 => ?_) (fun h79 => ?_)
    · rw [if_neg h79] at hF
      exact T_M_cut_L91 hn hD S hret hlk hK out c33 hc33 v1 v2 v3 v4 st _ _ _ hP hS (lv_sub hl [0, 1, 2, 3, 4] rfl) hF
    · rw [if_pos h79] at hF
      exact T_M_cut_L82 hn hD S hret hlk hK out c33 hc33 v1 v2 v3 v4 st _ _ _ hP hS (lv_sub hl [0, 1, 2, 3, 4] rfl) hF

set_option maxHeartbeats 4000000 in
set_option maxRecDepth 1000000 in
theorem T_M_cut_L166 {dC : Nat → ClassId} {dI : Nat → Nat → Nat} {cI cZ cR cA : ClassId} {n : Nat} {ad : zK → Nat} {A : Nat → Prop} (hn : 2 ≤ n ∧ n ≤ 6) (hD : zD A zKm ad) {p : Program} {l : Launch} {e : Env} {s : State} {m : MethodId} {args : Array Value} {below : List Frame} {meth : Method} {c : Code} (S : CallFix p m c b_M_cut 5 s args zT N_M) (hret : meth.sig.returnType = some .int) (hlk : meth.locks = false) (hK : va_K (dC, dI) zcl (zty cI cZ cR cA) s) (out : Int32 × zS) (v3 : Int32) (t1 : Int32) (t2 : Int32) (st : zS) (H : Heap) (locs : List Loc) (ls : Array Slot) (hP : zV (dC, dI) zcl zKm ad (zmE n cI cZ ad) st H) (hS : va_S A s.heap H locs) (hl : lv_has ls 5 [(3, .int v3)]) (hF : F_M_cut_L166 n v3 t1 t2 st = some out) : W p l e rm_M_cut s m args below meth c H locs 0 0 (zQ below A (fun o H => o = some (.int out.1) ∧ zV (dC, dI) zcl zKm ad (zmE n cI cZ ad) out.2 H) args s) (F0 m 166 ls [.int t2, .int t1, .ref (ad (0, 0))]) := by
  unfold F_M_cut_L166 at hF
  cases hc166 : F_M_lose n t1 t2 st with
  | none => rw [hc166] at hF; cases hF
  | some u166 =>
    obtain ⟨r166, st166⟩ := u166
    rw [hc166] at hF
    replace hF := zbind hF
    refine zr_callV (rest := []) S zT_good (C_M_lose hn hD l t1 t2 st (r166, st166) hc166) zn_M_lose zx_102 ⟨rfl, rfl⟩ ⟨Nat.le_of_ble_eq_true rfl, Nat.le_of_ble_eq_true rfl⟩ ⟨Nat.zero_le _, Nat.zero_le _⟩ hK (zr_recv hK hP zkm_0 rfl rfl) hP hl.1 (Nat.le_of_ble_eq_true rfl) hS (fun _ h => h) d_M_cut_166 rfl (fun o H locs hpo _ _ hS => ?_)
    obtain ⟨rfl, hP⟩ := hpo
    refine W.eq (g2 := F0 m 169 ls []) rfl ?_
    replace hF : F_M_cut_L166_s1 n v3 st166 = some out := hF
    replace hP : zV (dC, dI) zcl zKm ad (zmE n cI cZ ad) st166 H := hP
    unfold F_M_cut_L166_s1 at hF
    refine lv_iload_n S.1 S.2.1 d_M_cut_169 rfl (lv_at hl 0 rfl) ?_
    cases hF
    exact zr_iret S hret hlk hS d_M_cut_170 ⟨rfl, hP⟩

set_option maxHeartbeats 4000000 in
set_option maxRecDepth 1000000 in
theorem T_M_cut_L156 {dC : Nat → ClassId} {dI : Nat → Nat → Nat} {cI cZ cR cA : ClassId} {n : Nat} {ad : zK → Nat} {A : Nat → Prop} (hn : 2 ≤ n ∧ n ≤ 6) (hD : zD A zKm ad) {p : Program} {l : Launch} {e : Env} {s : State} {m : MethodId} {args : Array Value} {below : List Frame} {meth : Method} {c : Code} (S : CallFix p m c b_M_cut 5 s args zT N_M) (hret : meth.sig.returnType = some .int) (hlk : meth.locks = false) (hK : va_K (dC, dI) zcl (zty cI cZ cR cA) s) (out : Int32 × zS) (v1 : Int32) (v2 : Int32) (v3 : Int32) (t1 : Int32) (st : zS) (H : Heap) (locs : List Loc) (ls : Array Slot) (hP : zV (dC, dI) zcl zKm ad (zmE n cI cZ ad) st H) (hS : va_S A s.heap H locs) (hl : lv_has ls 5 [(1, .int v1), (2, .int v2), (3, .int v3)]) (hF : F_M_cut_L156 n v1 v2 v3 t1 st = some out) : W p l e rm_M_cut s m args below meth c H locs 0 0 (zQ below A (fun o H => o = some (.int out.1) ∧ zV (dC, dI) zcl zKm ad (zmE n cI cZ ad) out.2 H) args s) (F0 m 156 ls [.int t1, .ref (ad (0, 0))]) := by
  unfold F_M_cut_L156 at hF
  refine lv_iload_n S.1 S.2.1 d_M_cut_156 rfl (lv_at hl 0 rfl) ?_
  refine lv_iload_n S.1 S.2.1 d_M_cut_157 rfl (lv_at hl 1 rfl) ?_
  refine lv_icmp_ge (tgt := 165) S.1 S.2.1 d_M_cut_158 (by decide) (fun h158 => ?_) (fun h158 => ?_)
  · rw [if_pos h158] at hF
    refine lv_iload_n S.1 S.2.1 d_M_cut_165 rfl (lv_at hl 1 rfl) ?_
    exact T_M_cut_L166 hn hD S hret hlk hK out v3 t1 v2 st _ _ _ hP hS (lv_sub hl [2] rfl) hF
  · rw [if_neg h158] at hF
    refine lv_iload_n S.1 S.2.1 d_M_cut_161 rfl (lv_at hl 0 rfl) ?_
    refine lv_goto (tgt := 166) S.1 S.2.1 d_M_cut_162 (by decide) ?_
    exact T_M_cut_L166 hn hD S hret hlk hK out v3 t1 v1 st _ _ _ hP hS (lv_sub hl [2] rfl) hF

set_option maxHeartbeats 4000000 in
set_option maxRecDepth 1000000 in
theorem T_M_cut_L142 {dC : Nat → ClassId} {dI : Nat → Nat → Nat} {cI cZ cR cA : ClassId} {n : Nat} {ad : zK → Nat} {A : Nat → Prop} (hn : 2 ≤ n ∧ n ≤ 6) (hD : zD A zKm ad) {p : Program} {l : Launch} {e : Env} {s : State} {m : MethodId} {args : Array Value} {below : List Frame} {meth : Method} {c : Code} (S : CallFix p m c b_M_cut 5 s args zT N_M) (hret : meth.sig.returnType = some .int) (hlk : meth.locks = false) (hK : va_K (dC, dI) zcl (zty cI cZ cR cA) s) (out : Int32 × zS) (v1 : Int32) (v2 : Int32) (v3 : Int32) (t1 : Int32) (t2 : Int32) (st : zS) (H : Heap) (locs : List Loc) (ls : Array Slot) (hP : zV (dC, dI) zcl zKm ad (zmE n cI cZ ad) st H) (hS : va_S A s.heap H locs) (hl : lv_has ls 5 [(0, .ref (ad (0, 0))), (1, .int v1), (2, .int v2), (3, .int v3)]) (hF : F_M_cut_L142 n v1 v2 v3 t1 t2 st = some out) : W p l e rm_M_cut s m args below meth c H locs 0 0 (zQ below A (fun o H => o = some (.int out.1) ∧ zV (dC, dI) zcl zKm ad (zmE n cI cZ ad) out.2 H) args s) (F0 m 142 ls [.int t2, .int t1, .ref (ad (0, 0))]) := by
  unfold F_M_cut_L142 at hF
  cases hc142 : F_M_lose n t1 t2 st with
  | none => rw [hc142] at hF; cases hF
  | some u142 =>
    obtain ⟨r142, st142⟩ := u142
    rw [hc142] at hF
    replace hF := zbind hF
    refine zr_callV (rest := []) S zT_good (C_M_lose hn hD l t1 t2 st (r142, st142) hc142) zn_M_lose zx_102 ⟨rfl, rfl⟩ ⟨Nat.le_of_ble_eq_true rfl, Nat.le_of_ble_eq_true rfl⟩ ⟨Nat.zero_le _, Nat.zero_le _⟩ hK (zr_recv hK hP zkm_0 rfl rfl) hP hl.1 (Nat.le_of_ble_eq_true rfl) hS (fun _ h => h) d_M_cut_142 rfl (fun o H locs hpo _ _ hS => ?_)
    obtain ⟨rfl, hP⟩ := hpo
    refine W.eq (g2 := F0 m 145 ls []) rfl ?_
    replace hF : F_M_cut_L142_s1 n v1 v2 v3 st142 = some out := hF
    replace hP : zV (dC, dI) zcl zKm ad (zmE n cI cZ ad) st142 H := hP
    unfold F_M_cut_L142_s1 at hF
    refine lv_aload_n S.1 S.2.1 d_M_cut_145 rfl (lv_at hl 0 rfl) ?_
    refine lv_iload_n S.1 S.2.1 d_M_cut_146 rfl (lv_at hl 1 rfl) ?_
    refine lv_iload_n S.1 S.2.1 d_M_cut_147 rfl (lv_at hl 2 rfl) ?_
    refine lv_icmp_ge (tgt := 155) S.1 S.2.1 d_M_cut_148 (by decide) (fun h148 => ?_) (fun h148 => ?_)
    · rw [if_pos h148] at hF
      refine lv_iload_n S.1 S.2.1 d_M_cut_155 rfl (lv_at hl 1 rfl) ?_
      exact T_M_cut_L156 hn hD S hret hlk hK out v1 v2 v3 v1 st142 _ _ _ hP hS (lv_sub hl [1, 2, 3] rfl) hF
    · rw [if_neg h148] at hF
      refine lv_iload_n S.1 S.2.1 d_M_cut_151 rfl (lv_at hl 2 rfl) ?_
      refine lv_goto (tgt := 156) S.1 S.2.1 d_M_cut_152 (by decide) ?_
      exact T_M_cut_L156 hn hD S hret hlk hK out v1 v2 v3 v2 st142 _ _ _ hP hS (lv_sub hl [1, 2, 3] rfl) hF

set_option maxHeartbeats 4000000 in
set_option maxRecDepth 1000000 in
theorem T_M_cut_L132 {dC : Nat → ClassId} {dI : Nat → Nat → Nat} {cI cZ cR cA : ClassId} {n : Nat} {ad : zK → Nat} {A : Nat → Prop} (hn : 2 ≤ n ∧ n ≤ 6) (hD : zD A zKm ad) {p : Program} {l : Launch} {e : Env} {s : State} {m : MethodId} {args : Array Value} {below : List Frame} {meth : Method} {c : Code} (S : CallFix p m c b_M_cut 5 s args zT N_M) (hret : meth.sig.returnType = some .int) (hlk : meth.locks = false) (hK : va_K (dC, dI) zcl (zty cI cZ cR cA) s) (out : Int32 × zS) (v1 : Int32) (v2 : Int32) (v3 : Int32) (t1 : Int32) (st : zS) (H : Heap) (locs : List Loc) (ls : Array Slot) (hP : zV (dC, dI) zcl zKm ad (zmE n cI cZ ad) st H) (hS : va_S A s.heap H locs) (hl : lv_has ls 5 [(0, .ref (ad (0, 0))), (1, .int v1), (2, .int v2), (3, .int v3)]) (hF : F_M_cut_L132 n v1 v2 v3 t1 st = some out) : W p l e rm_M_cut s m args below meth c H locs 0 0 (zQ below A (fun o H => o = some (.int out.1) ∧ zV (dC, dI) zcl zKm ad (zmE n cI cZ ad) out.2 H) args s) (F0 m 132 ls [.int t1, .ref (ad (0, 0))]) := by
  unfold F_M_cut_L132 at hF
  refine lv_iload_n S.1 S.2.1 d_M_cut_132 rfl (lv_at hl 1 rfl) ?_
  refine lv_iload_n S.1 S.2.1 d_M_cut_133 rfl (lv_at hl 2 rfl) ?_
  refine lv_icmp_ge (tgt := 141) S.1 S.2.1 d_M_cut_134 (by decide) (fun h134 => ?_) (fun h134 => ?_)
  · rw [if_pos h134] at hF
    refine lv_iload_n S.1 S.2.1 d_M_cut_141 rfl (lv_at hl 1 rfl) ?_
    exact T_M_cut_L142 hn hD S hret hlk hK out v1 v2 v3 t1 v1 st _ _ _ hP hS (lv_sub hl [0, 1, 2, 3] rfl) hF
  · rw [if_neg h134] at hF
    refine lv_iload_n S.1 S.2.1 d_M_cut_137 rfl (lv_at hl 2 rfl) ?_
    refine lv_goto (tgt := 142) S.1 S.2.1 d_M_cut_138 (by decide) ?_
    exact T_M_cut_L142 hn hD S hret hlk hK out v1 v2 v3 t1 v2 st _ _ _ hP hS (lv_sub hl [0, 1, 2, 3] rfl) hF

set_option maxHeartbeats 4000000 in
set_option maxRecDepth 1000000 in
theorem T_M_cut_L33 {dC : Nat → ClassId} {dI : Nat → Nat → Nat} {cI cZ cR cA : ClassId} {n : Nat} {ad : zK → Nat} {A : Nat → Prop} (hn : 2 ≤ n ∧ n ≤ 6) (hD : zD A zKm ad) {p : Program} {l : Launch} {e : Env} {s : State} {m : MethodId} {args : Array Value} {below : List Frame} {meth : Method} {c : Code} (S : CallFix p m c b_M_cut 5 s args zT N_M) (hret : meth.sig.returnType = some .int) (hlk : meth.locks = false) (hK : va_K (dC, dI) zcl (zty cI cZ cR cA) s) (out : Int32 × zS) : ∀ (fu : Nat) (v1 : Int32) (v2 : Int32) (v3 : Int32) (v4 : Int32) (st : zS) (H : Heap) (locs : List Loc) (ls : Array Slot) (hP : zV (dC, dI) zcl zKm ad (zmE n cI cZ ad) st H) (hS : va_S A s.heap H locs) (hl : lv_has ls 5 [(0, .ref (ad (0, 0))), (1, .int v1), (2, .int v2), (3, .int v3), (4, .int v4)]) (hF : F_M_cut_L33 n fu v1 v2 v3 v4 st = some out), W p l e rm_M_cut s m args below meth c H locs 0 0 (zQ below A (fun o H => o = some (.int out.1) ∧ zV (dC, dI) zcl zKm ad (zmE n cI cZ ad) out.2 H) args s) (F0 m 33 ls []) := by
  intro fu
  induction fu with
  | zero => intro v1 v2 v3 v4 st H locs ls hP hS hl hF; rw [F_M_cut_L33] at hF; cases hF
  | succ f ih =>
    intro v1 v2 v3 v4 st H locs ls hP hS hl hF
    rw [F_M_cut_L33] at hF
    refine lv_iload S.1 S.2.1 d_M_cut_33 (lv_at hl 4 rfl) ?_
    refine lv_if_lt (tgt := 97) S.1 S.2.1 d_M_cut_35 (by decide) (fun h35 => ?_) (fun h35 => ?_)
    · rw [if_pos h35] at hF
      refine lv_aload_n S.1 S.2.1 d_M_cut_97 rfl (lv_at hl 0 rfl) ?_
      refine zr_get (v := .ref (ad (1, 0))) S zi_M hK hP zkm_0 rfl rfl 1 (by decide) zx_41 rfl d_M_cut_98 ?_
      refine lv_bipush (v := 6) S.1 S.2.1 d_M_cut_101 (by decide) ?_
      refine lv_iload_n S.1 S.2.1 d_M_cut_103 rfl (lv_at hl 1 rfl) ?_
      refine lv_imul S.1 S.2.1 d_M_cut_104 ?_
      refine lv_iload_n S.1 S.2.1 d_M_cut_105 rfl (lv_at hl 2 rfl) ?_
      refine lv_iadd S.1 S.2.1 d_M_cut_106 ?_
      refine lv_iconst (v := 0) S.1 S.2.1 d_M_cut_107 (by decide) ?_
      by_cases g108 : zOut ((6 * v1) + v2) 36
      · rw [if_pos g108] at hF; cases hF
      rw [if_neg g108] at hF
      refine zr_iast S hK hP hD hS zkm_1 (fun _ => rfl) 0 rfl g108 d_M_cut_108 (fun H locs hP hS => ?_)
      replace hF : F_M_cut_L33_s1 n (F_M_cut_L33 n f) v1 v2 v3 (zs st 1 0 (Int32.toNatClampNeg ((6 * v1) + v2)) 0) = some out := hF
      generalize zs st 1 0 (Int32.toNatClampNeg ((6 * v1) + v2)) 0 = st109 at hP hF
      unfold F_M_cut_L33_s1 at hF
      refine lv_aload_n S.1 S.2.1 d_M_cut_109 rfl (lv_at hl 0 rfl) ?_
      refine zr_get (v := .ref (ad (1, 0))) S zi_M hK hP zkm_0 rfl rfl 1 (by decide) zx_41 rfl d_M_cut_110 ?_
      refine lv_bipush (v := 6) S.1 S.2.1 d_M_cut_113 (by decide) ?_
      refine lv_iload_n S.1 S.2.1 d_M_cut_115 rfl (lv_at hl 2 rfl) ?_
      refine lv_imul S.1 S.2.1 d_M_cut_116 ?_
      refine lv_iload_n S.1 S.2.1 d_M_cut_117 rfl (lv_at hl 1 rfl) ?_
      refine lv_iadd S.1 S.2.1 d_M_cut_118 ?_
      refine lv_iconst (v := 0) S.1 S.2.1 d_M_cut_119 (by decide) ?_
      by_cases g120 : zOut ((6 * v2) + v1) 36
      · rw [if_pos g120] at hF; cases hF
      rw [if_neg g120] at hF
      refine zr_iast S hK hP hD hS zkm_1 (fun _ => rfl) 0 rfl g120 d_M_cut_120 (fun H locs hP hS => ?_)
      replace hF : F_M_cut_L33_s2 n (F_M_cut_L33 n f) v1 v2 v3 (zs st109 1 0 (Int32.toNatClampNeg ((6 * v2) + v1)) 0) = some out := hF
      generalize zs st109 1 0 (Int32.toNatClampNeg ((6 * v2) + v1)) 0 = st121 at hP hF
      unfold F_M_cut_L33_s2 at hF
      refine lv_aload_n S.1 S.2.1 d_M_cut_121 rfl (lv_at hl 0 rfl) ?_
      refine lv_iload_n S.1 S.2.1 d_M_cut_122 rfl (lv_at hl 1 rfl) ?_
      refine lv_iload_n S.1 S.2.1 d_M_cut_123 rfl (lv_at hl 2 rfl) ?_
      refine lv_icmp_ge (tgt := 131) S.1 S.2.1 d_M_cut_124 (by decide) (fun h124 => ?_) (fun h124 => ?_)
      · rw [if_pos h124] at hF
        refine lv_iload_n S.1 S.2.1 d_M_cut_131 rfl (lv_at hl 2 rfl) ?_
        exact T_M_cut_L132 hn hD S hret hlk hK out v1 v2 v3 v2 st121 _ _ _ hP hS (lv_sub hl [0, 1, 2, 3] rfl) hF
      · rw [if_neg h124] at hF
        refine lv_iload_n S.1 S.2.1 d_M_cut_127 rfl (lv_at hl 1 rfl) ?_
        refine lv_goto (tgt := 132) S.1 S.2.1 d_M_cut_128 (by decide) ?_
        exact T_M_cut_L132 hn hD S hret hlk hK out v1 v2 v3 v1 st121 _ _ _ hP hS (lv_sub hl [0, 1, 2, 3] rfl) hF
    · rw [if_neg h35] at hF
      refine lv_aload_n S.1 S.2.1 d_M_cut_38 rfl (lv_at hl 0 rfl) ?_
      refine zr_get (v := .ref (ad (10, 0))) S zi_M hK hP zkm_0 rfl rfl 11 (by decide) zx_33 rfl d_M_cut_39 ?_
      refine lv_iload S.1 S.2.1 d_M_cut_42 (lv_at hl 4 rfl) ?_
      by_cases g44 : zOut v4 1024
      · rw [if_pos g44] at hF; cases hF
      rw [if_neg g44] at hF
      refine zr_iald S hK hP zkm_10 rfl 0 rfl g44 d_M_cut_44 ?_
      refine lv_iload_n S.1 S.2.1 d_M_cut_45 rfl (lv_at hl 1 rfl) ?_
      refine lv_icmp_ne (tgt := 60) S.1 S.2.1 d_M_cut_46 (by decide) (fun h46 => ?_) (fun h46 => ?_)
      · rw [if_neg h46] at hF
        exact T_M_cut_L60 hn hD S hret hlk hK out (F_M_cut_L33 n f) ih v1 v2 v3 v4 st _ _ _ hP hS (lv_sub hl [0, 1, 2, 3, 4] rfl) hF
      · rw [if_pos h46] at hF
        refine lv_aload_n S.1 S.2.1 d_M_cut_49 rfl (lv_at hl 0 rfl) ?_
        refine zr_get (v := .ref (ad (11, 0))) S zi_M hK hP zkm_0 rfl rfl 12 (by decide) zx_34 rfl d_M_cut_50 ?_
        refine lv_iload S.1 S.2.1 d_M_cut_53 (lv_at hl 4 rfl) ?_
        by_cases g55 : zOut v4 1024
        · rw [if_pos g55] at hF; cases hF
        rw [if_neg g55] at hF
        refine zr_iald S hK hP zkm_11 rfl 0 rfl g55 d_M_cut_55 ?_
        refine lv_iload_n S.1 S.2.1 d_M_cut_56 rfl (lv_at hl 2 rfl) ?_
        refine lv_icmp_eq (tgt := 82) S.1 S.2.1 d_M_cut_57 (by decide) (fun h57 => ?_) (fun h57 => ?_)
        · rw [if_pos h57] at hF
          exact T_M_cut_L82 hn hD S hret hlk hK out (F_M_cut_L33 n f) ih v1 v2 v3 v4 st _ _ _ hP hS (lv_sub hl [0, 1, 2, 3, 4] rfl) hF
        · rw [if_neg h57] at hF
          exact T_M_cut_L60 hn hD S hret hlk hK out (F_M_cut_L33 n f) ih v1 v2 v3 v4 st _ _ _ hP hS (lv_sub hl [0, 1, 2, 3, 4] rfl) hF

set_option maxHeartbeats 4000000 in
set_option maxRecDepth 1000000 in
theorem C_M_cut {dC : Nat → ClassId} {dI : Nat → Nat → Nat} {cI cZ cR cA : ClassId} {n : Nat} {ad : zK → Nat} {A : Nat → Prop} (hn : 2 ≤ n ∧ n ≤ 6) (hD : zD A zKm ad) (l : Launch) (v1 : Int32) (v2 : Int32) (st : zS) (out : Int32 × zS) (hF : F_M_cut n v1 v2 st = some out) : zC zT (dC, dI) zcl (zty cI cZ cR cA) A l y_M_cut b_M_cut 5 (some .int) rm_M_cut [.ref (ad (0, 0)), .int v1, .int v2] (fun H => zV (dC, dI) zcl zKm ad (zmE n cI cZ ad) st H) (fun o H => o = some (.int out.1) ∧ zV (dC, dI) zcl zKm ad (zmE n cI cZ ad) out.2 H) := by
  refine zC_of (by decide) (Nat.le_of_ble_eq_true rfl) (fun p e s m args below meth c ls S hret hlk hK hP hl => ?_)
  have hS : va_S A s.heap s.heap [] := va_S.rf
  have hl : lv_has ls 5 [(0, .ref (ad (0, 0))), (1, .int v1), (2, .int v2)] := hl
  have hP : zV (dC, dI) zcl zKm ad (zmE n cI cZ ad) st s.heap := hP
  unfold F_M_cut at hF
  refine lv_aload_n S.1 S.2.1 d_M_cut_0 rfl (lv_at hl 0 rfl) ?_
  refine lv_iload_n S.1 S.2.1 d_M_cut_1 rfl (lv_at hl 1 rfl) ?_
  refine lv_iload_n S.1 S.2.1 d_M_cut_2 rfl (lv_at hl 2 rfl) ?_
  cases hc3 : F_M_isLink n v1 v2 st with
  | none => rw [hc3] at hF; cases hF
  | some u3 =>
    obtain ⟨r3, st3⟩ := u3
    rw [hc3] at hF
    replace hF := zbind hF
    refine zr_callV (rest := []) S zT_good (C_M_isLink hn hD l v1 v2 st (r3, st3) hc3) zn_M_isLink zx_97 ⟨rfl, rfl⟩ ⟨Nat.le_of_ble_eq_true rfl, Nat.le_of_ble_eq_true rfl⟩ ⟨Nat.zero_le _, Nat.zero_le _⟩ hK (zr_recv hK hP zkm_0 rfl rfl) hP hl.1 (Nat.le_of_ble_eq_true rfl) hS (fun _ h => h) d_M_cut_3 rfl (fun o H locs hpo _ _ hS => ?_)
    obtain ⟨rfl, hP⟩ := hpo
    refine W.eq (g2 := F0 m 6 ls [.int r3]) rfl ?_
    replace hF : F_M_cut_s1 n v1 v2 r3 st3 = some out := hF
    replace hP : zV (dC, dI) zcl zKm ad (zmE n cI cZ ad) st3 H := hP
    unfold F_M_cut_s1 at hF
    refine lv_if_ne (tgt := 11) S.1 S.2.1 d_M_cut_6 (by decide) (fun h6 => ?_) (fun h6 => ?_)
    · rw [if_neg h6] at hF
      refine lv_aload_n S.1 S.2.1 d_M_cut_11 rfl (lv_at hl 0 rfl) ?_
      refine zr_get (v := .int (st3 0 0 0)) S zi_M hK hP zkm_0 rfl rfl 10 (by decide) zx_40 rfl d_M_cut_12 ?_
      refine lv_bipush (v := 100) S.1 S.2.1 d_M_cut_15 (by decide) ?_
      refine lv_icmp_le (tgt := 23) S.1 S.2.1 d_M_cut_17 (by decide) (fun h17 => ?_) (fun h17 => ?_)
      · rw [if_pos h17] at hF
        refine lv_iconst (v := 0) S.1 S.2.1 d_M_cut_23 (by decide) ?_
        refine lv_istore_n S.1 S.2.1 d_M_cut_24 rfl hl (by decide) rfl (fun ls hl => ?_)
        have hl : lv_has ls 5 [(3, .int 0), (0, .ref (ad (0, 0))), (1, .int v1), (2, .int v2)] := hl
        refine lv_aload_n S.1 S.2.1 d_M_cut_25 rfl (lv_at hl 1 rfl) ?_
        refine zr_get (v := .int (st3 0 0 0)) S zi_M hK hP zkm_0 rfl rfl 10 (by decide) zx_40 rfl d_M_cut_26 ?_
        refine lv_iconst (v := 1) S.1 S.2.1 d_M_cut_29 (by decide) ?_
        refine lv_isub S.1 S.2.1 d_M_cut_30 ?_
        refine lv_istore S.1 S.2.1 d_M_cut_31 hl (by decide) rfl (fun ls hl => ?_)
        have hl : lv_has ls 5 [(4, .int ((st3 0 0 0) - 1)), (3, .int 0), (0, .ref (ad (0, 0))), (1, .int v1), (2, .int v2)] := hl
        exact T_M_cut_L33 hn hD S hret hlk hK out zFuel v1 v2 0 ((st3 0 0 0) - 1) st3 _ _ _ hP hS (lv_sub hl [2, 3, 4, 1, 0] rfl) hF
      · rw [if_neg h17] at hF
        refine lv_bipush (v := (-2)) S.1 S.2.1 d_M_cut_20 (by decide) ?_
        cases hF
        exact zr_iret S hret hlk hS d_M_cut_22 ⟨rfl, hP⟩
    · rw [if_pos h6] at hF
      refine lv_iconst (v := (-1)) S.1 S.2.1 d_M_cut_9 (by decide) ?_
      cases hF
      exact zr_iret S hret hlk hS d_M_cut_10 ⟨rfl, hP⟩

theorem d_M_arrive_0 : decode b_M_arrive 0 = .ok (.aload_n 0, 1) := by decide +kernel
theorem d_M_arrive_1 : decode b_M_arrive 1 = .ok (.getfield 38, 3) := by decide +kernel
theorem d_M_arrive_4 : decode b_M_arrive 4 = .ok (.iload_n 1, 1) := by decide +kernel
theorem d_M_arrive_5 : decode b_M_arrive 5 = .ok (.iaload, 1) := by decide +kernel
theorem d_M_arrive_6 : decode b_M_arrive 6 = .ok (.istore_n 2, 1) := by decide +kernel
theorem d_M_arrive_7 : decode b_M_arrive 7 = .ok (.aload_n 0, 1) := by decide +kernel
theorem d_M_arrive_8 : decode b_M_arrive 8 = .ok (.getfield 41, 3) := by decide +kernel
theorem d_M_arrive_11 : decode b_M_arrive 11 = .ok (.iload_n 1, 1) := by decide +kernel
theorem d_M_arrive_12 : decode b_M_arrive 12 = .ok (.iaload, 1) := by decide +kernel
theorem d_M_arrive_13 : decode b_M_arrive 13 = .ok (.istore_n 3, 1) := by decide +kernel
theorem d_M_arrive_14 : decode b_M_arrive 14 = .ok (.aload_n 0, 1) := by decide +kernel
theorem d_M_arrive_15 : decode b_M_arrive 15 = .ok (.getfield 44, 3) := by decide +kernel
theorem d_M_arrive_18 : decode b_M_arrive 18 = .ok (.iload_n 1, 1) := by decide +kernel
theorem d_M_arrive_19 : decode b_M_arrive 19 = .ok (.iaload, 1) := by decide +kernel
theorem d_M_arrive_20 : decode b_M_arrive 20 = .ok (.istore 4, 2) := by decide +kernel
theorem d_M_arrive_22 : decode b_M_arrive 22 = .ok (.aload_n 0, 1) := by decide +kernel
theorem d_M_arrive_23 : decode b_M_arrive 23 = .ok (.getfield 47, 3) := by decide +kernel
theorem d_M_arrive_26 : decode b_M_arrive 26 = .ok (.iload_n 1, 1) := by decide +kernel
theorem d_M_arrive_27 : decode b_M_arrive 27 = .ok (.iaload, 1) := by decide +kernel
theorem d_M_arrive_28 : decode b_M_arrive 28 = .ok (.istore 5, 2) := by decide +kernel
theorem d_M_arrive_30 : decode b_M_arrive 30 = .ok (.aload_n 0, 1) := by decide +kernel
theorem d_M_arrive_31 : decode b_M_arrive 31 = .ok (.getfield 50, 3) := by decide +kernel
theorem d_M_arrive_34 : decode b_M_arrive 34 = .ok (.iload_n 1, 1) := by decide +kernel
theorem d_M_arrive_35 : decode b_M_arrive 35 = .ok (.iaload, 1) := by decide +kernel
theorem d_M_arrive_36 : decode b_M_arrive 36 = .ok (.istore 6, 2) := by decide +kernel
theorem d_M_arrive_38 : decode b_M_arrive 38 = .ok (.aload_n 0, 1) := by decide +kernel
theorem d_M_arrive_39 : decode b_M_arrive 39 = .ok (.iload_n 1, 1) := by decide +kernel
theorem d_M_arrive_40 : decode b_M_arrive 40 = .ok (.invokevirtual 121, 3) := by decide +kernel
theorem d_M_arrive_43 : decode b_M_arrive 43 = .ok (.aload_n 0, 1) := by decide +kernel
theorem d_M_arrive_44 : decode b_M_arrive 44 = .ok (.iload_n 2, 1) := by decide +kernel
theorem d_M_arrive_45 : decode b_M_arrive 45 = .ok (.iload_n 3, 1) := by decide +kernel
theorem d_M_arrive_46 : decode b_M_arrive 46 = .ok (.iload 4, 2) := by decide +kernel
theorem d_M_arrive_48 : decode b_M_arrive 48 = .ok (.iload 5, 2) := by decide +kernel
theorem d_M_arrive_50 : decode b_M_arrive 50 = .ok (.iload 6, 2) := by decide +kernel
theorem d_M_arrive_52 : decode b_M_arrive 52 = .ok (.invokevirtual 128, 3) := by decide +kernel
theorem d_M_arrive_55 : decode b_M_arrive 55 = .ok (.iload 4, 2) := by decide +kernel
theorem d_M_arrive_57 : decode b_M_arrive 57 = .ok (.ireturn, 1) := by decide +kernel
def F_M_arrive_s2 (n : Nat) (v4 : Int32) (st : zS) : Option (Int32 × zS) :=
    some (v4, st)

def F_M_arrive_s1 (n : Nat) (v6 : Int32) (v5 : Int32) (v4 : Int32) (v3 : Int32) (v2 : Int32) (st : zS) : Option (Int32 × zS) :=
    (F_M_hear n v2 v3 v4 v5 v6 st).bind (fun u => F_M_arrive_s2 n v4 u.2)

def F_M_arrive (n : Nat) (v1 : Int32) (st : zS) : Option (Int32 × zS) :=
    if zOut v1 1024 then none else if zOut v1 1024 then none else if zOut v1 1024 then none else if zOut v1 1024 then none else if zOut v1 1024 then none else (F_M_takeOut n v1 st).bind (fun u => F_M_arrive_s1 n (st 14 0 (Int32.toNatClampNeg v1)) (st 13 0 (Int32.toNatClampNeg v1)) (st 12 0 (Int32.toNatClampNeg v1)) (st 11 0 (Int32.toNatClampNeg v1)) (st 10 0 (Int32.toNatClampNeg v1)) u.2)

set_option maxHeartbeats 4000000 in
set_option maxRecDepth 1000000 in
theorem C_M_arrive {dC : Nat → ClassId} {dI : Nat → Nat → Nat} {cI cZ cR cA : ClassId} {n : Nat} {ad : zK → Nat} {A : Nat → Prop} (hn : 2 ≤ n ∧ n ≤ 6) (hD : zD A zKm ad) (l : Launch) (v1 : Int32) (st : zS) (out : Int32 × zS) (hF : F_M_arrive n v1 st = some out) : zC zT (dC, dI) zcl (zty cI cZ cR cA) A l y_M_arrive b_M_arrive 7 (some .int) rm_M_arrive [.ref (ad (0, 0)), .int v1] (fun H => zV (dC, dI) zcl zKm ad (zmE n cI cZ ad) st H) (fun o H => o = some (.int out.1) ∧ zV (dC, dI) zcl zKm ad (zmE n cI cZ ad) out.2 H) := by
  refine zC_of (by decide) (Nat.le_of_ble_eq_true rfl) (fun p e s m args below meth c ls S hret hlk hK hP hl => ?_)
  have hS : va_S A s.heap s.heap [] := va_S.rf
  have hl : lv_has ls 7 [(0, .ref (ad (0, 0))), (1, .int v1)] := hl
  have hP : zV (dC, dI) zcl zKm ad (zmE n cI cZ ad) st s.heap := hP
  unfold F_M_arrive at hF
  refine lv_aload_n S.1 S.2.1 d_M_arrive_0 rfl (lv_at hl 0 rfl) ?_
  refine zr_get (v := .ref (ad (10, 0))) S zi_M hK hP zkm_0 rfl rfl 11 (by decide) zx_33 rfl d_M_arrive_1 ?_
  refine lv_iload_n S.1 S.2.1 d_M_arrive_4 rfl (lv_at hl 1 rfl) ?_
  by_cases g5 : zOut v1 1024
  · rw [if_pos g5] at hF; cases hF
  rw [if_neg g5] at hF
  refine zr_iald S hK hP zkm_10 rfl 0 rfl g5 d_M_arrive_5 ?_
  refine lv_istore_n S.1 S.2.1 d_M_arrive_6 rfl hl (by decide) rfl (fun ls hl => ?_)
  have hl : lv_has ls 7 [(2, .int (st 10 0 (Int32.toNatClampNeg v1))), (0, .ref (ad (0, 0))), (1, .int v1)] := hl
  refine lv_aload_n S.1 S.2.1 d_M_arrive_7 rfl (lv_at hl 1 rfl) ?_
  refine zr_get (v := .ref (ad (11, 0))) S zi_M hK hP zkm_0 rfl rfl 12 (by decide) zx_34 rfl d_M_arrive_8 ?_
  refine lv_iload_n S.1 S.2.1 d_M_arrive_11 rfl (lv_at hl 2 rfl) ?_
  by_cases g12 : zOut v1 1024
  · rw [if_pos g12] at hF; cases hF
  rw [if_neg g12] at hF
  refine zr_iald S hK hP zkm_11 rfl 0 rfl g12 d_M_arrive_12 ?_
  refine lv_istore_n S.1 S.2.1 d_M_arrive_13 rfl hl (by decide) rfl (fun ls hl => ?_)
  have hl : lv_has ls 7 [(3, .int (st 11 0 (Int32.toNatClampNeg v1))), (2, .int (st 10 0 (Int32.toNatClampNeg v1))), (0, .ref (ad (0, 0))), (1, .int v1)] := hl
  refine lv_aload_n S.1 S.2.1 d_M_arrive_14 rfl (lv_at hl 2 rfl) ?_
  refine zr_get (v := .ref (ad (12, 0))) S zi_M hK hP zkm_0 rfl rfl 13 (by decide) zx_35 rfl d_M_arrive_15 ?_
  refine lv_iload_n S.1 S.2.1 d_M_arrive_18 rfl (lv_at hl 3 rfl) ?_
  by_cases g19 : zOut v1 1024
  · rw [if_pos g19] at hF; cases hF
  rw [if_neg g19] at hF
  refine zr_iald S hK hP zkm_12 rfl 0 rfl g19 d_M_arrive_19 ?_
  refine lv_istore S.1 S.2.1 d_M_arrive_20 hl (by decide) rfl (fun ls hl => ?_)
  have hl : lv_has ls 7 [(4, .int (st 12 0 (Int32.toNatClampNeg v1))), (3, .int (st 11 0 (Int32.toNatClampNeg v1))), (2, .int (st 10 0 (Int32.toNatClampNeg v1))), (0, .ref (ad (0, 0))), (1, .int v1)] := hl
  refine lv_aload_n S.1 S.2.1 d_M_arrive_22 rfl (lv_at hl 3 rfl) ?_
  refine zr_get (v := .ref (ad (13, 0))) S zi_M hK hP zkm_0 rfl rfl 14 (by decide) zx_36 rfl d_M_arrive_23 ?_
  refine lv_iload_n S.1 S.2.1 d_M_arrive_26 rfl (lv_at hl 4 rfl) ?_
  by_cases g27 : zOut v1 1024
  · rw [if_pos g27] at hF; cases hF
  rw [if_neg g27] at hF
  refine zr_iald S hK hP zkm_13 rfl 0 rfl g27 d_M_arrive_27 ?_
  refine lv_istore S.1 S.2.1 d_M_arrive_28 hl (by decide) rfl (fun ls hl => ?_)
  have hl : lv_has ls 7 [(5, .int (st 13 0 (Int32.toNatClampNeg v1))), (4, .int (st 12 0 (Int32.toNatClampNeg v1))), (3, .int (st 11 0 (Int32.toNatClampNeg v1))), (2, .int (st 10 0 (Int32.toNatClampNeg v1))), (0, .ref (ad (0, 0))), (1, .int v1)] := hl
  refine lv_aload_n S.1 S.2.1 d_M_arrive_30 rfl (lv_at hl 4 rfl) ?_
  refine zr_get (v := .ref (ad (14, 0))) S zi_M hK hP zkm_0 rfl rfl 15 (by decide) zx_37 rfl d_M_arrive_31 ?_
  refine lv_iload_n S.1 S.2.1 d_M_arrive_34 rfl (lv_at hl 5 rfl) ?_
  by_cases g35 : zOut v1 1024
  · rw [if_pos g35] at hF; cases hF
  rw [if_neg g35] at hF
  refine zr_iald S hK hP zkm_14 rfl 0 rfl g35 d_M_arrive_35 ?_
  refine lv_istore S.1 S.2.1 d_M_arrive_36 hl (by decide) rfl (fun ls hl => ?_)
  have hl : lv_has ls 7 [(6, .int (st 14 0 (Int32.toNatClampNeg v1))), (5, .int (st 13 0 (Int32.toNatClampNeg v1))), (4, .int (st 12 0 (Int32.toNatClampNeg v1))), (3, .int (st 11 0 (Int32.toNatClampNeg v1))), (2, .int (st 10 0 (Int32.toNatClampNeg v1))), (0, .ref (ad (0, 0))), (1, .int v1)] := hl
  refine lv_aload_n S.1 S.2.1 d_M_arrive_38 rfl (lv_at hl 5 rfl) ?_
  refine lv_iload_n S.1 S.2.1 d_M_arrive_39 rfl (lv_at hl 6 rfl) ?_
  cases hc40 : F_M_takeOut n v1 st with
  | none => rw [hc40] at hF; cases hF
  | some u40 =>
    obtain ⟨r40, st40⟩ := u40
    rw [hc40] at hF
    replace hF := zbind hF
    refine zr_callV (rest := []) S zT_good (C_M_takeOut hn hD l v1 st (r40, st40) hc40) zn_M_takeOut zx_101 ⟨rfl, rfl⟩ ⟨Nat.le_of_ble_eq_true rfl, Nat.le_of_ble_eq_true rfl⟩ ⟨Nat.zero_le _, Nat.zero_le _⟩ hK (zr_recv hK hP zkm_0 rfl rfl) hP hl.1 (Nat.le_of_ble_eq_true rfl) hS (fun _ h => h) d_M_arrive_40 rfl (fun o H locs hpo _ _ hS => ?_)
    obtain ⟨rfl, hP⟩ := hpo
    refine W.eq (g2 := F0 m 43 ls []) rfl ?_
    replace hF : F_M_arrive_s1 n (st 14 0 (Int32.toNatClampNeg v1)) (st 13 0 (Int32.toNatClampNeg v1)) (st 12 0 (Int32.toNatClampNeg v1)) (st 11 0 (Int32.toNatClampNeg v1)) (st 10 0 (Int32.toNatClampNeg v1)) st40 = some out := hF
    replace hP : zV (dC, dI) zcl zKm ad (zmE n cI cZ ad) st40 H := hP
    unfold F_M_arrive_s1 at hF
    refine lv_aload_n S.1 S.2.1 d_M_arrive_43 rfl (lv_at hl 5 rfl) ?_
    refine lv_iload_n S.1 S.2.1 d_M_arrive_44 rfl (lv_at hl 4 rfl) ?_
    refine lv_iload_n S.1 S.2.1 d_M_arrive_45 rfl (lv_at hl 3 rfl) ?_
    refine lv_iload S.1 S.2.1 d_M_arrive_46 (lv_at hl 2 rfl) ?_
    refine lv_iload S.1 S.2.1 d_M_arrive_48 (lv_at hl 1 rfl) ?_
    refine lv_iload S.1 S.2.1 d_M_arrive_50 (lv_at hl 0 rfl) ?_
    cases hc52 : F_M_hear n (st 10 0 (Int32.toNatClampNeg v1)) (st 11 0 (Int32.toNatClampNeg v1)) (st 12 0 (Int32.toNatClampNeg v1)) (st 13 0 (Int32.toNatClampNeg v1)) (st 14 0 (Int32.toNatClampNeg v1)) st40 with
    | none => rw [hc52] at hF; cases hF
    | some u52 =>
      obtain ⟨r52, st52⟩ := u52
      rw [hc52] at hF
      replace hF := zbind hF
      refine zr_callV (rest := []) S zT_good (C_M_hear hn hD l (st 10 0 (Int32.toNatClampNeg v1)) (st 11 0 (Int32.toNatClampNeg v1)) (st 12 0 (Int32.toNatClampNeg v1)) (st 13 0 (Int32.toNatClampNeg v1)) (st 14 0 (Int32.toNatClampNeg v1)) st40 (r52, st52) hc52) zn_M_hear zx_103 ⟨rfl, rfl⟩ ⟨Nat.le_of_ble_eq_true rfl, Nat.le_of_ble_eq_true rfl⟩ ⟨Nat.zero_le _, Nat.zero_le _⟩ hK (zr_recv hK hP zkm_0 rfl rfl) hP hl.1 (Nat.le_of_ble_eq_true rfl) hS (fun _ h => h) d_M_arrive_52 rfl (fun o H locs hpo _ _ hS => ?_)
      obtain ⟨rfl, hP⟩ := hpo
      refine W.eq (g2 := F0 m 55 ls []) rfl ?_
      replace hF : F_M_arrive_s2 n (st 12 0 (Int32.toNatClampNeg v1)) st52 = some out := hF
      replace hP : zV (dC, dI) zcl zKm ad (zmE n cI cZ ad) st52 H := hP
      unfold F_M_arrive_s2 at hF
      refine lv_iload S.1 S.2.1 d_M_arrive_55 (lv_at hl 2 rfl) ?_
      cases hF
      exact zr_iret S hret hlk hS d_M_arrive_57 ⟨rfl, hP⟩

theorem d_M_deliver_0 : decode b_M_deliver 0 = .ok (.aload_n 0, 1) := by decide +kernel
theorem d_M_deliver_1 : decode b_M_deliver 1 = .ok (.iload_n 1, 1) := by decide +kernel
theorem d_M_deliver_2 : decode b_M_deliver 2 = .ok (.iload_n 2, 1) := by decide +kernel
theorem d_M_deliver_3 : decode b_M_deliver 3 = .ok (.invokevirtual 108, 3) := by decide +kernel
theorem d_M_deliver_6 : decode b_M_deliver 6 = .ok (.ifCond .ne 5, 3) := by decide +kernel
theorem d_M_deliver_9 : decode b_M_deliver 9 = .ok (.iconst (-1), 1) := by decide +kernel
theorem d_M_deliver_10 : decode b_M_deliver 10 = .ok (.ireturn, 1) := by decide +kernel
theorem d_M_deliver_11 : decode b_M_deliver 11 = .ok (.aload_n 0, 1) := by decide +kernel
theorem d_M_deliver_12 : decode b_M_deliver 12 = .ok (.getfield 64, 3) := by decide +kernel
theorem d_M_deliver_15 : decode b_M_deliver 15 = .ok (.sipush 400, 3) := by decide +kernel
theorem d_M_deliver_18 : decode b_M_deliver 18 = .ok (.if_icmp .le 6, 3) := by decide +kernel
theorem d_M_deliver_21 : decode b_M_deliver 21 = .ok (.bipush (-2), 2) := by decide +kernel
theorem d_M_deliver_23 : decode b_M_deliver 23 = .ok (.ireturn, 1) := by decide +kernel
theorem d_M_deliver_24 : decode b_M_deliver 24 = .ok (.aload_n 0, 1) := by decide +kernel
theorem d_M_deliver_25 : decode b_M_deliver 25 = .ok (.iload_n 1, 1) := by decide +kernel
theorem d_M_deliver_26 : decode b_M_deliver 26 = .ok (.iload_n 2, 1) := by decide +kernel
theorem d_M_deliver_27 : decode b_M_deliver 27 = .ok (.iconst 0, 1) := by decide +kernel
theorem d_M_deliver_28 : decode b_M_deliver 28 = .ok (.invokevirtual 132, 3) := by decide +kernel
theorem d_M_deliver_31 : decode b_M_deliver 31 = .ok (.istore_n 3, 1) := by decide +kernel
theorem d_M_deliver_32 : decode b_M_deliver 32 = .ok (.iload_n 3, 1) := by decide +kernel
theorem d_M_deliver_33 : decode b_M_deliver 33 = .ok (.ifCond .ge 7, 3) := by decide +kernel
theorem d_M_deliver_36 : decode b_M_deliver 36 = .ok (.iconst 0, 1) := by decide +kernel
theorem d_M_deliver_37 : decode b_M_deliver 37 = .ok (.goto 10, 3) := by decide +kernel
theorem d_M_deliver_40 : decode b_M_deliver 40 = .ok (.aload_n 0, 1) := by decide +kernel
theorem d_M_deliver_41 : decode b_M_deliver 41 = .ok (.iload_n 3, 1) := by decide +kernel
theorem d_M_deliver_42 : decode b_M_deliver 42 = .ok (.invokevirtual 135, 3) := by decide +kernel
theorem d_M_deliver_45 : decode b_M_deliver 45 = .ok (.iconst 1, 1) := by decide +kernel
theorem d_M_deliver_46 : decode b_M_deliver 46 = .ok (.iadd, 1) := by decide +kernel
theorem d_M_deliver_47 : decode b_M_deliver 47 = .ok (.ireturn, 1) := by decide +kernel
def F_M_deliver_s3 (n : Nat) (t0 : Int32) (st : zS) : Option (Int32 × zS) :=
    some (t0 + 1, st)

def F_M_deliver_s2 (n : Nat) (t0 : Int32) (st : zS) : Option (Int32 × zS) :=
    if 0 ≤ t0 then ((F_M_arrive n t0 st).bind (fun u => F_M_deliver_s3 n u.1 u.2)) else (some (0, st))

def F_M_deliver_s1 (n : Nat) (v1 : Int32) (v2 : Int32) (t0 : Int32) (st : zS) : Option (Int32 × zS) :=
    if t0 = 0 then (some ((-1), st)) else (if (st 0 0 0) ≤ 400 then ((F_M_placeOf n v1 v2 0 st).bind (fun u => F_M_deliver_s2 n u.1 u.2)) else (some ((-2), st)))

def F_M_deliver (n : Nat) (v1 : Int32) (v2 : Int32) (st : zS) : Option (Int32 × zS) :=
    (F_M_isLink n v1 v2 st).bind (fun u => F_M_deliver_s1 n v1 v2 u.1 u.2)

set_option maxHeartbeats 4000000 in
set_option maxRecDepth 1000000 in
theorem C_M_deliver {dC : Nat → ClassId} {dI : Nat → Nat → Nat} {cI cZ cR cA : ClassId} {n : Nat} {ad : zK → Nat} {A : Nat → Prop} (hn : 2 ≤ n ∧ n ≤ 6) (hD : zD A zKm ad) (l : Launch) (v1 : Int32) (v2 : Int32) (st : zS) (out : Int32 × zS) (hF : F_M_deliver n v1 v2 st = some out) : zC zT (dC, dI) zcl (zty cI cZ cR cA) A l y_M_deliver b_M_deliver 4 (some .int) rm_M_deliver [.ref (ad (0, 0)), .int v1, .int v2] (fun H => zV (dC, dI) zcl zKm ad (zmE n cI cZ ad) st H) (fun o H => o = some (.int out.1) ∧ zV (dC, dI) zcl zKm ad (zmE n cI cZ ad) out.2 H) := by
  refine zC_of (by decide) (Nat.le_of_ble_eq_true rfl) (fun p e s m args below meth c ls S hret hlk hK hP hl => ?_)
  have hS : va_S A s.heap s.heap [] := va_S.rf
  have hl : lv_has ls 4 [(0, .ref (ad (0, 0))), (1, .int v1), (2, .int v2)] := hl
  have hP : zV (dC, dI) zcl zKm ad (zmE n cI cZ ad) st s.heap := hP
  unfold F_M_deliver at hF
  refine lv_aload_n S.1 S.2.1 d_M_deliver_0 rfl (lv_at hl 0 rfl) ?_
  refine lv_iload_n S.1 S.2.1 d_M_deliver_1 rfl (lv_at hl 1 rfl) ?_
  refine lv_iload_n S.1 S.2.1 d_M_deliver_2 rfl (lv_at hl 2 rfl) ?_
  cases hc3 : F_M_isLink n v1 v2 st with
  | none => rw [hc3] at hF; cases hF
  | some u3 =>
    obtain ⟨r3, st3⟩ := u3
    rw [hc3] at hF
    replace hF := zbind hF
    refine zr_callV (rest := []) S zT_good (C_M_isLink hn hD l v1 v2 st (r3, st3) hc3) zn_M_isLink zx_97 ⟨rfl, rfl⟩ ⟨Nat.le_of_ble_eq_true rfl, Nat.le_of_ble_eq_true rfl⟩ ⟨Nat.zero_le _, Nat.zero_le _⟩ hK (zr_recv hK hP zkm_0 rfl rfl) hP hl.1 (Nat.le_of_ble_eq_true rfl) hS (fun _ h => h) d_M_deliver_3 rfl (fun o H locs hpo _ _ hS => ?_)
    obtain ⟨rfl, hP⟩ := hpo
    refine W.eq (g2 := F0 m 6 ls [.int r3]) rfl ?_
    replace hF : F_M_deliver_s1 n v1 v2 r3 st3 = some out := hF
    replace hP : zV (dC, dI) zcl zKm ad (zmE n cI cZ ad) st3 H := hP
    unfold F_M_deliver_s1 at hF
    refine lv_if_ne (tgt := 11) S.1 S.2.1 d_M_deliver_6 (by decide) (fun h6 => ?_) (fun h6 => ?_)
    · rw [if_neg h6] at hF
      refine lv_aload_n S.1 S.2.1 d_M_deliver_11 rfl (lv_at hl 0 rfl) ?_
      refine zr_get (v := .int (st3 0 0 0)) S zi_M hK hP zkm_0 rfl rfl 10 (by decide) zx_40 rfl d_M_deliver_12 ?_
      refine lv_sipush (v := 400) S.1 S.2.1 d_M_deliver_15 (by decide) ?_
      refine lv_icmp_le (tgt := 24) S.1 S.2.1 d_M_deliver_18 (by decide) (fun h18 => ?_) (fun h18 => ?_)
      · rw [if_pos h18] at hF
        refine lv_aload_n S.1 S.2.1 d_M_deliver_24 rfl (lv_at hl 0 rfl) ?_
        refine lv_iload_n S.1 S.2.1 d_M_deliver_25 rfl (lv_at hl 1 rfl) ?_
        refine lv_iload_n S.1 S.2.1 d_M_deliver_26 rfl (lv_at hl 2 rfl) ?_
        refine lv_iconst (v := 0) S.1 S.2.1 d_M_deliver_27 (by decide) ?_
        cases hc28 : F_M_placeOf n v1 v2 0 st3 with
        | none => rw [hc28] at hF; cases hF
        | some u28 =>
          obtain ⟨r28, st28⟩ := u28
          rw [hc28] at hF
          replace hF := zbind hF
          refine zr_callV (rest := []) S zT_good (C_M_placeOf hn hD l v1 v2 0 st3 (r28, st28) hc28) zn_M_placeOf zx_104 ⟨rfl, rfl⟩ ⟨Nat.le_of_ble_eq_true rfl, Nat.le_of_ble_eq_true rfl⟩ ⟨Nat.zero_le _, Nat.zero_le _⟩ hK (zr_recv hK hP zkm_0 rfl rfl) hP hl.1 (Nat.le_of_ble_eq_true rfl) hS (fun _ h => h) d_M_deliver_28 rfl (fun o H locs hpo _ _ hS => ?_)
          obtain ⟨rfl, hP⟩ := hpo
          refine W.eq (g2 := F0 m 31 ls [.int r28]) rfl ?_
          replace hF : F_M_deliver_s2 n r28 st28 = some out := hF
          replace hP : zV (dC, dI) zcl zKm ad (zmE n cI cZ ad) st28 H := hP
          unfold F_M_deliver_s2 at hF
          refine lv_istore_n S.1 S.2.1 d_M_deliver_31 rfl hl (by decide) rfl (fun ls hl => ?_)
          have hl : lv_has ls 4 [(3, .int r28), (0, .ref (ad (0, 0))), (1, .int v1), (2, .int v2)] := hl
          refine lv_iload_n S.1 S.2.1 d_M_deliver_32 rfl (lv_at hl 0 rfl) ?_
          refine lv_if_ge (tgt := 40) S.1 S.2.1 d_M_deliver_33 (by decide) (fun h33 => ?_) (fun h33 => ?_)
          · rw [if_pos h33] at hF
            refine lv_aload_n S.1 S.2.1 d_M_deliver_40 rfl (lv_at hl 1 rfl) ?_
            refine lv_iload_n S.1 S.2.1 d_M_deliver_41 rfl (lv_at hl 0 rfl) ?_
            cases hc42 : F_M_arrive n r28 st28 with
            | none => rw [hc42] at hF; cases hF
            | some u42 =>
              obtain ⟨r42, st42⟩ := u42
              rw [hc42] at hF
              replace hF := zbind hF
              refine zr_callV (rest := []) S zT_good (C_M_arrive hn hD l r28 st28 (r42, st42) hc42) zn_M_arrive zx_105 ⟨rfl, rfl⟩ ⟨Nat.le_of_ble_eq_true rfl, Nat.le_of_ble_eq_true rfl⟩ ⟨Nat.zero_le _, Nat.zero_le _⟩ hK (zr_recv hK hP zkm_0 rfl rfl) hP hl.1 (Nat.le_of_ble_eq_true rfl) hS (fun _ h => h) d_M_deliver_42 rfl (fun o H locs hpo _ _ hS => ?_)
              obtain ⟨rfl, hP⟩ := hpo
              refine W.eq (g2 := F0 m 45 ls [.int r42]) rfl ?_
              replace hF : F_M_deliver_s3 n r42 st42 = some out := hF
              replace hP : zV (dC, dI) zcl zKm ad (zmE n cI cZ ad) st42 H := hP
              unfold F_M_deliver_s3 at hF
              refine lv_iconst (v := 1) S.1 S.2.1 d_M_deliver_45 (by decide) ?_
              refine lv_iadd S.1 S.2.1 d_M_deliver_46 ?_
              cases hF
              exact zr_iret S hret hlk hS d_M_deliver_47 ⟨rfl, hP⟩
          · rw [if_neg h33] at hF
            refine lv_iconst (v := 0) S.1 S.2.1 d_M_deliver_36 (by decide) ?_
            refine lv_goto (tgt := 47) S.1 S.2.1 d_M_deliver_37 (by decide) ?_
            cases hF
            exact zr_iret S hret hlk hS d_M_deliver_47 ⟨rfl, hP⟩
      · rw [if_neg h18] at hF
        refine lv_bipush (v := (-2)) S.1 S.2.1 d_M_deliver_21 (by decide) ?_
        cases hF
        exact zr_iret S hret hlk hS d_M_deliver_23 ⟨rfl, hP⟩
    · rw [if_pos h6] at hF
      refine lv_iconst (v := (-1)) S.1 S.2.1 d_M_deliver_9 (by decide) ?_
      cases hF
      exact zr_iret S hret hlk hS d_M_deliver_10 ⟨rfl, hP⟩

