theorem d_M_hear_0 : decode b_M_hear 0 = .ok (.bipush 6, 2) := by decide +kernel
theorem d_M_hear_2 : decode b_M_hear 2 = .ok (.iload_n 2, 1) := by decide +kernel
theorem d_M_hear_3 : decode b_M_hear 3 = .ok (.imul, 1) := by decide +kernel
theorem d_M_hear_4 : decode b_M_hear 4 = .ok (.iload 4, 2) := by decide +kernel
theorem d_M_hear_6 : decode b_M_hear 6 = .ok (.iadd, 1) := by decide +kernel
theorem d_M_hear_7 : decode b_M_hear 7 = .ok (.istore 6, 2) := by decide +kernel
theorem d_M_hear_9 : decode b_M_hear 9 = .ok (.iload_n 2, 1) := by decide +kernel
theorem d_M_hear_10 : decode b_M_hear 10 = .ok (.iload 4, 2) := by decide +kernel
theorem d_M_hear_12 : decode b_M_hear 12 = .ok (.if_icmp .ne 18, 3) := by decide +kernel
theorem d_M_hear_15 : decode b_M_hear 15 = .ok (.iload_n 3, 1) := by decide +kernel
theorem d_M_hear_16 : decode b_M_hear 16 = .ok (.iconst 1, 1) := by decide +kernel
theorem d_M_hear_17 : decode b_M_hear 17 = .ok (.if_icmp .ne 12, 3) := by decide +kernel
theorem d_M_hear_20 : decode b_M_hear 20 = .ok (.aload_n 0, 1) := by decide +kernel
theorem d_M_hear_21 : decode b_M_hear 21 = .ok (.iload_n 2, 1) := by decide +kernel
theorem d_M_hear_22 : decode b_M_hear 22 = .ok (.iload_n 1, 1) := by decide +kernel
theorem d_M_hear_23 : decode b_M_hear 23 = .ok (.iconst 2, 1) := by decide +kernel
theorem d_M_hear_24 : decode b_M_hear 24 = .ok (.iload 4, 2) := by decide +kernel
theorem d_M_hear_26 : decode b_M_hear 26 = .ok (.invokevirtual 67, 3) := by decide +kernel
theorem d_M_hear_29 : decode b_M_hear 29 = .ok (.return_, 1) := by decide +kernel
theorem d_M_hear_30 : decode b_M_hear 30 = .ok (.aload_n 0, 1) := by decide +kernel
theorem d_M_hear_31 : decode b_M_hear 31 = .ok (.getfield 32, 3) := by decide +kernel
theorem d_M_hear_34 : decode b_M_hear 34 = .ok (.bipush 36, 2) := by decide +kernel
theorem d_M_hear_36 : decode b_M_hear 36 = .ok (.iload_n 1, 1) := by decide +kernel
theorem d_M_hear_37 : decode b_M_hear 37 = .ok (.imul, 1) := by decide +kernel
theorem d_M_hear_38 : decode b_M_hear 38 = .ok (.iload 6, 2) := by decide +kernel
theorem d_M_hear_40 : decode b_M_hear 40 = .ok (.iadd, 1) := by decide +kernel
theorem d_M_hear_41 : decode b_M_hear 41 = .ok (.iload 5, 2) := by decide +kernel
theorem d_M_hear_43 : decode b_M_hear 43 = .ok (.iastore, 1) := by decide +kernel
theorem d_M_hear_44 : decode b_M_hear 44 = .ok (.aload_n 0, 1) := by decide +kernel
theorem d_M_hear_45 : decode b_M_hear 45 = .ok (.getfield 22, 3) := by decide +kernel
theorem d_M_hear_48 : decode b_M_hear 48 = .ok (.iload 6, 2) := by decide +kernel
theorem d_M_hear_50 : decode b_M_hear 50 = .ok (.baload, 1) := by decide +kernel
theorem d_M_hear_51 : decode b_M_hear 51 = .ok (.ifCond .ne 21, 3) := by decide +kernel
theorem d_M_hear_54 : decode b_M_hear 54 = .ok (.aload_n 0, 1) := by decide +kernel
theorem d_M_hear_55 : decode b_M_hear 55 = .ok (.iload_n 2, 1) := by decide +kernel
theorem d_M_hear_56 : decode b_M_hear 56 = .ok (.iload 4, 2) := by decide +kernel
theorem d_M_hear_58 : decode b_M_hear 58 = .ok (.iload_n 3, 1) := by decide +kernel
theorem d_M_hear_59 : decode b_M_hear 59 = .ok (.iconst 1, 1) := by decide +kernel
theorem d_M_hear_60 : decode b_M_hear 60 = .ok (.if_icmp .ne 7, 3) := by decide +kernel
theorem d_M_hear_63 : decode b_M_hear 63 = .ok (.iload_n 1, 1) := by decide +kernel
theorem d_M_hear_64 : decode b_M_hear 64 = .ok (.goto 4, 3) := by decide +kernel
theorem d_M_hear_67 : decode b_M_hear 67 = .ok (.iconst (-1), 1) := by decide +kernel
theorem d_M_hear_68 : decode b_M_hear 68 = .ok (.invokevirtual 101, 3) := by decide +kernel
theorem d_M_hear_71 : decode b_M_hear 71 = .ok (.return_, 1) := by decide +kernel
theorem d_M_hear_72 : decode b_M_hear 72 = .ok (.iload_n 3, 1) := by decide +kernel
theorem d_M_hear_73 : decode b_M_hear 73 = .ok (.iconst 1, 1) := by decide +kernel
theorem d_M_hear_74 : decode b_M_hear 74 = .ok (.if_icmp .ne 33, 3) := by decide +kernel
theorem d_M_hear_77 : decode b_M_hear 77 = .ok (.iload_n 1, 1) := by decide +kernel
theorem d_M_hear_78 : decode b_M_hear 78 = .ok (.aload_n 0, 1) := by decide +kernel
theorem d_M_hear_79 : decode b_M_hear 79 = .ok (.getfield 19, 3) := by decide +kernel
theorem d_M_hear_82 : decode b_M_hear 82 = .ok (.iload 6, 2) := by decide +kernel
theorem d_M_hear_84 : decode b_M_hear 84 = .ok (.iaload, 1) := by decide +kernel
theorem d_M_hear_85 : decode b_M_hear 85 = .ok (.if_icmp .ne 22, 3) := by decide +kernel
theorem d_M_hear_88 : decode b_M_hear 88 = .ok (.aload_n 0, 1) := by decide +kernel
theorem d_M_hear_89 : decode b_M_hear 89 = .ok (.getfield 26, 3) := by decide +kernel
theorem d_M_hear_92 : decode b_M_hear 92 = .ok (.iload 6, 2) := by decide +kernel
theorem d_M_hear_94 : decode b_M_hear 94 = .ok (.iconst 1, 1) := by decide +kernel
theorem d_M_hear_95 : decode b_M_hear 95 = .ok (.bastore, 1) := by decide +kernel
theorem d_M_hear_96 : decode b_M_hear 96 = .ok (.aload_n 0, 1) := by decide +kernel
theorem d_M_hear_97 : decode b_M_hear 97 = .ok (.getfield 29, 3) := by decide +kernel
theorem d_M_hear_100 : decode b_M_hear 100 = .ok (.iload 6, 2) := by decide +kernel
theorem d_M_hear_102 : decode b_M_hear 102 = .ok (.iconst 1, 1) := by decide +kernel
theorem d_M_hear_103 : decode b_M_hear 103 = .ok (.bastore, 1) := by decide +kernel
theorem d_M_hear_104 : decode b_M_hear 104 = .ok (.goto 57, 3) := by decide +kernel
theorem d_M_hear_107 : decode b_M_hear 107 = .ok (.iload_n 3, 1) := by decide +kernel
theorem d_M_hear_108 : decode b_M_hear 108 = .ok (.iconst 1, 1) := by decide +kernel
theorem d_M_hear_109 : decode b_M_hear 109 = .ok (.if_icmp .ne 15, 3) := by decide +kernel
theorem d_M_hear_112 : decode b_M_hear 112 = .ok (.aload_n 0, 1) := by decide +kernel
theorem d_M_hear_113 : decode b_M_hear 113 = .ok (.iload_n 2, 1) := by decide +kernel
theorem d_M_hear_114 : decode b_M_hear 114 = .ok (.iload_n 1, 1) := by decide +kernel
theorem d_M_hear_115 : decode b_M_hear 115 = .ok (.iconst 2, 1) := by decide +kernel
theorem d_M_hear_116 : decode b_M_hear 116 = .ok (.iload 4, 2) := by decide +kernel
theorem d_M_hear_118 : decode b_M_hear 118 = .ok (.invokevirtual 67, 3) := by decide +kernel
theorem d_M_hear_121 : decode b_M_hear 121 = .ok (.goto 40, 3) := by decide +kernel
theorem d_M_hear_124 : decode b_M_hear 124 = .ok (.iload_n 1, 1) := by decide +kernel
theorem d_M_hear_125 : decode b_M_hear 125 = .ok (.aload_n 0, 1) := by decide +kernel
theorem d_M_hear_126 : decode b_M_hear 126 = .ok (.getfield 19, 3) := by decide +kernel
theorem d_M_hear_129 : decode b_M_hear 129 = .ok (.iload 6, 2) := by decide +kernel
theorem d_M_hear_131 : decode b_M_hear 131 = .ok (.iaload, 1) := by decide +kernel
theorem d_M_hear_132 : decode b_M_hear 132 = .ok (.if_icmp .ne 29, 3) := by decide +kernel
theorem d_M_hear_135 : decode b_M_hear 135 = .ok (.aload_n 0, 1) := by decide +kernel
theorem d_M_hear_136 : decode b_M_hear 136 = .ok (.iload_n 2, 1) := by decide +kernel
theorem d_M_hear_137 : decode b_M_hear 137 = .ok (.iload 4, 2) := by decide +kernel
theorem d_M_hear_139 : decode b_M_hear 139 = .ok (.iload_n 1, 1) := by decide +kernel
theorem d_M_hear_140 : decode b_M_hear 140 = .ok (.invokevirtual 71, 3) := by decide +kernel
theorem d_M_hear_143 : decode b_M_hear 143 = .ok (.aload_n 0, 1) := by decide +kernel
theorem d_M_hear_144 : decode b_M_hear 144 = .ok (.getfield 13, 3) := by decide +kernel
theorem d_M_hear_147 : decode b_M_hear 147 = .ok (.iload 6, 2) := by decide +kernel
theorem d_M_hear_149 : decode b_M_hear 149 = .ok (.iaload, 1) := by decide +kernel
theorem d_M_hear_150 : decode b_M_hear 150 = .ok (.if_icmp .le 11, 3) := by decide +kernel
theorem d_M_hear_153 : decode b_M_hear 153 = .ok (.aload_n 0, 1) := by decide +kernel
theorem d_M_hear_154 : decode b_M_hear 154 = .ok (.getfield 29, 3) := by decide +kernel
theorem d_M_hear_157 : decode b_M_hear 157 = .ok (.iload 6, 2) := by decide +kernel
theorem d_M_hear_159 : decode b_M_hear 159 = .ok (.iconst 1, 1) := by decide +kernel
theorem d_M_hear_160 : decode b_M_hear 160 = .ok (.bastore, 1) := by decide +kernel
theorem d_M_hear_161 : decode b_M_hear 161 = .ok (.iload_n 3, 1) := by decide +kernel
theorem d_M_hear_162 : decode b_M_hear 162 = .ok (.iconst 2, 1) := by decide +kernel
theorem d_M_hear_163 : decode b_M_hear 163 = .ok (.if_icmp .ne 16, 3) := by decide +kernel
theorem d_M_hear_166 : decode b_M_hear 166 = .ok (.aload_n 0, 1) := by decide +kernel
theorem d_M_hear_167 : decode b_M_hear 167 = .ok (.getfield 35, 3) := by decide +kernel
theorem d_M_hear_170 : decode b_M_hear 170 = .ok (.bipush 36, 2) := by decide +kernel
theorem d_M_hear_172 : decode b_M_hear 172 = .ok (.iload_n 1, 1) := by decide +kernel
theorem d_M_hear_173 : decode b_M_hear 173 = .ok (.imul, 1) := by decide +kernel
theorem d_M_hear_174 : decode b_M_hear 174 = .ok (.iload 6, 2) := by decide +kernel
theorem d_M_hear_176 : decode b_M_hear 176 = .ok (.iadd, 1) := by decide +kernel
theorem d_M_hear_177 : decode b_M_hear 177 = .ok (.iconst 0, 1) := by decide +kernel
theorem d_M_hear_178 : decode b_M_hear 178 = .ok (.bastore, 1) := by decide +kernel
theorem d_M_hear_179 : decode b_M_hear 179 = .ok (.aload_n 0, 1) := by decide +kernel
theorem d_M_hear_180 : decode b_M_hear 180 = .ok (.iload_n 2, 1) := by decide +kernel
theorem d_M_hear_181 : decode b_M_hear 181 = .ok (.iload 4, 2) := by decide +kernel
theorem d_M_hear_183 : decode b_M_hear 183 = .ok (.invokevirtual 105, 3) := by decide +kernel
theorem d_M_hear_186 : decode b_M_hear 186 = .ok (.return_, 1) := by decide +kernel
def F_M_hear_L68_s1 (n : Nat) (st : zS) : Option (Int32 × zS) :=
    some (0, st)

def F_M_hear_L68 (n : Nat) (t1 : Int32) (t2 : Int32) (t3 : Int32) (st : zS) : Option (Int32 × zS) :=
    (F_M_look n t1 t2 t3 st).bind (fun u => F_M_hear_L68_s1 n u.2)

def F_M_hear_L179_s1 (n : Nat) (st : zS) : Option (Int32 × zS) :=
    some (0, st)

def F_M_hear_L179 (n : Nat) (v2 : Int32) (v4 : Int32) (st : zS) : Option (Int32 × zS) :=
    (F_M_endIfDone n v2 v4 st).bind (fun u => F_M_hear_L179_s1 n u.2)

def F_M_hear_L161_s1 (n : Nat) (v2 : Int32) (v4 : Int32) (st : zS) : Option (Int32 × zS) :=
    F_M_hear_L179 n v2 v4 st

def F_M_hear_L161 (n : Nat) (v1 : Int32) (v2 : Int32) (v3 : Int32) (v4 : Int32) (v6 : Int32) (st : zS) : Option (Int32 × zS) :=
    if v3 = 2 then (if zOut ((36 * v1) + v6) 216 then none else F_M_hear_L161_s1 n v2 v4 (zs st 9 0 (Int32.toNatClampNeg ((36 * v1) + v6)) 0)) else (F_M_hear_L179 n v2 v4 st)

def F_M_hear_L107_s2 (n : Nat) (v1 : Int32) (v2 : Int32) (v3 : Int32) (v4 : Int32) (v6 : Int32) (st : zS) : Option (Int32 × zS) :=
    F_M_hear_L161 n v1 v2 v3 v4 v6 st

def F_M_hear_L107_s1 (n : Nat) (v1 : Int32) (v2 : Int32) (v3 : Int32) (v4 : Int32) (v6 : Int32) (t0 : Int32) (st : zS) : Option (Int32 × zS) :=
    if zOut v6 36 then none else if t0 ≤ (st 2 0 (Int32.toNatClampNeg v6)) then (F_M_hear_L161 n v1 v2 v3 v4 v6 st) else (if zOut v6 36 then none else F_M_hear_L107_s2 n v1 v2 v3 v4 v6 (zs st 7 0 (Int32.toNatClampNeg v6) 1))

def F_M_hear_L107_s3 (n : Nat) (v1 : Int32) (v2 : Int32) (v3 : Int32) (v4 : Int32) (v6 : Int32) (st : zS) : Option (Int32 × zS) :=
    F_M_hear_L161 n v1 v2 v3 v4 v6 st

def F_M_hear_L107 (n : Nat) (v1 : Int32) (v2 : Int32) (v3 : Int32) (v4 : Int32) (v6 : Int32) (st : zS) : Option (Int32 × zS) :=
    if v3 = 1 then ((F_M_send n v2 v1 2 v4 st).bind (fun u => F_M_hear_L107_s3 n v1 v2 v3 v4 v6 u.2)) else (if zOut v6 36 then none else if v1 = (st 4 0 (Int32.toNatClampNeg v6)) then ((F_M_through n v2 v4 v1 st).bind (fun u => F_M_hear_L107_s1 n v1 v2 v3 v4 v6 u.1 u.2)) else (F_M_hear_L161 n v1 v2 v3 v4 v6 st))

def F_M_hear_s3 (n : Nat) (v6 : Int32) (v1 : Int32) (v2 : Int32) (v3 : Int32) (v4 : Int32) (st : zS) : Option (Int32 × zS) :=
    F_M_hear_L161 n v1 v2 v3 v4 v6 st

def F_M_hear_s2 (n : Nat) (v6 : Int32) (v1 : Int32) (v2 : Int32) (v3 : Int32) (v4 : Int32) (st : zS) : Option (Int32 × zS) :=
    if zOut v6 36 then none else F_M_hear_s3 n v6 v1 v2 v3 v4 (zs st 7 0 (Int32.toNatClampNeg v6) 1)

def F_M_hear_s1 (n : Nat) (v6 : Int32) (v1 : Int32) (v2 : Int32) (v3 : Int32) (v4 : Int32) (st : zS) : Option (Int32 × zS) :=
    if zOut v6 36 then none else if (st 5 0 (Int32.toNatClampNeg v6)) = 0 then (if v3 = 1 then (F_M_hear_L68 n v2 v4 v1 st) else (F_M_hear_L68 n v2 v4 (-1) st)) else (if v3 = 1 then (if zOut v6 36 then none else if v1 = (st 4 0 (Int32.toNatClampNeg v6)) then (if zOut v6 36 then none else F_M_hear_s2 n v6 v1 v2 v3 v4 (zs st 6 0 (Int32.toNatClampNeg v6) 1)) else (F_M_hear_L107 n v1 v2 v3 v4 v6 st)) else (F_M_hear_L107 n v1 v2 v3 v4 v6 st))

def F_M_hear_s4 (n : Nat) (st : zS) : Option (Int32 × zS) :=
    some (0, st)

def F_M_hear (n : Nat) (v1 : Int32) (v2 : Int32) (v3 : Int32) (v4 : Int32) (v5 : Int32) (st : zS) : Option (Int32 × zS) :=
    if v2 = v4 then (if v3 = 1 then ((F_M_send n v2 v1 2 v4 st).bind (fun u => F_M_hear_s4 n u.2)) else (some (0, st))) else (if zOut ((36 * v1) + ((6 * v2) + v4)) 216 then none else F_M_hear_s1 n ((6 * v2) + v4) v1 v2 v3 v4 (zs st 8 0 (Int32.toNatClampNeg ((36 * v1) + ((6 * v2) + v4))) v5))

set_option maxHeartbeats 4000000 in
set_option maxRecDepth 1000000 in
theorem T_M_hear_L68 {dC : Nat → ClassId} {dI : Nat → Nat → Nat} {cI cZ cR cA : ClassId} {n : Nat} {ad : zK → Nat} {A : Nat → Prop} (hn : 2 ≤ n ∧ n ≤ 6) (hD : zD A zKm ad) {p : Program} {l : Launch} {e : Env} {s : State} {m : MethodId} {args : Array Value} {below : List Frame} {meth : Method} {c : Code} (S : CallFix p m c b_M_hear 7 s args zT N_M) (hret : meth.sig.returnType = none) (hlk : meth.locks = false) (hK : va_K (dC, dI) zcl (zty cI cZ cR cA) s) (out : Int32 × zS) (t1 : Int32) (t2 : Int32) (t3 : Int32) (st : zS) (H : Heap) (locs : List Loc) (ls : Array Slot) (hP : zV (dC, dI) zcl zKm ad (zmE n cI cZ ad) st H) (hS : va_S A s.heap H locs) (hl : lv_has ls 7 []) (hF : F_M_hear_L68 n t1 t2 t3 st = some out) : W p l e rm_M_hear s m args below meth c H locs 0 0 (zQ below A (fun o H => o = none ∧ zV (dC, dI) zcl zKm ad (zmE n cI cZ ad) out.2 H) args s) (F0 m 68 ls [.int t3, .int t2, .int t1, .ref (ad (0, 0))]) := by
  unfold F_M_hear_L68 at hF
  cases hc68 : F_M_look n t1 t2 t3 st with
  | none => rw [hc68] at hF; cases hF
  | some u68 =>
    obtain ⟨r68, st68⟩ := u68
    rw [hc68] at hF
    replace hF := zbind hF
    refine zr_callV (rest := []) S zT_good (C_M_look hn hD l t1 t2 t3 st (r68, st68) hc68) zn_M_look zx_95 ⟨rfl, rfl⟩ ⟨Nat.le_of_ble_eq_true rfl, Nat.le_of_ble_eq_true rfl⟩ ⟨Nat.zero_le _, Nat.zero_le _⟩ hK (zr_recv hK hP zkm_0 rfl rfl) hP hl.1 (Nat.le_of_ble_eq_true rfl) hS (fun _ h => h) d_M_hear_68 rfl (fun o H locs hpo _ _ hS => ?_)
    obtain ⟨rfl, hP⟩ := hpo
    refine W.eq (g2 := F0 m 71 ls []) rfl ?_
    replace hF : F_M_hear_L68_s1 n st68 = some out := hF
    replace hP : zV (dC, dI) zcl zKm ad (zmE n cI cZ ad) st68 H := hP
    unfold F_M_hear_L68_s1 at hF
    cases hF
    exact zr_vret S hret hlk hS d_M_hear_71 ⟨rfl, hP⟩

set_option maxHeartbeats 4000000 in
set_option maxRecDepth 1000000 in
theorem T_M_hear_L179 {dC : Nat → ClassId} {dI : Nat → Nat → Nat} {cI cZ cR cA : ClassId} {n : Nat} {ad : zK → Nat} {A : Nat → Prop} (hn : 2 ≤ n ∧ n ≤ 6) (hD : zD A zKm ad) {p : Program} {l : Launch} {e : Env} {s : State} {m : MethodId} {args : Array Value} {below : List Frame} {meth : Method} {c : Code} (S : CallFix p m c b_M_hear 7 s args zT N_M) (hret : meth.sig.returnType = none) (hlk : meth.locks = false) (hK : va_K (dC, dI) zcl (zty cI cZ cR cA) s) (out : Int32 × zS) (v2 : Int32) (v4 : Int32) (st : zS) (H : Heap) (locs : List Loc) (ls : Array Slot) (hP : zV (dC, dI) zcl zKm ad (zmE n cI cZ ad) st H) (hS : va_S A s.heap H locs) (hl : lv_has ls 7 [(0, .ref (ad (0, 0))), (2, .int v2), (4, .int v4)]) (hF : F_M_hear_L179 n v2 v4 st = some out) : W p l e rm_M_hear s m args below meth c H locs 0 0 (zQ below A (fun o H => o = none ∧ zV (dC, dI) zcl zKm ad (zmE n cI cZ ad) out.2 H) args s) (F0 m 179 ls []) := by
  unfold F_M_hear_L179 at hF
  refine lv_aload_n S.1 S.2.1 d_M_hear_179 rfl (lv_at hl 0 rfl) ?_
  refine lv_iload_n S.1 S.2.1 d_M_hear_180 rfl (lv_at hl 1 rfl) ?_
  refine lv_iload S.1 S.2.1 d_M_hear_181 (lv_at hl 2 rfl) ?_
  cases hc183 : F_M_endIfDone n v2 v4 st with
  | none => rw [hc183] at hF; cases hF
  | some u183 =>
    obtain ⟨r183, st183⟩ := u183
    rw [hc183] at hF
    replace hF := zbind hF
    refine zr_callV (rest := []) S zT_good (C_M_endIfDone hn hD l v2 v4 st (r183, st183) hc183) zn_M_endIfDone zx_96 ⟨rfl, rfl⟩ ⟨Nat.le_of_ble_eq_true rfl, Nat.le_of_ble_eq_true rfl⟩ ⟨Nat.zero_le _, Nat.zero_le _⟩ hK (zr_recv hK hP zkm_0 rfl rfl) hP hl.1 (Nat.le_of_ble_eq_true rfl) hS (fun _ h => h) d_M_hear_183 rfl (fun o H locs hpo _ _ hS => ?_)
    obtain ⟨rfl, hP⟩ := hpo
    refine W.eq (g2 := F0 m 186 ls []) rfl ?_
    replace hF : F_M_hear_L179_s1 n st183 = some out := hF
    replace hP : zV (dC, dI) zcl zKm ad (zmE n cI cZ ad) st183 H := hP
    unfold F_M_hear_L179_s1 at hF
    cases hF
    exact zr_vret S hret hlk hS d_M_hear_186 ⟨rfl, hP⟩

set_option maxHeartbeats 4000000 in
set_option maxRecDepth 1000000 in
theorem T_M_hear_L161 {dC : Nat → ClassId} {dI : Nat → Nat → Nat} {cI cZ cR cA : ClassId} {n : Nat} {ad : zK → Nat} {A : Nat → Prop} (hn : 2 ≤ n ∧ n ≤ 6) (hD : zD A zKm ad) {p : Program} {l : Launch} {e : Env} {s : State} {m : MethodId} {args : Array Value} {below : List Frame} {meth : Method} {c : Code} (S : CallFix p m c b_M_hear 7 s args zT N_M) (hret : meth.sig.returnType = none) (hlk : meth.locks = false) (hK : va_K (dC, dI) zcl (zty cI cZ cR cA) s) (out : Int32 × zS) (v1 : Int32) (v2 : Int32) (v3 : Int32) (v4 : Int32) (v6 : Int32) (st : zS) (H : Heap) (locs : List Loc) (ls : Array Slot) (hP : zV (dC, dI) zcl zKm ad (zmE n cI cZ ad) st H) (hS : va_S A s.heap H locs) (hl : lv_has ls 7 [(0, .ref (ad (0, 0))), (1, .int v1), (2, .int v2), (3, .int v3), (4, .int v4), (6, .int v6)]) (hF : F_M_hear_L161 n v1 v2 v3 v4 v6 st = some out) : W p l e rm_M_hear s m args below meth c H locs 0 0 (zQ below A (fun o H => o = none ∧ zV (dC, dI) zcl zKm ad (zmE n cI cZ ad) out.2 H) args s) (F0 m 161 ls []) := by
  unfold F_M_hear_L161 at hF
  refine lv_iload_n S.1 S.2.1 d_M_hear_161 rfl (lv_at hl 3 rfl) ?_
  refine lv_iconst (v := 2) S.1 S.2.1 d_M_hear_162 (by decide) ?_
  refine lv_icmp_ne (tgt := 179) S.1 S.2.1 d_M_hear_163 (by decide) (fun h163 => ?_) (fun h163 => ?_)
  · rw [if_neg h163] at hF
    exact T_M_hear_L179 hn hD S hret hlk hK out v2 v4 st _ _ _ hP hS (lv_sub hl [0, 2, 4] rfl) hF
  · rw [if_pos h163] at hF
    refine lv_aload_n S.1 S.2.1 d_M_hear_166 rfl (lv_at hl 0 rfl) ?_
    refine zr_get (v := .ref (ad (9, 0))) S zi_M hK hP zkm_0 rfl rfl 9 (by decide) zx_32 rfl d_M_hear_167 ?_
    refine lv_bipush (v := 36) S.1 S.2.1 d_M_hear_170 (by decide) ?_
    refine lv_iload_n S.1 S.2.1 d_M_hear_172 rfl (lv_at hl 1 rfl) ?_
    refine lv_imul S.1 S.2.1 d_M_hear_173 ?_
    refine lv_iload S.1 S.2.1 d_M_hear_174 (lv_at hl 5 rfl) ?_
    refine lv_iadd S.1 S.2.1 d_M_hear_176 ?_
    refine lv_iconst (v := 0) S.1 S.2.1 d_M_hear_177 (by decide) ?_
    by_cases g178 : zOut ((36 * v1) + v6) 216
    · rw [if_pos g178] at hF; cases hF
    rw [if_neg g178] at hF
    refine zr_zast S hK hP hD hS zkm_9 (fun _ => rfl) 1 rfl g178 (by decide) d_M_hear_178 (fun H locs hP hS => ?_)
    replace hF : F_M_hear_L161_s1 n v2 v4 (zs st 9 0 (Int32.toNatClampNeg ((36 * v1) + v6)) 0) = some out := hF
    generalize zs st 9 0 (Int32.toNatClampNeg ((36 * v1) + v6)) 0 = st179 at hP hF
    unfold F_M_hear_L161_s1 at hF
    exact T_M_hear_L179 hn hD S hret hlk hK out v2 v4 st179 _ _ _ hP hS (lv_sub hl [0, 2, 4] rfl) hF

set_option maxHeartbeats 4000000 in
set_option maxRecDepth 1000000 in
theorem T_M_hear_L107 {dC : Nat → ClassId} {dI : Nat → Nat → Nat} {cI cZ cR cA : ClassId} {n : Nat} {ad : zK → Nat} {A : Nat → Prop} (hn : 2 ≤ n ∧ n ≤ 6) (hD : zD A zKm ad) {p : Program} {l : Launch} {e : Env} {s : State} {m : MethodId} {args : Array Value} {below : List Frame} {meth : Method} {c : Code} (S : CallFix p m c b_M_hear 7 s args zT N_M) (hret : meth.sig.returnType = none) (hlk : meth.locks = false) (hK : va_K (dC, dI) zcl (zty cI cZ cR cA) s) (out : Int32 × zS) (v1 : Int32) (v2 : Int32) (v3 : Int32) (v4 : Int32) (v6 : Int32) (st : zS) (H : Heap) (locs : List Loc) (ls : Array Slot) (hP : zV (dC, dI) zcl zKm ad (zmE n cI cZ ad) st H) (hS : va_S A s.heap H locs) (hl : lv_has ls 7 [(0, .ref (ad (0, 0))), (1, .int v1), (2, .int v2), (3, .int v3), (4, .int v4), (6, .int v6)]) (hF : F_M_hear_L107 n v1 v2 v3 v4 v6 st = some out) : W p l e rm_M_hear s m args below meth c H locs 0 0 (zQ below A (fun o H => o = none ∧ zV (dC, dI) zcl zKm ad (zmE n cI cZ ad) out.2 H) args s) (F0 m 107 ls []) := by
  unfold F_M_hear_L107 at hF
  refine lv_iload_n S.1 S.2.1 d_M_hear_107 rfl (lv_at hl 3 rfl) ?_
  refine lv_iconst (v := 1) S.1 S.2.1 d_M_hear_108 (by decide) ?_
  refine lv_icmp_ne (tgt := 124) S.1 S.2.1 d_M_hear_109 (by decide) (fun h109 => ?_) (fun h109 => ?_)
  · rw [if_neg h109] at hF
    refine lv_iload_n S.1 S.2.1 d_M_hear_124 rfl (lv_at hl 1 rfl) ?_
    refine lv_aload_n S.1 S.2.1 d_M_hear_125 rfl (lv_at hl 0 rfl) ?_
    refine zr_get (v := .ref (ad (4, 0))) S zi_M hK hP zkm_0 rfl rfl 4 (by decide) zx_27 rfl d_M_hear_126 ?_
    refine lv_iload S.1 S.2.1 d_M_hear_129 (lv_at hl 5 rfl) ?_
    by_cases g131 : zOut v6 36
    · rw [if_pos g131] at hF; cases hF
    rw [if_neg g131] at hF
    refine zr_iald S hK hP zkm_4 rfl 0 rfl g131 d_M_hear_131 ?_
    refine lv_icmp_ne (tgt := 161) S.1 S.2.1 d_M_hear_132 (by decide) (fun h132 => ?_) (fun h132 => ?_)
    · rw [if_neg h132] at hF
      exact T_M_hear_L161 hn hD S hret hlk hK out v1 v2 v3 v4 v6 st _ _ _ hP hS (lv_sub hl [0, 1, 2, 3, 4, 5] rfl) hF
    · rw [if_pos h132] at hF
      refine lv_aload_n S.1 S.2.1 d_M_hear_135 rfl (lv_at hl 0 rfl) ?_
      refine lv_iload_n S.1 S.2.1 d_M_hear_136 rfl (lv_at hl 2 rfl) ?_
      refine lv_iload S.1 S.2.1 d_M_hear_137 (lv_at hl 4 rfl) ?_
      refine lv_iload_n S.1 S.2.1 d_M_hear_139 rfl (lv_at hl 1 rfl) ?_
      cases hc140 : F_M_through n v2 v4 v1 st with
      | none => rw [hc140] at hF; cases hF
      | some u140 =>
        obtain ⟨r140, st140⟩ := u140
        rw [hc140] at hF
        replace hF := zbind hF
        refine zr_callV (rest := []) S zT_good (C_M_through hn hD l v2 v4 v1 st (r140, st140) hc140) zn_M_through zx_108 ⟨rfl, rfl⟩ ⟨Nat.le_of_ble_eq_true rfl, Nat.le_of_ble_eq_true rfl⟩ ⟨Nat.zero_le _, Nat.zero_le _⟩ hK (zr_recv hK hP zkm_0 rfl rfl) hP hl.1 (Nat.le_of_ble_eq_true rfl) hS (fun _ h => h) d_M_hear_140 rfl (fun o H locs hpo _ _ hS => ?_)
        obtain ⟨rfl, hP⟩ := hpo
        refine W.eq (g2 := F0 m 143 ls [.int r140]) rfl ?_
        replace hF : F_M_hear_L107_s1 n v1 v2 v3 v4 v6 r140 st140 = some out := hF
        replace hP : zV (dC, dI) zcl zKm ad (zmE n cI cZ ad) st140 H := hP
        unfold F_M_hear_L107_s1 at hF
        refine lv_aload_n S.1 S.2.1 d_M_hear_143 rfl (lv_at hl 0 rfl) ?_
        refine zr_get (v := .ref (ad (2, 0))) S zi_M hK hP zkm_0 rfl rfl 2 (by decide) zx_25 rfl d_M_hear_144 ?_
        refine lv_iload S.1 S.2.1 d_M_hear_147 (lv_at hl 5 rfl) ?_
        by_cases g149 : zOut v6 36
        · rw [if_pos g149] at hF; cases hF
        rw [if_neg g149] at hF
        refine zr_iald S hK hP zkm_2 rfl 0 rfl g149 d_M_hear_149 ?_
        refine lv_icmp_le (tgt := 161) S.1 S.2.1 d_M_hear_150 (by decide) (fun h150 => ?_) (fun h150 => ?_)
        · rw [if_pos h150] at hF
          exact T_M_hear_L161 hn hD S hret hlk hK out v1 v2 v3 v4 v6 st140 _ _ _ hP hS (lv_sub hl [0, 1, 2, 3, 4, 5] rfl) hF
        · rw [if_neg h150] at hF
          refine lv_aload_n S.1 S.2.1 d_M_hear_153 rfl (lv_at hl 0 rfl) ?_
          refine zr_get (v := .ref (ad (7, 0))) S zi_M hK hP zkm_0 rfl rfl 7 (by decide) zx_30 rfl d_M_hear_154 ?_
          refine lv_iload S.1 S.2.1 d_M_hear_157 (lv_at hl 5 rfl) ?_
          refine lv_iconst (v := 1) S.1 S.2.1 d_M_hear_159 (by decide) ?_
          by_cases g160 : zOut v6 36
          · rw [if_pos g160] at hF; cases hF
          rw [if_neg g160] at hF
          refine zr_zast S hK hP hD hS zkm_7 (fun _ => rfl) 1 rfl g160 (by decide) d_M_hear_160 (fun H locs hP hS => ?_)
          replace hF : F_M_hear_L107_s2 n v1 v2 v3 v4 v6 (zs st140 7 0 (Int32.toNatClampNeg v6) 1) = some out := hF
          generalize zs st140 7 0 (Int32.toNatClampNeg v6) 1 = st161 at hP hF
          unfold F_M_hear_L107_s2 at hF
          exact T_M_hear_L161 hn hD S hret hlk hK out v1 v2 v3 v4 v6 st161 _ _ _ hP hS (lv_sub hl [0, 1, 2, 3, 4, 5] rfl) hF
  · rw [if_pos h109] at hF
    refine lv_aload_n S.1 S.2.1 d_M_hear_112 rfl (lv_at hl 0 rfl) ?_
    refine lv_iload_n S.1 S.2.1 d_M_hear_113 rfl (lv_at hl 2 rfl) ?_
    refine lv_iload_n S.1 S.2.1 d_M_hear_114 rfl (lv_at hl 1 rfl) ?_
    refine lv_iconst (v := 2) S.1 S.2.1 d_M_hear_115 (by decide) ?_
    refine lv_iload S.1 S.2.1 d_M_hear_116 (lv_at hl 4 rfl) ?_
    cases hc118 : F_M_send n v2 v1 2 v4 st with
    | none => rw [hc118] at hF; cases hF
    | some u118 =>
      obtain ⟨r118, st118⟩ := u118
      rw [hc118] at hF
      replace hF := zbind hF
      refine zr_callV (rest := []) S zT_good (C_M_send hn hD l v2 v1 2 v4 st (r118, st118) hc118) zn_M_send zx_107 ⟨rfl, rfl⟩ ⟨Nat.le_of_ble_eq_true rfl, Nat.le_of_ble_eq_true rfl⟩ ⟨Nat.zero_le _, Nat.zero_le _⟩ hK (zr_recv hK hP zkm_0 rfl rfl) hP hl.1 (Nat.le_of_ble_eq_true rfl) hS (fun _ h => h) d_M_hear_118 rfl (fun o H locs hpo _ _ hS => ?_)
      obtain ⟨rfl, hP⟩ := hpo
      refine W.eq (g2 := F0 m 121 ls []) rfl ?_
      replace hF : F_M_hear_L107_s3 n v1 v2 v3 v4 v6 st118 = some out := hF
      replace hP : zV (dC, dI) zcl zKm ad (zmE n cI cZ ad) st118 H := hP
      unfold F_M_hear_L107_s3 at hF
      refine lv_goto (tgt := 161) S.1 S.2.1 d_M_hear_121 (by decide) ?_
      exact T_M_hear_L161 hn hD S hret hlk hK out v1 v2 v3 v4 v6 st118 _ _ _ hP hS (lv_sub hl [0, 1, 2, 3, 4, 5] rfl) hF

set_option maxHeartbeats 4000000 in
set_option maxRecDepth 1000000 in
theorem C_M_hear {dC : Nat → ClassId} {dI : Nat → Nat → Nat} {cI cZ cR cA : ClassId} {n : Nat} {ad : zK → Nat} {A : Nat → Prop} (hn : 2 ≤ n ∧ n ≤ 6) (hD : zD A zKm ad) (l : Launch) (v1 : Int32) (v2 : Int32) (v3 : Int32) (v4 : Int32) (v5 : Int32) (st : zS) (out : Int32 × zS) (hF : F_M_hear n v1 v2 v3 v4 v5 st = some out) : zC zT (dC, dI) zcl (zty cI cZ cR cA) A l y_M_hear b_M_hear 7 (none) rm_M_hear [.ref (ad (0, 0)), .int v1, .int v2, .int v3, .int v4, .int v5] (fun H => zV (dC, dI) zcl zKm ad (zmE n cI cZ ad) st H) (fun o H => o = none ∧ zV (dC, dI) zcl zKm ad (zmE n cI cZ ad) out.2 H) := by
  refine zC_of (by decide) (Nat.le_of_ble_eq_true rfl) (fun p e s m args below meth c ls S hret hlk hK hP hl => ?_)
  have hS : va_S A s.heap s.heap [] := va_S.rf
  have hl : lv_has ls 7 [(0, .ref (ad (0, 0))), (1, .int v1), (2, .int v2), (3, .int v3), (4, .int v4), (5, .int v5)] := hl
  have hP : zV (dC, dI) zcl zKm ad (zmE n cI cZ ad) st s.heap := hP
  unfold F_M_hear at hF
  refine lv_bipush (v := 6) S.1 S.2.1 d_M_hear_0 (by decide) ?_
  refine lv_iload_n S.1 S.2.1 d_M_hear_2 rfl (lv_at hl 2 rfl) ?_
  refine lv_imul S.1 S.2.1 d_M_hear_3 ?_
  refine lv_iload S.1 S.2.1 d_M_hear_4 (lv_at hl 4 rfl) ?_
  refine lv_iadd S.1 S.2.1 d_M_hear_6 ?_
  refine lv_istore S.1 S.2.1 d_M_hear_7 hl (by decide) rfl (fun ls hl => ?_)
  have hl : lv_has ls 7 [(6, .int ((6 * v2) + v4)), (0, .ref (ad (0, 0))), (1, .int v1), (2, .int v2), (3, .int v3), (4, .int v4), (5, .int v5)] := hl
  refine lv_iload_n S.1 S.2.1 d_M_hear_9 rfl (lv_at hl 3 rfl) ?_
  refine lv_iload S.1 S.2.1 d_M_hear_10 (lv_at hl 5 rfl) ?_
  refine lv_icmp_ne (tgt := 30) S.1 S.2.1 d_M_hear_12 (by decide) (fun h12 => ?_) (fun h12 => ?_)
  · rw [if_neg h12] at hF
    refine lv_aload_n S.1 S.2.1 d_M_hear_30 rfl (lv_at hl 1 rfl) ?_
    refine zr_get (v := .ref (ad (8, 0))) S zi_M hK hP zkm_0 rfl rfl 8 (by decide) zx_31 rfl d_M_hear_31 ?_
    refine lv_bipush (v := 36) S.1 S.2.1 d_M_hear_34 (by decide) ?_
    refine lv_iload_n S.1 S.2.1 d_M_hear_36 rfl (lv_at hl 2 rfl) ?_
    refine lv_imul S.1 S.2.1 d_M_hear_37 ?_
    refine lv_iload S.1 S.2.1 d_M_hear_38 (lv_at hl 0 rfl) ?_
    refine lv_iadd S.1 S.2.1 d_M_hear_40 ?_
    refine lv_iload S.1 S.2.1 d_M_hear_41 (lv_at hl 6 rfl) ?_
    by_cases g43 : zOut ((36 * v1) + ((6 * v2) + v4)) 216
    · rw [if_pos g43] at hF; cases hF
    rw [if_neg g43] at hF
    refine zr_iast S hK hP hD hS zkm_8 (fun _ => rfl) 0 rfl g43 d_M_hear_43 (fun H locs hP hS => ?_)
    replace hF : F_M_hear_s1 n ((6 * v2) + v4) v1 v2 v3 v4 (zs st 8 0 (Int32.toNatClampNeg ((36 * v1) + ((6 * v2) + v4))) v5) = some out := hF
    generalize zs st 8 0 (Int32.toNatClampNeg ((36 * v1) + ((6 * v2) + v4))) v5 = st44 at hP hF
    unfold F_M_hear_s1 at hF
    refine lv_aload_n S.1 S.2.1 d_M_hear_44 rfl (lv_at hl 1 rfl) ?_
    refine zr_get (v := .ref (ad (5, 0))) S zi_M hK hP zkm_0 rfl rfl 5 (by decide) zx_28 rfl d_M_hear_45 ?_
    refine lv_iload S.1 S.2.1 d_M_hear_48 (lv_at hl 0 rfl) ?_
    by_cases g50 : zOut ((6 * v2) + v4) 36
    · rw [if_pos g50] at hF; cases hF
    rw [if_neg g50] at hF
    refine zr_zald S hK hP zkm_5 rfl 1 rfl g50 d_M_hear_50 ?_
    refine lv_if_ne (tgt := 72) S.1 S.2.1 d_M_hear_51 (by decide) (fun h51 => ?_) (fun h51 => ?_)
    · rw [if_neg h51] at hF
      refine lv_iload_n S.1 S.2.1 d_M_hear_72 rfl (lv_at hl 4 rfl) ?_
      refine lv_iconst (v := 1) S.1 S.2.1 d_M_hear_73 (by decide) ?_
      refine lv_icmp_ne (tgt := 107) S.1 S.2.1 d_M_hear_74 (by decide) (fun h74 => ?_) (fun h74 => ?_)
      · rw [if_neg h74] at hF
        exact T_M_hear_L107 hn hD S hret hlk hK out v1 v2 v3 v4 ((6 * v2) + v4) st44 _ _ _ hP hS (lv_sub hl [1, 2, 3, 4, 5, 0] rfl) hF
      · rw [if_pos h74] at hF
        refine lv_iload_n S.1 S.2.1 d_M_hear_77 rfl (lv_at hl 2 rfl) ?_
        refine lv_aload_n S.1 S.2.1 d_M_hear_78 rfl (lv_at hl 1 rfl) ?_
        refine zr_get (v := .ref (ad (4, 0))) S zi_M hK hP zkm_0 rfl rfl 4 (by decide) zx_27 rfl d_M_hear_79 ?_
        refine lv_iload S.1 S.2.1 d_M_hear_82 (lv_at hl 0 rfl) ?_
        by_cases g84 : zOut ((6 * v2) + v4) 36
        · rw [if_pos g84] at hF; cases hF
        rw [if_neg g84] at hF
        refine zr_iald S hK hP zkm_4 rfl 0 rfl g84 d_M_hear_84 ?_
        refine lv_icmp_ne (tgt := 107) S.1 S.2.1 d_M_hear_85 (by decide) (fun h85 => ?_) (fun h85 => ?_)
        · rw [if_neg h85] at hF
          exact T_M_hear_L107 hn hD S hret hlk hK out v1 v2 v3 v4 ((6 * v2) + v4) st44 _ _ _ hP hS (lv_sub hl [1, 2, 3, 4, 5, 0] rfl) hF
        · rw [if_pos h85] at hF
          refine lv_aload_n S.1 S.2.1 d_M_hear_88 rfl (lv_at hl 1 rfl) ?_
          refine zr_get (v := .ref (ad (6, 0))) S zi_M hK hP zkm_0 rfl rfl 6 (by decide) zx_29 rfl d_M_hear_89 ?_
          refine lv_iload S.1 S.2.1 d_M_hear_92 (lv_at hl 0 rfl) ?_
          refine lv_iconst (v := 1) S.1 S.2.1 d_M_hear_94 (by decide) ?_
          by_cases g95 : zOut ((6 * v2) + v4) 36
          · rw [if_pos g95] at hF; cases hF
          rw [if_neg g95] at hF
          refine zr_zast S hK hP hD hS zkm_6 (fun _ => rfl) 1 rfl g95 (by decide) d_M_hear_95 (fun H locs hP hS => ?_)
          replace hF : F_M_hear_s2 n ((6 * v2) + v4) v1 v2 v3 v4 (zs st44 6 0 (Int32.toNatClampNeg ((6 * v2) + v4)) 1) = some out := hF
          generalize zs st44 6 0 (Int32.toNatClampNeg ((6 * v2) + v4)) 1 = st96 at hP hF
          unfold F_M_hear_s2 at hF
          refine lv_aload_n S.1 S.2.1 d_M_hear_96 rfl (lv_at hl 1 rfl) ?_
          refine zr_get (v := .ref (ad (7, 0))) S zi_M hK hP zkm_0 rfl rfl 7 (by decide) zx_30 rfl d_M_hear_97 ?_
          refine lv_iload S.1 S.2.1 d_M_hear_100 (lv_at hl 0 rfl) ?_
          refine lv_iconst (v := 1) S.1 S.2.1 d_M_hear_102 (by decide) ?_
          by_cases g103 : zOut ((6 * v2) + v4) 36
          · rw [if_pos g103] at hF; cases hF
          rw [if_neg g103] at hF
          refine zr_zast S hK hP hD hS zkm_7 (fun _ => rfl) 1 rfl g103 (by decide) d_M_hear_103 (fun H locs hP hS => ?_)
          replace hF : F_M_hear_s3 n ((6 * v2) + v4) v1 v2 v3 v4 (zs st96 7 0 (Int32.toNatClampNeg ((6 * v2) + v4)) 1) = some out := hF
          generalize zs st96 7 0 (Int32.toNatClampNeg ((6 * v2) + v4)) 1 = st104 at hP hF
          unfold F_M_hear_s3 at hF
          refine lv_goto (tgt := 161) S.1 S.2.1 d_M_hear_104 (by decide) ?_
          exact T_M_hear_L161 hn hD S hret hlk hK out v1 v2 v3 v4 ((6 * v2) + v4) st104 _ _ _ hP hS (lv_sub hl [1, 2, 3, 4, 5, 0] rfl) hF
    · rw [if_pos h51] at hF
      refine lv_aload_n S.1 S.2.1 d_M_hear_54 rfl (lv_at hl 1 rfl) ?_
      refine lv_iload_n S.1 S.2.1 d_M_hear_55 rfl (lv_at hl 3 rfl) ?_
      refine lv_iload S.1 S.2.1 d_M_hear_56 (lv_at hl 5 rfl) ?_
      refine lv_iload_n S.1 S.2.1 d_M_hear_58 rfl (lv_at hl 4 rfl) ?_
      refine lv_iconst (v := 1) S.1 S.2.1 d_M_hear_59 (by decide) ?_
      refine lv_icmp_ne (tgt := 67) S.1 S.2.1 d_M_hear_60 (by decide) (fun h60 => ?_) (fun h60 => ?_)
      · rw [if_neg h60] at hF
        refine lv_iconst (v := (-1)) S.1 S.2.1 d_M_hear_67 (by decide) ?_
        exact T_M_hear_L68 hn hD S hret hlk hK out v2 v4 (-1) st44 _ _ _ hP hS (lv_sub hl [] rfl) hF
      · rw [if_pos h60] at hF
        refine lv_iload_n S.1 S.2.1 d_M_hear_63 rfl (lv_at hl 2 rfl) ?_
        refine lv_goto (tgt := 68) S.1 S.2.1 d_M_hear_64 (by decide) ?_
        exact T_M_hear_L68 hn hD S hret hlk hK out v2 v4 v1 st44 _ _ _ hP hS (lv_sub hl [] rfl) hF
  · rw [if_pos h12] at hF
    refine lv_iload_n S.1 S.2.1 d_M_hear_15 rfl (lv_at hl 4 rfl) ?_
    refine lv_iconst (v := 1) S.1 S.2.1 d_M_hear_16 (by decide) ?_
    refine lv_icmp_ne (tgt := 29) S.1 S.2.1 d_M_hear_17 (by decide) (fun h17 => ?_) (fun h17 => ?_)
    · rw [if_neg h17] at hF
      cases hF
      exact zr_vret S hret hlk hS d_M_hear_29 ⟨rfl, hP⟩
    · rw [if_pos h17] at hF
      refine lv_aload_n S.1 S.2.1 d_M_hear_20 rfl (lv_at hl 1 rfl) ?_
      refine lv_iload_n S.1 S.2.1 d_M_hear_21 rfl (lv_at hl 3 rfl) ?_
      refine lv_iload_n S.1 S.2.1 d_M_hear_22 rfl (lv_at hl 2 rfl) ?_
      refine lv_iconst (v := 2) S.1 S.2.1 d_M_hear_23 (by decide) ?_
      refine lv_iload S.1 S.2.1 d_M_hear_24 (lv_at hl 5 rfl) ?_
      cases hc26 : F_M_send n v2 v1 2 v4 st with
      | none => rw [hc26] at hF; cases hF
      | some u26 =>
        obtain ⟨r26, st26⟩ := u26
        rw [hc26] at hF
        replace hF := zbind hF
        refine zr_callV (rest := []) S zT_good (C_M_send hn hD l v2 v1 2 v4 st (r26, st26) hc26) zn_M_send zx_107 ⟨rfl, rfl⟩ ⟨Nat.le_of_ble_eq_true rfl, Nat.le_of_ble_eq_true rfl⟩ ⟨Nat.zero_le _, Nat.zero_le _⟩ hK (zr_recv hK hP zkm_0 rfl rfl) hP hl.1 (Nat.le_of_ble_eq_true rfl) hS (fun _ h => h) d_M_hear_26 rfl (fun o H locs hpo _ _ hS => ?_)
        obtain ⟨rfl, hP⟩ := hpo
        refine W.eq (g2 := F0 m 29 ls []) rfl ?_
        replace hF : F_M_hear_s4 n st26 = some out := hF
        replace hP : zV (dC, dI) zcl zKm ad (zmE n cI cZ ad) st26 H := hP
        unfold F_M_hear_s4 at hF
        cases hF
        exact zr_vret S hret hlk hS d_M_hear_29 ⟨rfl, hP⟩

theorem d_M_recost_0 : decode b_M_recost 0 = .ok (.iconst 0, 1) := by decide +kernel
theorem d_M_recost_1 : decode b_M_recost 1 = .ok (.istore_n 3, 1) := by decide +kernel
theorem d_M_recost_2 : decode b_M_recost 2 = .ok (.iload_n 3, 1) := by decide +kernel
theorem d_M_recost_3 : decode b_M_recost 3 = .ok (.aload_n 0, 1) := by decide +kernel
theorem d_M_recost_4 : decode b_M_recost 4 = .ok (.getfield 56, 3) := by decide +kernel
theorem d_M_recost_7 : decode b_M_recost 7 = .ok (.if_icmp .ge 83, 3) := by decide +kernel
theorem d_M_recost_10 : decode b_M_recost 10 = .ok (.bipush 6, 2) := by decide +kernel
theorem d_M_recost_12 : decode b_M_recost 12 = .ok (.iload_n 1, 1) := by decide +kernel
theorem d_M_recost_13 : decode b_M_recost 13 = .ok (.imul, 1) := by decide +kernel
theorem d_M_recost_14 : decode b_M_recost 14 = .ok (.iload_n 3, 1) := by decide +kernel
theorem d_M_recost_15 : decode b_M_recost 15 = .ok (.iadd, 1) := by decide +kernel
theorem d_M_recost_16 : decode b_M_recost 16 = .ok (.istore 4, 2) := by decide +kernel
theorem d_M_recost_18 : decode b_M_recost 18 = .ok (.iload_n 3, 1) := by decide +kernel
theorem d_M_recost_19 : decode b_M_recost 19 = .ok (.iload_n 1, 1) := by decide +kernel
theorem d_M_recost_20 : decode b_M_recost 20 = .ok (.if_icmp .eq 23, 3) := by decide +kernel
theorem d_M_recost_23 : decode b_M_recost 23 = .ok (.aload_n 0, 1) := by decide +kernel
theorem d_M_recost_24 : decode b_M_recost 24 = .ok (.getfield 22, 3) := by decide +kernel
theorem d_M_recost_27 : decode b_M_recost 27 = .ok (.iload 4, 2) := by decide +kernel
theorem d_M_recost_29 : decode b_M_recost 29 = .ok (.baload, 1) := by decide +kernel
theorem d_M_recost_30 : decode b_M_recost 30 = .ok (.ifCond .ne 13, 3) := by decide +kernel
theorem d_M_recost_33 : decode b_M_recost 33 = .ok (.aload_n 0, 1) := by decide +kernel
theorem d_M_recost_34 : decode b_M_recost 34 = .ok (.iload_n 1, 1) := by decide +kernel
theorem d_M_recost_35 : decode b_M_recost 35 = .ok (.iload_n 3, 1) := by decide +kernel
theorem d_M_recost_36 : decode b_M_recost 36 = .ok (.iconst (-1), 1) := by decide +kernel
theorem d_M_recost_37 : decode b_M_recost 37 = .ok (.invokevirtual 101, 3) := by decide +kernel
theorem d_M_recost_40 : decode b_M_recost 40 = .ok (.goto 44, 3) := by decide +kernel
theorem d_M_recost_43 : decode b_M_recost 43 = .ok (.iload_n 3, 1) := by decide +kernel
theorem d_M_recost_44 : decode b_M_recost 44 = .ok (.iload_n 1, 1) := by decide +kernel
theorem d_M_recost_45 : decode b_M_recost 45 = .ok (.if_icmp .eq 39, 3) := by decide +kernel
theorem d_M_recost_48 : decode b_M_recost 48 = .ok (.aload_n 0, 1) := by decide +kernel
theorem d_M_recost_49 : decode b_M_recost 49 = .ok (.getfield 19, 3) := by decide +kernel
theorem d_M_recost_52 : decode b_M_recost 52 = .ok (.iload 4, 2) := by decide +kernel
theorem d_M_recost_54 : decode b_M_recost 54 = .ok (.iaload, 1) := by decide +kernel
theorem d_M_recost_55 : decode b_M_recost 55 = .ok (.iload_n 2, 1) := by decide +kernel
theorem d_M_recost_56 : decode b_M_recost 56 = .ok (.if_icmp .ne 28, 3) := by decide +kernel
theorem d_M_recost_59 : decode b_M_recost 59 = .ok (.aload_n 0, 1) := by decide +kernel
theorem d_M_recost_60 : decode b_M_recost 60 = .ok (.iload_n 1, 1) := by decide +kernel
theorem d_M_recost_61 : decode b_M_recost 61 = .ok (.iload_n 3, 1) := by decide +kernel
theorem d_M_recost_62 : decode b_M_recost 62 = .ok (.iload_n 2, 1) := by decide +kernel
theorem d_M_recost_63 : decode b_M_recost 63 = .ok (.invokevirtual 71, 3) := by decide +kernel
theorem d_M_recost_66 : decode b_M_recost 66 = .ok (.aload_n 0, 1) := by decide +kernel
theorem d_M_recost_67 : decode b_M_recost 67 = .ok (.getfield 13, 3) := by decide +kernel
theorem d_M_recost_70 : decode b_M_recost 70 = .ok (.iload 4, 2) := by decide +kernel
theorem d_M_recost_72 : decode b_M_recost 72 = .ok (.iaload, 1) := by decide +kernel
theorem d_M_recost_73 : decode b_M_recost 73 = .ok (.if_icmp .le 11, 3) := by decide +kernel
theorem d_M_recost_76 : decode b_M_recost 76 = .ok (.aload_n 0, 1) := by decide +kernel
theorem d_M_recost_77 : decode b_M_recost 77 = .ok (.getfield 29, 3) := by decide +kernel
theorem d_M_recost_80 : decode b_M_recost 80 = .ok (.iload 4, 2) := by decide +kernel
theorem d_M_recost_82 : decode b_M_recost 82 = .ok (.iconst 1, 1) := by decide +kernel
theorem d_M_recost_83 : decode b_M_recost 83 = .ok (.bastore, 1) := by decide +kernel
theorem d_M_recost_84 : decode b_M_recost 84 = .ok (.iinc 3 1, 3) := by decide +kernel
theorem d_M_recost_87 : decode b_M_recost 87 = .ok (.goto (-85), 3) := by decide +kernel
theorem d_M_recost_90 : decode b_M_recost 90 = .ok (.return_, 1) := by decide +kernel
def F_M_recost_L84 (n : Nat) (c2 : Int32 → Int32 → Int32 → zS → Option (Int32 × zS)) (v1 : Int32) (v2 : Int32) (v3 : Int32) (st : zS) : Option (Int32 × zS) :=
    c2 v1 v2 (v3 + 1) st

def F_M_recost_L43_s2 (n : Nat) (c2 : Int32 → Int32 → Int32 → zS → Option (Int32 × zS)) (v1 : Int32) (v2 : Int32) (v3 : Int32) (st : zS) : Option (Int32 × zS) :=
    F_M_recost_L84 n c2 v1 v2 v3 st

def F_M_recost_L43_s1 (n : Nat) (c2 : Int32 → Int32 → Int32 → zS → Option (Int32 × zS)) (v1 : Int32) (v2 : Int32) (v3 : Int32) (v4 : Int32) (t0 : Int32) (st : zS) : Option (Int32 × zS) :=
    if zOut v4 36 then none else if t0 ≤ (st 2 0 (Int32.toNatClampNeg v4)) then (F_M_recost_L84 n c2 v1 v2 v3 st) else (if zOut v4 36 then none else F_M_recost_L43_s2 n c2 v1 v2 v3 (zs st 7 0 (Int32.toNatClampNeg v4) 1))

def F_M_recost_L43 (n : Nat) (c2 : Int32 → Int32 → Int32 → zS → Option (Int32 × zS)) (v1 : Int32) (v2 : Int32) (v3 : Int32) (v4 : Int32) (st : zS) : Option (Int32 × zS) :=
    if v3 = v1 then (F_M_recost_L84 n c2 v1 v2 v3 st) else (if zOut v4 36 then none else if (st 4 0 (Int32.toNatClampNeg v4)) = v2 then ((F_M_through n v1 v3 v2 st).bind (fun u => F_M_recost_L43_s1 n c2 v1 v2 v3 v4 u.1 u.2)) else (F_M_recost_L84 n c2 v1 v2 v3 st))

def F_M_recost_L2_s1 (n : Nat) (c2 : Int32 → Int32 → Int32 → zS → Option (Int32 × zS)) (v1 : Int32) (v2 : Int32) (v3 : Int32) (st : zS) : Option (Int32 × zS) :=
    F_M_recost_L84 n c2 v1 v2 v3 st

def F_M_recost_L2 (n : Nat) : Nat → Int32 → Int32 → Int32 → zS → Option (Int32 × zS)
  | 0, _, _, _, _ => none
  | f + 1, v1, v2, v3, st =>
    if (nI n) ≤ v3 then (some (0, st)) else (if v3 = v1 then (F_M_recost_L43 n (F_M_recost_L2 n f) v1 v2 v3 ((6 * v1) + v3) st) else (if zOut ((6 * v1) + v3) 36 then none else if (st 5 0 (Int32.toNatClampNeg ((6 * v1) + v3))) = 0 then ((F_M_look n v1 v3 (-1) st).bind (fun u => F_M_recost_L2_s1 n (F_M_recost_L2 n f) v1 v2 v3 u.2)) else (F_M_recost_L43 n (F_M_recost_L2 n f) v1 v2 v3 ((6 * v1) + v3) st)))

def F_M_recost (n : Nat) (v1 : Int32) (v2 : Int32) (st : zS) : Option (Int32 × zS) :=
    F_M_recost_L2 n zFuel v1 v2 0 st

set_option maxHeartbeats 4000000 in
set_option maxRecDepth 1000000 in
theorem T_M_recost_L84 {dC : Nat → ClassId} {dI : Nat → Nat → Nat} {cI cZ cR cA : ClassId} {n : Nat} {ad : zK → Nat} {A : Nat → Prop} (hn : 2 ≤ n ∧ n ≤ 6) (hD : zD A zKm ad) {p : Program} {l : Launch} {e : Env} {s : State} {m : MethodId} {args : Array Value} {below : List Frame} {meth : Method} {c : Code} (S : CallFix p m c b_M_recost 5 s args zT N_M) (hret : meth.sig.returnType = none) (hlk : meth.locks = false) (hK : va_K (dC, dI) zcl (zty cI cZ cR cA) s) (out : Int32 × zS) (c2 : Int32 → Int32 → Int32 → zS → Option (Int32 × zS)) (hc2 : ∀ (v1 : Int32) (v2 : Int32) (v3 : Int32) (st : zS) (H : Heap) (locs : List Loc) (ls : Array Slot), zV (dC, dI) zcl zKm ad (zmE n cI cZ ad) st H → va_S A s.heap H locs → lv_has ls 5 [(0, .ref (ad (0, 0))), (1, .int v1), (2, .int v2), (3, .int v3)] → c2 v1 v2 v3 st = some out → W p l e rm_M_recost s m args below meth c H locs 0 0 (zQ below A (fun o H => o = none ∧ zV (dC, dI) zcl zKm ad (zmE n cI cZ ad) out.2 H) args s) (F0 m 2 ls [])) (v1 : Int32) (v2 : Int32) (v3 : Int32) (st : zS) (H : Heap) (locs : List Loc) (ls : Array Slot) (hP : zV (dC, dI) zcl zKm ad (zmE n cI cZ ad) st H) (hS : va_S A s.heap H locs) (hl : lv_has ls 5 [(0, .ref (ad (0, 0))), (1, .int v1), (2, .int v2), (3, .int v3)]) (hF : F_M_recost_L84 n c2 v1 v2 v3 st = some out) : W p l e rm_M_recost s m args below meth c H locs 0 0 (zQ below A (fun o H => o = none ∧ zV (dC, dI) zcl zKm ad (zmE n cI cZ ad) out.2 H) args s) (F0 m 84 ls []) := by
  unfold F_M_recost_L84 at hF
  refine lv_iinc (k := 3) (v := v3 + 1) S.1 S.2.1 d_M_recost_84 hl rfl rfl (by decide) rfl (fun ls hl => ?_)
  have hl : lv_has ls 5 [(3, .int (v3 + 1)), (0, .ref (ad (0, 0))), (1, .int v1), (2, .int v2)] := hl
  refine lv_goto (tgt := 2) S.1 S.2.1 d_M_recost_87 (by decide) ?_
  exact hc2 v1 v2 (v3 + 1) st _ _ _ hP hS (lv_sub hl [1, 2, 3, 0] rfl) hF

set_option maxHeartbeats 4000000 in
set_option maxRecDepth 1000000 in
theorem T_M_recost_L43 {dC : Nat → ClassId} {dI : Nat → Nat → Nat} {cI cZ cR cA : ClassId} {n : Nat} {ad : zK → Nat} {A : Nat → Prop} (hn : 2 ≤ n ∧ n ≤ 6) (hD : zD A zKm ad) {p : Program} {l : Launch} {e : Env} {s : State} {m : MethodId} {args : Array Value} {below : List Frame} {meth : Method} {c : Code} (S : CallFix p m c b_M_recost 5 s args zT N_M) (hret : meth.sig.returnType = none) (hlk : meth.locks = false) (hK : va_K (dC, dI) zcl (zty cI cZ cR cA) s) (out : Int32 × zS) (c2 : Int32 → Int32 → Int32 → zS → Option (Int32 × zS)) (hc2 : ∀ (v1 : Int32) (v2 : Int32) (v3 : Int32) (st : zS) (H : Heap) (locs : List Loc) (ls : Array Slot), zV (dC, dI) zcl zKm ad (zmE n cI cZ ad) st H → va_S A s.heap H locs → lv_has ls 5 [(0, .ref (ad (0, 0))), (1, .int v1), (2, .int v2), (3, .int v3)] → c2 v1 v2 v3 st = some out → W p l e rm_M_recost s m args below meth c H locs 0 0 (zQ below A (fun o H => o = none ∧ zV (dC, dI) zcl zKm ad (zmE n cI cZ ad) out.2 H) args s) (F0 m 2 ls [])) (v1 : Int32) (v2 : Int32) (v3 : Int32) (v4 : Int32) (st : zS) (H : Heap) (locs : List Loc) (ls : Array Slot) (hP : zV (dC, dI) zcl zKm ad (zmE n cI cZ ad) st H) (hS : va_S A s.heap H locs) (hl : lv_has ls 5 [(0, .ref (ad (0, 0))), (1, .int v1), (2, .int v2), (3, .int v3), (4, .int v4)]) (hF : F_M_recost_L43 n c2 v1 v2 v3 v4 st = some out) : W p l e rm_M_recost s m args below meth c H locs 0 0 (zQ below A (fun o H => o = none ∧ zV (dC, dI) zcl zKm ad (zmE n cI cZ ad) out.2 H) args s) (F0 m 43 ls []) := by
  unfold F_M_recost_L43 at hF
  refine lv_iload_n S.1 S.2.1 d_M_recost_43 rfl (lv_at hl 3 rfl) ?_
  refine lv_iload_n S.1 S.2.1 d_M_recost_44 rfl (lv_at hl 1 rfl) ?_
  refine lv_icmp_eq (tgt := 84) S.1 S.2.1 d_M_recost_45 (by decide) (fun h45 => ?_) (fun h45 => ?_)
  · rw [if_pos h45] at hF
    exact T_M_recost_L84 hn hD S hret hlk hK out c2 hc2 v1 v2 v3 st _ _ _ hP hS (lv_sub hl [0, 1, 2, 3] rfl) hF
  · rw [if_neg h45] at hF
    refine lv_aload_n S.1 S.2.1 d_M_recost_48 rfl (lv_at hl 0 rfl) ?_
    refine zr_get (v := .ref (ad (4, 0))) S zi_M hK hP zkm_0 rfl rfl 4 (by decide) zx_27 rfl d_M_recost_49 ?_
    refine lv_iload S.1 S.2.1 d_M_recost_52 (lv_at hl 4 rfl) ?_
    by_cases g54 : zOut v4 36
    · rw [if_pos g54] at hF; cases hF
    rw [if_neg g54] at hF
    refine zr_iald S hK hP zkm_4 rfl 0 rfl g54 d_M_recost_54 ?_
    refine lv_iload_n S.1 S.2.1 d_M_recost_55 rfl (lv_at hl 2 rfl) ?_
    refine lv_icmp_ne (tgt := 84) S.1 S.2.1 d_M_recost_56 (by decide) (fun h56 => ?_) (fun h56 => ?_)
    · rw [if_neg h56] at hF
      exact T_M_recost_L84 hn hD S hret hlk hK out c2 hc2 v1 v2 v3 st _ _ _ hP hS (lv_sub hl [0, 1, 2, 3] rfl) hF
    · rw [if_pos h56] at hF
      refine lv_aload_n S.1 S.2.1 d_M_recost_59 rfl (lv_at hl 0 rfl) ?_
      refine lv_iload_n S.1 S.2.1 d_M_recost_60 rfl (lv_at hl 1 rfl) ?_
      refine lv_iload_n S.1 S.2.1 d_M_recost_61 rfl (lv_at hl 3 rfl) ?_
      refine lv_iload_n S.1 S.2.1 d_M_recost_62 rfl (lv_at hl 2 rfl) ?_
      cases hc63 : F_M_through n v1 v3 v2 st with
      | none => rw [hc63] at hF; cases hF
      | some u63 =>
        obtain ⟨r63, st63⟩ := u63
        rw [hc63] at hF
        replace hF := zbind hF
        refine zr_callV (rest := []) S zT_good (C_M_through hn hD l v1 v3 v2 st (r63, st63) hc63) zn_M_through zx_108 ⟨rfl, rfl⟩ ⟨Nat.le_of_ble_eq_true rfl, Nat.le_of_ble_eq_true rfl⟩ ⟨Nat.zero_le _, Nat.zero_le _⟩ hK (zr_recv hK hP zkm_0 rfl rfl) hP hl.1 (Nat.le_of_ble_eq_true rfl) hS (fun _ h => h) d_M_recost_63 rfl (fun o H locs hpo _ _ hS => ?_)
        obtain ⟨rfl, hP⟩ := hpo
        refine W.eq (g2 := F0 m 66 ls [.int r63]) rfl ?_
        replace hF : F_M_recost_L43_s1 n c2 v1 v2 v3 v4 r63 st63 = some out := hF
        replace hP : zV (dC, dI) zcl zKm ad (zmE n cI cZ ad) st63 H := hP
        unfold F_M_recost_L43_s1 at hF
        refine lv_aload_n S.1 S.2.1 d_M_recost_66 rfl (lv_at hl 0 rfl) ?_
        refine zr_get (v := .ref (ad (2, 0))) S zi_M hK hP zkm_0 rfl rfl 2 (by decide) zx_25 rfl d_M_recost_67 ?_
        refine lv_iload S.1 S.2.1 d_M_recost_70 (lv_at hl 4 rfl) ?_
        by_cases g72 : zOut v4 36
        · rw [if_pos g72] at hF; cases hF
        rw [if_neg g72] at hF
        refine zr_iald S hK hP zkm_2 rfl 0 rfl g72 d_M_recost_72 ?_
        refine lv_icmp_le (tgt := 84) S.1 S.2.1 d_M_recost_73 (by decide) (fun h73 => ?_) (fun h73 => ?_)
        · rw [if_pos h73] at hF
          exact T_M_recost_L84 hn hD S hret hlk hK out c2 hc2 v1 v2 v3 st63 _ _ _ hP hS (lv_sub hl [0, 1, 2, 3] rfl) hF
        · rw [if_neg h73] at hF
          refine lv_aload_n S.1 S.2.1 d_M_recost_76 rfl (lv_at hl 0 rfl) ?_
          refine zr_get (v := .ref (ad (7, 0))) S zi_M hK hP zkm_0 rfl rfl 7 (by decide) zx_30 rfl d_M_recost_77 ?_
          refine lv_iload S.1 S.2.1 d_M_recost_80 (lv_at hl 4 rfl) ?_
          refine lv_iconst (v := 1) S.1 S.2.1 d_M_recost_82 (by decide) ?_
          by_cases g83 : zOut v4 36
          · rw [if_pos g83] at hF; cases hF
          rw [if_neg g83] at hF
          refine zr_zast S hK hP hD hS zkm_7 (fun _ => rfl) 1 rfl g83 (by decide) d_M_recost_83 (fun H locs hP hS => ?_)
          replace hF : F_M_recost_L43_s2 n c2 v1 v2 v3 (zs st63 7 0 (Int32.toNatClampNeg v4) 1) = some out := hF
          generalize zs st63 7 0 (Int32.toNatClampNeg v4) 1 = st84 at hP hF
          unfold F_M_recost_L43_s2 at hF
          exact T_M_recost_L84 hn hD S hret hlk hK out c2 hc2 v1 v2 v3 st84 _ _ _ hP hS (lv_sub hl [0, 1, 2, 3] rfl) hF

set_option maxHeartbeats 4000000 in
set_option maxRecDepth 1000000 in
theorem T_M_recost_L2 {dC : Nat → ClassId} {dI : Nat → Nat → Nat} {cI cZ cR cA : ClassId} {n : Nat} {ad : zK → Nat} {A : Nat → Prop} (hn : 2 ≤ n ∧ n ≤ 6) (hD : zD A zKm ad) {p : Program} {l : Launch} {e : Env} {s : State} {m : MethodId} {args : Array Value} {below : List Frame} {meth : Method} {c : Code} (S : CallFix p m c b_M_recost 5 s args zT N_M) (hret : meth.sig.returnType = none) (hlk : meth.locks = false) (hK : va_K (dC, dI) zcl (zty cI cZ cR cA) s) (out : Int32 × zS) : ∀ (fu : Nat) (v1 : Int32) (v2 : Int32) (v3 : Int32) (st : zS) (H : Heap) (locs : List Loc) (ls : Array Slot) (hP : zV (dC, dI) zcl zKm ad (zmE n cI cZ ad) st H) (hS : va_S A s.heap H locs) (hl : lv_has ls 5 [(0, .ref (ad (0, 0))), (1, .int v1), (2, .int v2), (3, .int v3)]) (hF : F_M_recost_L2 n fu v1 v2 v3 st = some out), W p l e rm_M_recost s m args below meth c H locs 0 0 (zQ below A (fun o H => o = none ∧ zV (dC, dI) zcl zKm ad (zmE n cI cZ ad) out.2 H) args s) (F0 m 2 ls []) := by
  intro fu
  induction fu with
  | zero => intro v1 v2 v3 st H locs ls hP hS hl hF; rw [F_M_recost_L2] at hF; cases hF
  | succ f ih =>
    intro v1 v2 v3 st H locs ls hP hS hl hF
    rw [F_M_recost_L2] at hF
    refine lv_iload_n S.1 S.2.1 d_M_recost_2 rfl (lv_at hl 3 rfl) ?_
    refine lv_aload_n S.1 S.2.1 d_M_recost_3 rfl (lv_at hl 0 rfl) ?_
    refine zr_get (v := .int (nI n)) S zi_M hK hP zkm_0 rfl rfl 0 (by decide) zx_39 rfl d_M_recost_4 ?_
    refine lv_icmp_ge (tgt := 90) S.1 S.2.1 d_M_recost_7 (by decide) (fun h7 => ?_) (fun h7 => ?_)
    · rw [if_pos h7] at hF
      cases hF
      exact zr_vret S hret hlk hS d_M_recost_90 ⟨rfl, hP⟩
    · rw [if_neg h7] at hF
      refine lv_bipush (v := 6) S.1 S.2.1 d_M_recost_10 (by decide) ?_
      refine lv_iload_n S.1 S.2.1 d_M_recost_12 rfl (lv_at hl 1 rfl) ?_
      refine lv_imul S.1 S.2.1 d_M_recost_13 ?_
      refine lv_iload_n S.1 S.2.1 d_M_recost_14 rfl (lv_at hl 3 rfl) ?_
      refine lv_iadd S.1 S.2.1 d_M_recost_15 ?_
      refine lv_istore S.1 S.2.1 d_M_recost_16 hl (by decide) rfl (fun ls hl => ?_)
      have hl : lv_has ls 5 [(4, .int ((6 * v1) + v3)), (0, .ref (ad (0, 0))), (1, .int v1), (2, .int v2), (3, .int v3)] := hl
      refine lv_iload_n S.1 S.2.1 d_M_recost_18 rfl (lv_at hl 4 rfl) ?_
      refine lv_iload_n S.1 S.2.1 d_M_recost_19 rfl (lv_at hl 2 rfl) ?_
      refine lv_icmp_eq (tgt := 43) S.1 S.2.1 d_M_recost_20 (by decide) (fun h20 => ?_) (fun h20 => ?_)
      · rw [if_pos h20] at hF
        exact T_M_recost_L43 hn hD S hret hlk hK out (F_M_recost_L2 n f) ih v1 v2 v3 ((6 * v1) + v3) st _ _ _ hP hS (lv_sub hl [1, 2, 3, 4, 0] rfl) hF
      · rw [if_neg h20] at hF
        refine lv_aload_n S.1 S.2.1 d_M_recost_23 rfl (lv_at hl 1 rfl) ?_
        refine zr_get (v := .ref (ad (5, 0))) S zi_M hK hP zkm_0 rfl rfl 5 (by decide) zx_28 rfl d_M_recost_24 ?_
        refine lv_iload S.1 S.2.1 d_M_recost_27 (lv_at hl 0 rfl) ?_
        by_cases g29 : zOut ((6 * v1) + v3) 36
        · rw [if_pos g29] at hF; cases hF
        rw [if_neg g29] at hF
        refine zr_zald S hK hP zkm_5 rfl 1 rfl g29 d_M_recost_29 ?_
        refine lv_if_ne (tgt := 43) S.1 S.2.1 d_M_recost_30 (by decide) (fun h30 => ?_) (fun h30 => ?_)
        · rw [if_neg h30] at hF
          exact T_M_recost_L43 hn hD S hret hlk hK out (F_M_recost_L2 n f) ih v1 v2 v3 ((6 * v1) + v3) st _ _ _ hP hS (lv_sub hl [1, 2, 3, 4, 0] rfl) hF
        · rw [if_pos h30] at hF
          refine lv_aload_n S.1 S.2.1 d_M_recost_33 rfl (lv_at hl 1 rfl) ?_
          refine lv_iload_n S.1 S.2.1 d_M_recost_34 rfl (lv_at hl 2 rfl) ?_
          refine lv_iload_n S.1 S.2.1 d_M_recost_35 rfl (lv_at hl 4 rfl) ?_
          refine lv_iconst (v := (-1)) S.1 S.2.1 d_M_recost_36 (by decide) ?_
          cases hc37 : F_M_look n v1 v3 (-1) st with
          | none => rw [hc37] at hF; cases hF
          | some u37 =>
            obtain ⟨r37, st37⟩ := u37
            rw [hc37] at hF
            replace hF := zbind hF
            refine zr_callV (rest := []) S zT_good (C_M_look hn hD l v1 v3 (-1) st (r37, st37) hc37) zn_M_look zx_95 ⟨rfl, rfl⟩ ⟨Nat.le_of_ble_eq_true rfl, Nat.le_of_ble_eq_true rfl⟩ ⟨Nat.zero_le _, Nat.zero_le _⟩ hK (zr_recv hK hP zkm_0 rfl rfl) hP hl.1 (Nat.le_of_ble_eq_true rfl) hS (fun _ h => h) d_M_recost_37 rfl (fun o H locs hpo _ _ hS => ?_)
            obtain ⟨rfl, hP⟩ := hpo
            refine W.eq (g2 := F0 m 40 ls []) rfl ?_
            replace hF : F_M_recost_L2_s1 n (F_M_recost_L2 n f) v1 v2 v3 st37 = some out := hF
            replace hP : zV (dC, dI) zcl zKm ad (zmE n cI cZ ad) st37 H := hP
            unfold F_M_recost_L2_s1 at hF
            refine lv_goto (tgt := 84) S.1 S.2.1 d_M_recost_40 (by decide) ?_
            exact T_M_recost_L84 hn hD S hret hlk hK out (F_M_recost_L2 n f) ih v1 v2 v3 st37 _ _ _ hP hS (lv_sub hl [1, 2, 3, 4] rfl) hF

set_option maxHeartbeats 4000000 in
set_option maxRecDepth 1000000 in
theorem C_M_recost {dC : Nat → ClassId} {dI : Nat → Nat → Nat} {cI cZ cR cA : ClassId} {n : Nat} {ad : zK → Nat} {A : Nat → Prop} (hn : 2 ≤ n ∧ n ≤ 6) (hD : zD A zKm ad) (l : Launch) (v1 : Int32) (v2 : Int32) (st : zS) (out : Int32 × zS) (hF : F_M_recost n v1 v2 st = some out) : zC zT (dC, dI) zcl (zty cI cZ cR cA) A l y_M_recost b_M_recost 5 (none) rm_M_recost [.ref (ad (0, 0)), .int v1, .int v2] (fun H => zV (dC, dI) zcl zKm ad (zmE n cI cZ ad) st H) (fun o H => o = none ∧ zV (dC, dI) zcl zKm ad (zmE n cI cZ ad) out.2 H) := by
  refine zC_of (by decide) (Nat.le_of_ble_eq_true rfl) (fun p e s m args below meth c ls S hret hlk hK hP hl => ?_)
  have hS : va_S A s.heap s.heap [] := va_S.rf
  have hl : lv_has ls 5 [(0, .ref (ad (0, 0))), (1, .int v1), (2, .int v2)] := hl
  have hP : zV (dC, dI) zcl zKm ad (zmE n cI cZ ad) st s.heap := hP
  unfold F_M_recost at hF
  refine lv_iconst (v := 0) S.1 S.2.1 d_M_recost_0 (by decide) ?_
  refine lv_istore_n S.1 S.2.1 d_M_recost_1 rfl hl (by decide) rfl (fun ls hl => ?_)
  have hl : lv_has ls 5 [(3, .int 0), (0, .ref (ad (0, 0))), (1, .int v1), (2, .int v2)] := hl
  exact T_M_recost_L2 hn hD S hret hlk hK out zFuel v1 v2 0 st _ _ _ hP hS (lv_sub hl [1, 2, 3, 0] rfl) hF

