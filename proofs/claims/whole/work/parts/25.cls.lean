theorem d_L_find_0 : decode b_L_find 0 = .ok (.iconst 0, 1) := by decide +kernel
theorem d_L_find_1 : decode b_L_find 1 = .ok (.istore 4, 2) := by decide +kernel
theorem d_L_find_3 : decode b_L_find 3 = .ok (.aload_n 0, 1) := by decide +kernel
theorem d_L_find_4 : decode b_L_find 4 = .ok (.getfield 22, 3) := by decide +kernel
theorem d_L_find_7 : decode b_L_find 7 = .ok (.istore 5, 2) := by decide +kernel
theorem d_L_find_9 : decode b_L_find 9 = .ok (.iload 5, 2) := by decide +kernel
theorem d_L_find_11 : decode b_L_find 11 = .ok (.aload_n 0, 1) := by decide +kernel
theorem d_L_find_12 : decode b_L_find 12 = .ok (.getfield 18, 3) := by decide +kernel
theorem d_L_find_15 : decode b_L_find 15 = .ok (.if_icmp .ge 32, 3) := by decide +kernel
theorem d_L_find_18 : decode b_L_find 18 = .ok (.aload_n 0, 1) := by decide +kernel
theorem d_L_find_19 : decode b_L_find 19 = .ok (.iload 5, 2) := by decide +kernel
theorem d_L_find_21 : decode b_L_find 21 = .ok (.iload_n 1, 1) := by decide +kernel
theorem d_L_find_22 : decode b_L_find 22 = .ok (.iload_n 2, 1) := by decide +kernel
theorem d_L_find_23 : decode b_L_find 23 = .ok (.invokevirtual 53, 3) := by decide +kernel
theorem d_L_find_26 : decode b_L_find 26 = .ok (.ifCond .eq 15, 3) := by decide +kernel
theorem d_L_find_29 : decode b_L_find 29 = .ok (.iload 4, 2) := by decide +kernel
theorem d_L_find_31 : decode b_L_find 31 = .ok (.iload_n 3, 1) := by decide +kernel
theorem d_L_find_32 : decode b_L_find 32 = .ok (.if_icmp .ne 6, 3) := by decide +kernel
theorem d_L_find_35 : decode b_L_find 35 = .ok (.iload 5, 2) := by decide +kernel
theorem d_L_find_37 : decode b_L_find 37 = .ok (.ireturn, 1) := by decide +kernel
theorem d_L_find_38 : decode b_L_find 38 = .ok (.iinc 4 1, 3) := by decide +kernel
theorem d_L_find_41 : decode b_L_find 41 = .ok (.iinc 5 1, 3) := by decide +kernel
theorem d_L_find_44 : decode b_L_find 44 = .ok (.goto (-35), 3) := by decide +kernel
theorem d_L_find_47 : decode b_L_find 47 = .ok (.iconst (-1), 1) := by decide +kernel
theorem d_L_find_48 : decode b_L_find 48 = .ok (.ireturn, 1) := by decide +kernel
def F_L_find_L41 (n : Nat) (c9 : Int32 → Int32 → Int32 → Int32 → Int32 → zS → Option (Int32 × zS)) (v1 : Int32) (v2 : Int32) (v3 : Int32) (v4 : Int32) (v5 : Int32) (st : zS) : Option (Int32 × zS) :=
    c9 v1 v2 v3 v4 (v5 + 1) st

def F_L_find_L9_s1 (n : Nat) (c9 : Int32 → Int32 → Int32 → Int32 → Int32 → zS → Option (Int32 × zS)) (v1 : Int32) (v2 : Int32) (v3 : Int32) (v4 : Int32) (v5 : Int32) (t0 : Int32) (st : zS) : Option (Int32 × zS) :=
    if t0 = 0 then (F_L_find_L41 n c9 v1 v2 v3 v4 v5 st) else (if v4 = v3 then (some (v5, st)) else (F_L_find_L41 n c9 v1 v2 v3 (v4 + 1) v5 st))

def F_L_find_L9 (n : Nat) : Nat → Int32 → Int32 → Int32 → Int32 → Int32 → zS → Option (Int32 × zS)
  | 0, _, _, _, _, _, _ => none
  | f + 1, v1, v2, v3, v4, v5, st =>
    if (st 3 0 1) ≤ v5 then (some ((-1), st)) else ((F_L_isFromTo n v5 v1 v2 st).bind (fun u => F_L_find_L9_s1 n (F_L_find_L9 n f) v1 v2 v3 v4 v5 u.1 u.2))

def F_L_find (n : Nat) (v1 : Int32) (v2 : Int32) (v3 : Int32) (st : zS) : Option (Int32 × zS) :=
    F_L_find_L9 n zFuel v1 v2 v3 0 (st 3 0 0) st

set_option maxHeartbeats 4000000 in
set_option maxRecDepth 1000000 in
theorem T_L_find_L41 {dC : Nat → ClassId} {dI : Nat → Nat → Nat} {cI cZ cR cA : ClassId} {n : Nat} {ad : zK → Nat} {A : Nat → Prop} (hn : 2 ≤ n ∧ n ≤ 6) (hD : zD A (zKs n) ad) {p : Program} {l : Launch} {e : Env} {s : State} {m : MethodId} {args : Array Value} {below : List Frame} {meth : Method} {c : Code} (S : CallFix p m c b_L_find 6 s args zT N_L) (hret : meth.sig.returnType = some .int) (hlk : meth.locks = false) (hK : va_K (dC, dI) zcl (zty cI cZ cR cA) s) (out : Int32 × zS) (c9 : Int32 → Int32 → Int32 → Int32 → Int32 → zS → Option (Int32 × zS)) (hc9 : ∀ (v1 : Int32) (v2 : Int32) (v3 : Int32) (v4 : Int32) (v5 : Int32) (st : zS) (H : Heap) (locs : List Loc) (ls : Array Slot), zV (dC, dI) zcl (zKs n) ad (zcE n cI cZ cR cA ad) st H → va_S A s.heap H locs → lv_has ls 6 [(0, .ref (ad (3, 0))), (1, .int v1), (2, .int v2), (3, .int v3), (4, .int v4), (5, .int v5)] → c9 v1 v2 v3 v4 v5 st = some out → W p l e rm_L_find s m args below meth c H locs 0 0 (zQ below A (fun o H => o = some (.int out.1) ∧ zV (dC, dI) zcl (zKs n) ad (zcE n cI cZ cR cA ad) out.2 H) args s) (F0 m 9 ls [])) (v1 : Int32) (v2 : Int32) (v3 : Int32) (v4 : Int32) (v5 : Int32) (st : zS) (H : Heap) (locs : List Loc) (ls : Array Slot) (hP : zV (dC, dI) zcl (zKs n) ad (zcE n cI cZ cR cA ad) st H) (hS : va_S A s.heap H locs) (hl : lv_has ls 6 [(0, .ref (ad (3, 0))), (1, .int v1), (2, .int v2), (3, .int v3), (4, .int v4), (5, .int v5)]) (hF : F_L_find_L41 n c9 v1 v2 v3 v4 v5 st = some out) : W p l e rm_L_find s m args below meth c H locs 0 0 (zQ below A (fun o H => o = some (.int out.1) ∧ zV (dC, dI) zcl (zKs n) ad (zcE n cI cZ cR cA ad) out.2 H) args s) (F0 m 41 ls []) := by
  unfold F_L_find_L41 at hF
  refine lv_iinc (k := 5) (v := v5 + 1) S.1 S.2.1 d_L_find_41 hl rfl rfl (by decide) rfl (fun ls hl => ?_)
  have hl : lv_has ls 6 [(5, .int (v5 + 1)), (0, .ref (ad (3, 0))), (1, .int v1), (2, .int v2), (3, .int v3), (4, .int v4)] := hl
  refine lv_goto (tgt := 9) S.1 S.2.1 d_L_find_44 (by decide) ?_
  exact hc9 v1 v2 v3 v4 (v5 + 1) st _ _ _ hP hS (lv_sub hl [1, 2, 3, 4, 5, 0] rfl) hF

set_option maxHeartbeats 4000000 in
set_option maxRecDepth 1000000 in
theorem T_L_find_L9 {dC : Nat → ClassId} {dI : Nat → Nat → Nat} {cI cZ cR cA : ClassId} {n : Nat} {ad : zK → Nat} {A : Nat → Prop} (hn : 2 ≤ n ∧ n ≤ 6) (hD : zD A (zKs n) ad) {p : Program} {l : Launch} {e : Env} {s : State} {m : MethodId} {args : Array Value} {below : List Frame} {meth : Method} {c : Code} (S : CallFix p m c b_L_find 6 s args zT N_L) (hret : meth.sig.returnType = some .int) (hlk : meth.locks = false) (hK : va_K (dC, dI) zcl (zty cI cZ cR cA) s) (out : Int32 × zS) : ∀ (fu : Nat) (v1 : Int32) (v2 : Int32) (v3 : Int32) (v4 : Int32) (v5 : Int32) (st : zS) (H : Heap) (locs : List Loc) (ls : Array Slot) (hP : zV (dC, dI) zcl (zKs n) ad (zcE n cI cZ cR cA ad) st H) (hS : va_S A s.heap H locs) (hl : lv_has ls 6 [(0, .ref (ad (3, 0))), (1, .int v1), (2, .int v2), (3, .int v3), (4, .int v4), (5, .int v5)]) (hF : F_L_find_L9 n fu v1 v2 v3 v4 v5 st = some out), W p l e rm_L_find s m args below meth c H locs 0 0 (zQ below A (fun o H => o = some (.int out.1) ∧ zV (dC, dI) zcl (zKs n) ad (zcE n cI cZ cR cA ad) out.2 H) args s) (F0 m 9 ls []) := by
  intro fu
  induction fu with
  | zero => intro v1 v2 v3 v4 v5 st H locs ls hP hS hl hF; rw [F_L_find_L9] at hF; cases hF
  | succ f ih =>
    intro v1 v2 v3 v4 v5 st H locs ls hP hS hl hF
    rw [F_L_find_L9] at hF
    refine lv_iload S.1 S.2.1 d_L_find_9 (lv_at hl 5 rfl) ?_
    refine lv_aload_n S.1 S.2.1 d_L_find_11 rfl (lv_at hl 0 rfl) ?_
    refine zr_get (v := .int (st 3 0 1)) S zi_L hK hP zk_3 rfl rfl 3 (by decide) zx_20 rfl d_L_find_12 ?_
    refine lv_icmp_ge (tgt := 47) S.1 S.2.1 d_L_find_15 (by decide) (fun h15 => ?_) (fun h15 => ?_)
    · rw [if_pos h15] at hF
      refine lv_iconst (v := (-1)) S.1 S.2.1 d_L_find_47 (by decide) ?_
      cases hF
      exact zr_iret S hret hlk hS d_L_find_48 ⟨rfl, hP⟩
    · rw [if_neg h15] at hF
      refine lv_aload_n S.1 S.2.1 d_L_find_18 rfl (lv_at hl 0 rfl) ?_
      refine lv_iload S.1 S.2.1 d_L_find_19 (lv_at hl 5 rfl) ?_
      refine lv_iload_n S.1 S.2.1 d_L_find_21 rfl (lv_at hl 1 rfl) ?_
      refine lv_iload_n S.1 S.2.1 d_L_find_22 rfl (lv_at hl 2 rfl) ?_
      cases hc23 : F_L_isFromTo n v5 v1 v2 st with
      | none => rw [hc23] at hF; cases hF
      | some u23 =>
        obtain ⟨r23, st23⟩ := u23
        rw [hc23] at hF
        replace hF := zbind hF
        refine zr_callV (rest := []) S zT_good (C_L_isFromTo hn hD l v5 v1 v2 st (r23, st23) hc23) zn_L_isFromTo zx_94 ⟨rfl, rfl⟩ ⟨Nat.le_of_ble_eq_true rfl, Nat.le_of_ble_eq_true rfl⟩ ⟨Nat.zero_le _, Nat.zero_le _⟩ hK (zr_recv hK hP zk_3 rfl rfl) hP hl.1 (Nat.le_of_ble_eq_true rfl) hS (fun _ h => h) d_L_find_23 rfl (fun o H locs hpo _ _ hS => ?_)
        obtain ⟨rfl, hP⟩ := hpo
        refine W.eq (g2 := F0 m 26 ls [.int r23]) rfl ?_
        replace hF : F_L_find_L9_s1 n (F_L_find_L9 n f) v1 v2 v3 v4 v5 r23 st23 = some out := hF
        replace hP : zV (dC, dI) zcl (zKs n) ad (zcE n cI cZ cR cA ad) st23 H := hP
        unfold F_L_find_L9_s1 at hF
        refine lv_if_eq (tgt := 41) S.1 S.2.1 d_L_find_26 (by decide) (fun h26 => ?_) (fun h26 => ?_)
        · rw [if_pos h26] at hF
          exact T_L_find_L41 hn hD S hret hlk hK out (F_L_find_L9 n f) ih v1 v2 v3 v4 v5 st23 _ _ _ hP hS (lv_sub hl [0, 1, 2, 3, 4, 5] rfl) hF
        · rw [if_neg h26] at hF
          refine lv_iload S.1 S.2.1 d_L_find_29 (lv_at hl 4 rfl) ?_
          refine lv_iload_n S.1 S.2.1 d_L_find_31 rfl (lv_at hl 3 rfl) ?_
          refine lv_icmp_ne (tgt := 38) S.1 S.2.1 d_L_find_32 (by decide) (fun h32 => ?_) (fun h32 => ?_)
          · rw [if_neg h32] at hF
            refine lv_iinc (k := 4) (v := v4 + 1) S.1 S.2.1 d_L_find_38 hl rfl rfl (by decide) rfl (fun ls hl => ?_)
            have hl : lv_has ls 6 [(4, .int (v4 + 1)), (0, .ref (ad (3, 0))), (1, .int v1), (2, .int v2), (3, .int v3), (5, .int v5)] := hl
            exact T_L_find_L41 hn hD S hret hlk hK out (F_L_find_L9 n f) ih v1 v2 v3 (v4 + 1) v5 st23 _ _ _ hP hS (lv_sub hl [1, 2, 3, 4, 0, 5] rfl) hF
          · rw [if_pos h32] at hF
            refine lv_iload S.1 S.2.1 d_L_find_35 (lv_at hl 5 rfl) ?_
            cases hF
            exact zr_iret S hret hlk hS d_L_find_37 ⟨rfl, hP⟩

set_option maxHeartbeats 4000000 in
set_option maxRecDepth 1000000 in
theorem C_L_find {dC : Nat → ClassId} {dI : Nat → Nat → Nat} {cI cZ cR cA : ClassId} {n : Nat} {ad : zK → Nat} {A : Nat → Prop} (hn : 2 ≤ n ∧ n ≤ 6) (hD : zD A (zKs n) ad) (l : Launch) (v1 : Int32) (v2 : Int32) (v3 : Int32) (st : zS) (out : Int32 × zS) (hF : F_L_find n v1 v2 v3 st = some out) : zC zT (dC, dI) zcl (zty cI cZ cR cA) A l y_L_find b_L_find 6 (some .int) rm_L_find [.ref (ad (3, 0)), .int v1, .int v2, .int v3] (fun H => zV (dC, dI) zcl (zKs n) ad (zcE n cI cZ cR cA ad) st H) (fun o H => o = some (.int out.1) ∧ zV (dC, dI) zcl (zKs n) ad (zcE n cI cZ cR cA ad) out.2 H) := by
  refine zC_of (by decide) (Nat.le_of_ble_eq_true rfl) (fun p e s m args below meth c ls S hret hlk hK hP hl => ?_)
  have hS : va_S A s.heap s.heap [] := va_S.rf
  have hl : lv_has ls 6 [(0, .ref (ad (3, 0))), (1, .int v1), (2, .int v2), (3, .int v3)] := hl
  have hP : zV (dC, dI) zcl (zKs n) ad (zcE n cI cZ cR cA ad) st s.heap := hP
  unfold F_L_find at hF
  refine lv_iconst (v := 0) S.1 S.2.1 d_L_find_0 (by decide) ?_
  refine lv_istore S.1 S.2.1 d_L_find_1 hl (by decide) rfl (fun ls hl => ?_)
  have hl : lv_has ls 6 [(4, .int 0), (0, .ref (ad (3, 0))), (1, .int v1), (2, .int v2), (3, .int v3)] := hl
  refine lv_aload_n S.1 S.2.1 d_L_find_3 rfl (lv_at hl 1 rfl) ?_
  refine zr_get (v := .int (st 3 0 0)) S zi_L hK hP zk_3 rfl rfl 2 (by decide) zx_21 rfl d_L_find_4 ?_
  refine lv_istore S.1 S.2.1 d_L_find_7 hl (by decide) rfl (fun ls hl => ?_)
  have hl : lv_has ls 6 [(5, .int (st 3 0 0)), (4, .int 0), (0, .ref (ad (3, 0))), (1, .int v1), (2, .int v2), (3, .int v3)] := hl
  exact T_L_find_L9 hn hD S hret hlk hK out zFuel v1 v2 v3 0 (st 3 0 0) st _ _ _ hP hS (lv_sub hl [2, 3, 4, 5, 1, 0] rfl) hF

theorem d_L_take_0 : decode b_L_take 0 = .ok (.aload_n 0, 1) := by decide +kernel
theorem d_L_take_1 : decode b_L_take 1 = .ok (.getfield 11, 3) := by decide +kernel
theorem d_L_take_4 : decode b_L_take 4 = .ok (.iload_n 1, 1) := by decide +kernel
theorem d_L_take_5 : decode b_L_take 5 = .ok (.iaload, 1) := by decide +kernel
theorem d_L_take_6 : decode b_L_take 6 = .ok (.istore_n 2, 1) := by decide +kernel
theorem d_L_take_7 : decode b_L_take 7 = .ok (.aload_n 0, 1) := by decide +kernel
theorem d_L_take_8 : decode b_L_take 8 = .ok (.getfield 11, 3) := by decide +kernel
theorem d_L_take_11 : decode b_L_take 11 = .ok (.aload_n 0, 1) := by decide +kernel
theorem d_L_take_12 : decode b_L_take 12 = .ok (.getfield 22, 3) := by decide +kernel
theorem d_L_take_15 : decode b_L_take 15 = .ok (.aload_n 0, 1) := by decide +kernel
theorem d_L_take_16 : decode b_L_take 16 = .ok (.getfield 11, 3) := by decide +kernel
theorem d_L_take_19 : decode b_L_take 19 = .ok (.aload_n 0, 1) := by decide +kernel
theorem d_L_take_20 : decode b_L_take 20 = .ok (.getfield 22, 3) := by decide +kernel
theorem d_L_take_23 : decode b_L_take 23 = .ok (.iconst 1, 1) := by decide +kernel
theorem d_L_take_24 : decode b_L_take 24 = .ok (.iadd, 1) := by decide +kernel
theorem d_L_take_25 : decode b_L_take 25 = .ok (.iload_n 1, 1) := by decide +kernel
theorem d_L_take_26 : decode b_L_take 26 = .ok (.aload_n 0, 1) := by decide +kernel
theorem d_L_take_27 : decode b_L_take 27 = .ok (.getfield 22, 3) := by decide +kernel
theorem d_L_take_30 : decode b_L_take 30 = .ok (.isub, 1) := by decide +kernel
theorem d_L_take_31 : decode b_L_take 31 = .ok (.invokestatic 29, 3) := by decide +kernel
theorem d_L_take_34 : decode b_L_take 34 = .ok (.aload_n 0, 1) := by decide +kernel
theorem d_L_take_35 : decode b_L_take 35 = .ok (.dup, 1) := by decide +kernel
theorem d_L_take_36 : decode b_L_take 36 = .ok (.getfield 22, 3) := by decide +kernel
theorem d_L_take_39 : decode b_L_take 39 = .ok (.iconst 1, 1) := by decide +kernel
theorem d_L_take_40 : decode b_L_take 40 = .ok (.iadd, 1) := by decide +kernel
theorem d_L_take_41 : decode b_L_take 41 = .ok (.putfield 22, 3) := by decide +kernel
theorem d_L_take_44 : decode b_L_take 44 = .ok (.iload_n 2, 1) := by decide +kernel
theorem d_L_take_45 : decode b_L_take 45 = .ok (.ireturn, 1) := by decide +kernel
def F_L_take_s2 (n : Nat) (v2 : Int32) (st : zS) : Option (Int32 × zS) :=
    some (v2, st)

def F_L_take_s1 (n : Nat) (v2 : Int32) (st : zS) : Option (Int32 × zS) :=
    F_L_take_s2 n v2 (zs st 3 0 0 ((st 3 0 0) + 1))

def F_L_take (n : Nat) (v1 : Int32) (st : zS) : Option (Int32 × zS) :=
    if zOut v1 1024 then none else if zCpyOut (st 3 0 0) ((st 3 0 0) + 1) (v1 - (st 3 0 0)) 1024 then none else F_L_take_s1 n (st 4 0 (Int32.toNatClampNeg v1)) (zrow st 4 0 (va_cpy (st 4 0) (st 4 0) (Int32.toNatClampNeg (st 3 0 0)) (Int32.toNatClampNeg ((st 3 0 0) + 1)) (Int32.toNatClampNeg (v1 - (st 3 0 0)))))

set_option maxHeartbeats 4000000 in
set_option maxRecDepth 1000000 in
theorem C_L_take {dC : Nat → ClassId} {dI : Nat → Nat → Nat} {cI cZ cR cA : ClassId} {n : Nat} {ad : zK → Nat} {A : Nat → Prop} (hn : 2 ≤ n ∧ n ≤ 6) (hD : zD A (zKs n) ad) (l : Launch) (v1 : Int32) (st : zS) (out : Int32 × zS) (hF : F_L_take n v1 st = some out) : zC zT (dC, dI) zcl (zty cI cZ cR cA) A l y_L_take b_L_take 3 (some .int) rm_L_take [.ref (ad (3, 0)), .int v1] (fun H => zV (dC, dI) zcl (zKs n) ad (zcE n cI cZ cR cA ad) st H) (fun o H => o = some (.int out.1) ∧ zV (dC, dI) zcl (zKs n) ad (zcE n cI cZ cR cA ad) out.2 H) := by
  refine zC_of (by decide) (Nat.le_of_ble_eq_true rfl) (fun p e s m args below meth c ls S hret hlk hK hP hl => ?_)
  have hS : va_S A s.heap s.heap [] := va_S.rf
  have hl : lv_has ls 3 [(0, .ref (ad (3, 0))), (1, .int v1)] := hl
  have hP : zV (dC, dI) zcl (zKs n) ad (zcE n cI cZ cR cA ad) st s.heap := hP
  unfold F_L_take at hF
  refine lv_aload_n S.1 S.2.1 d_L_take_0 rfl (lv_at hl 0 rfl) ?_
  refine zr_get (v := .ref (ad (4, 0))) S zi_L hK hP zk_3 rfl rfl 0 (by decide) zx_18 rfl d_L_take_1 ?_
  refine lv_iload_n S.1 S.2.1 d_L_take_4 rfl (lv_at hl 1 rfl) ?_
  by_cases g5 : zOut v1 1024
  · rw [if_pos g5] at hF; cases hF
  rw [if_neg g5] at hF
  refine zr_iald S hK hP zk_4 rfl 0 rfl g5 d_L_take_5 ?_
  refine lv_istore_n S.1 S.2.1 d_L_take_6 rfl hl (by decide) rfl (fun ls hl => ?_)
  have hl : lv_has ls 3 [(2, .int (st 4 0 (Int32.toNatClampNeg v1))), (0, .ref (ad (3, 0))), (1, .int v1)] := hl
  refine lv_aload_n S.1 S.2.1 d_L_take_7 rfl (lv_at hl 1 rfl) ?_
  refine zr_get (v := .ref (ad (4, 0))) S zi_L hK hP zk_3 rfl rfl 0 (by decide) zx_18 rfl d_L_take_8 ?_
  refine lv_aload_n S.1 S.2.1 d_L_take_11 rfl (lv_at hl 1 rfl) ?_
  refine zr_get (v := .int (st 3 0 0)) S zi_L hK hP zk_3 rfl rfl 2 (by decide) zx_21 rfl d_L_take_12 ?_
  refine lv_aload_n S.1 S.2.1 d_L_take_15 rfl (lv_at hl 1 rfl) ?_
  refine zr_get (v := .ref (ad (4, 0))) S zi_L hK hP zk_3 rfl rfl 0 (by decide) zx_18 rfl d_L_take_16 ?_
  refine lv_aload_n S.1 S.2.1 d_L_take_19 rfl (lv_at hl 1 rfl) ?_
  refine zr_get (v := .int (st 3 0 0)) S zi_L hK hP zk_3 rfl rfl 2 (by decide) zx_21 rfl d_L_take_20 ?_
  refine lv_iconst (v := 1) S.1 S.2.1 d_L_take_23 (by decide) ?_
  refine lv_iadd S.1 S.2.1 d_L_take_24 ?_
  refine lv_iload_n S.1 S.2.1 d_L_take_25 rfl (lv_at hl 2 rfl) ?_
  refine lv_aload_n S.1 S.2.1 d_L_take_26 rfl (lv_at hl 1 rfl) ?_
  refine zr_get (v := .int (st 3 0 0)) S zi_L hK hP zk_3 rfl rfl 2 (by decide) zx_21 rfl d_L_take_27 ?_
  refine lv_isub S.1 S.2.1 d_L_take_30 ?_
  by_cases g31 : zCpyOut (st 3 0 0) ((st 3 0 0) + 1) (v1 - (st 3 0 0)) 1024
  · rw [if_pos g31] at hF; cases hF
  rw [if_neg g31] at hF
  refine zr_copy (rest := []) S hl.1 zx_91 zx_120 zx_123 zx_54 hK hP hD hS zk_4 (fun _ => rfl) 0 rfl g31 (Nat.le_of_ble_eq_true rfl) (Nat.le_of_ble_eq_true rfl) d_L_take_31 (fun H locs hP hS => ?_)
  replace hF : F_L_take_s1 n (st 4 0 (Int32.toNatClampNeg v1)) (zrow st 4 0 (va_cpy (st 4 0) (st 4 0) (Int32.toNatClampNeg (st 3 0 0)) (Int32.toNatClampNeg ((st 3 0 0) + 1)) (Int32.toNatClampNeg (v1 - (st 3 0 0))))) = some out := hF
  generalize zrow st 4 0 (va_cpy (st 4 0) (st 4 0) (Int32.toNatClampNeg (st 3 0 0)) (Int32.toNatClampNeg ((st 3 0 0) + 1)) (Int32.toNatClampNeg (v1 - (st 3 0 0)))) = st34 at hP hF
  unfold F_L_take_s1 at hF
  refine lv_aload_n S.1 S.2.1 d_L_take_34 rfl (lv_at hl 1 rfl) ?_
  refine lv_dup S.1 S.2.1 d_L_take_35 rfl ?_
  refine zr_get (v := .int (st34 3 0 0)) S zi_L hK hP zk_3 rfl rfl 2 (by decide) zx_21 rfl d_L_take_36 ?_
  refine lv_iconst (v := 1) S.1 S.2.1 d_L_take_39 (by decide) ?_
  refine lv_iadd S.1 S.2.1 d_L_take_40 ?_
  refine zr_put (v := (st34 3 0 0) + 1) S zi_L t_L t_L_ok n_L hK hP hD hS zk_3 rfl rfl 2 (by decide) zx_21 rfl rfl rfl (Nat.le_of_ble_eq_true rfl) 0 rfl d_L_take_41 (fun H locs hP hS => ?_)
  replace hF : F_L_take_s2 n (st 4 0 (Int32.toNatClampNeg v1)) (zs st34 3 0 0 ((st34 3 0 0) + 1)) = some out := hF
  generalize zs st34 3 0 0 ((st34 3 0 0) + 1) = st44 at hP hF
  unfold F_L_take_s2 at hF
  refine lv_iload_n S.1 S.2.1 d_L_take_44 rfl (lv_at hl 0 rfl) ?_
  cases hF
  exact zr_iret S hret hlk hS d_L_take_45 ⟨rfl, hP⟩

theorem d_L_kindOf_0 : decode b_L_kindOf 0 = .ok (.iload_n 0, 1) := by decide +kernel
theorem d_L_kindOf_1 : decode b_L_kindOf 1 = .ok (.bipush 17, 2) := by decide +kernel
theorem d_L_kindOf_3 : decode b_L_kindOf 3 = .ok (.ishr, 1) := by decide +kernel
theorem d_L_kindOf_4 : decode b_L_kindOf 4 = .ok (.iconst 3, 1) := by decide +kernel
theorem d_L_kindOf_5 : decode b_L_kindOf 5 = .ok (.iand, 1) := by decide +kernel
theorem d_L_kindOf_6 : decode b_L_kindOf 6 = .ok (.ireturn, 1) := by decide +kernel
def F_L_kindOf (n : Nat) (v0 : Int32) (st : zS) : Option (Int32 × zS) :=
    some ((v0 >>> (17 &&& 31)) &&& 3, st)

set_option maxHeartbeats 4000000 in
set_option maxRecDepth 1000000 in
theorem C_L_kindOf {dC : Nat → ClassId} {dI : Nat → Nat → Nat} {cI cZ cR cA : ClassId} {n : Nat} {ad : zK → Nat} {A : Nat → Prop} (hn : 2 ≤ n ∧ n ≤ 6) (hD : zD A (zKs n) ad) (l : Launch) (v0 : Int32) (st : zS) (out : Int32 × zS) (hF : F_L_kindOf n v0 st = some out) : zC zT (dC, dI) zcl (zty cI cZ cR cA) A l y_L_kindOf b_L_kindOf 1 (some .int) rm_L_kindOf [.int v0] (fun H => zV (dC, dI) zcl (zKs n) ad (zcE n cI cZ cR cA ad) st H) (fun o H => o = some (.int out.1) ∧ zV (dC, dI) zcl (zKs n) ad (zcE n cI cZ cR cA ad) out.2 H) := by
  refine zC_of (by decide) (Nat.le_of_ble_eq_true rfl) (fun p e s m args below meth c ls S hret hlk hK hP hl => ?_)
  have hS : va_S A s.heap s.heap [] := va_S.rf
  have hl : lv_has ls 1 [(0, .int v0)] := hl
  have hP : zV (dC, dI) zcl (zKs n) ad (zcE n cI cZ cR cA ad) st s.heap := hP
  unfold F_L_kindOf at hF
  refine lv_iload_n S.1 S.2.1 d_L_kindOf_0 rfl (lv_at hl 0 rfl) ?_
  refine lv_bipush (v := 17) S.1 S.2.1 d_L_kindOf_1 (by decide) ?_
  refine lv_ishr S.1 S.2.1 d_L_kindOf_3 ?_
  refine lv_iconst (v := 3) S.1 S.2.1 d_L_kindOf_4 (by decide) ?_
  refine lv_iand S.1 S.2.1 d_L_kindOf_5 ?_
  cases hF
  exact zr_iret S hret hlk hS d_L_kindOf_6 ⟨rfl, hP⟩

theorem d_L_targetOf_0 : decode b_L_targetOf 0 = .ok (.iload_n 0, 1) := by decide +kernel
theorem d_L_targetOf_1 : decode b_L_targetOf 1 = .ok (.bipush 14, 2) := by decide +kernel
theorem d_L_targetOf_3 : decode b_L_targetOf 3 = .ok (.ishr, 1) := by decide +kernel
theorem d_L_targetOf_4 : decode b_L_targetOf 4 = .ok (.bipush 7, 2) := by decide +kernel
theorem d_L_targetOf_6 : decode b_L_targetOf 6 = .ok (.iand, 1) := by decide +kernel
theorem d_L_targetOf_7 : decode b_L_targetOf 7 = .ok (.ireturn, 1) := by decide +kernel
def F_L_targetOf (n : Nat) (v0 : Int32) (st : zS) : Option (Int32 × zS) :=
    some ((v0 >>> (14 &&& 31)) &&& 7, st)

set_option maxHeartbeats 4000000 in
set_option maxRecDepth 1000000 in
theorem C_L_targetOf {dC : Nat → ClassId} {dI : Nat → Nat → Nat} {cI cZ cR cA : ClassId} {n : Nat} {ad : zK → Nat} {A : Nat → Prop} (hn : 2 ≤ n ∧ n ≤ 6) (hD : zD A (zKs n) ad) (l : Launch) (v0 : Int32) (st : zS) (out : Int32 × zS) (hF : F_L_targetOf n v0 st = some out) : zC zT (dC, dI) zcl (zty cI cZ cR cA) A l y_L_targetOf b_L_targetOf 1 (some .int) rm_L_targetOf [.int v0] (fun H => zV (dC, dI) zcl (zKs n) ad (zcE n cI cZ cR cA ad) st H) (fun o H => o = some (.int out.1) ∧ zV (dC, dI) zcl (zKs n) ad (zcE n cI cZ cR cA ad) out.2 H) := by
  refine zC_of (by decide) (Nat.le_of_ble_eq_true rfl) (fun p e s m args below meth c ls S hret hlk hK hP hl => ?_)
  have hS : va_S A s.heap s.heap [] := va_S.rf
  have hl : lv_has ls 1 [(0, .int v0)] := hl
  have hP : zV (dC, dI) zcl (zKs n) ad (zcE n cI cZ cR cA ad) st s.heap := hP
  unfold F_L_targetOf at hF
  refine lv_iload_n S.1 S.2.1 d_L_targetOf_0 rfl (lv_at hl 0 rfl) ?_
  refine lv_bipush (v := 14) S.1 S.2.1 d_L_targetOf_1 (by decide) ?_
  refine lv_ishr S.1 S.2.1 d_L_targetOf_3 ?_
  refine lv_bipush (v := 7) S.1 S.2.1 d_L_targetOf_4 (by decide) ?_
  refine lv_iand S.1 S.2.1 d_L_targetOf_6 ?_
  cases hF
  exact zr_iret S hret hlk hS d_L_targetOf_7 ⟨rfl, hP⟩

theorem d_L_distanceOf_0 : decode b_L_distanceOf 0 = .ok (.iload_n 0, 1) := by decide +kernel
theorem d_L_distanceOf_1 : decode b_L_distanceOf 1 = .ok (.sipush 16383, 3) := by decide +kernel
theorem d_L_distanceOf_4 : decode b_L_distanceOf 4 = .ok (.iand, 1) := by decide +kernel
theorem d_L_distanceOf_5 : decode b_L_distanceOf 5 = .ok (.ireturn, 1) := by decide +kernel
def F_L_distanceOf (n : Nat) (v0 : Int32) (st : zS) : Option (Int32 × zS) :=
    some (v0 &&& 16383, st)

set_option maxHeartbeats 4000000 in
set_option maxRecDepth 1000000 in
theorem C_L_distanceOf {dC : Nat → ClassId} {dI : Nat → Nat → Nat} {cI cZ cR cA : ClassId} {n : Nat} {ad : zK → Nat} {A : Nat → Prop} (hn : 2 ≤ n ∧ n ≤ 6) (hD : zD A (zKs n) ad) (l : Launch) (v0 : Int32) (st : zS) (out : Int32 × zS) (hF : F_L_distanceOf n v0 st = some out) : zC zT (dC, dI) zcl (zty cI cZ cR cA) A l y_L_distanceOf b_L_distanceOf 1 (some .int) rm_L_distanceOf [.int v0] (fun H => zV (dC, dI) zcl (zKs n) ad (zcE n cI cZ cR cA ad) st H) (fun o H => o = some (.int out.1) ∧ zV (dC, dI) zcl (zKs n) ad (zcE n cI cZ cR cA ad) out.2 H) := by
  refine zC_of (by decide) (Nat.le_of_ble_eq_true rfl) (fun p e s m args below meth c ls S hret hlk hK hP hl => ?_)
  have hS : va_S A s.heap s.heap [] := va_S.rf
  have hl : lv_has ls 1 [(0, .int v0)] := hl
  have hP : zV (dC, dI) zcl (zKs n) ad (zcE n cI cZ cR cA ad) st s.heap := hP
  unfold F_L_distanceOf at hF
  refine lv_iload_n S.1 S.2.1 d_L_distanceOf_0 rfl (lv_at hl 0 rfl) ?_
  refine lv_sipush (v := 16383) S.1 S.2.1 d_L_distanceOf_1 (by decide) ?_
  refine lv_iand S.1 S.2.1 d_L_distanceOf_4 ?_
  cases hF
  exact zr_iret S hret hlk hS d_L_distanceOf_5 ⟨rfl, hP⟩

theorem d_D_hear_0 : decode b_D_hear 0 = .ok (.aload_n 1, 1) := by decide +kernel
theorem d_D_hear_1 : decode b_D_hear 1 = .ok (.getfield 98, 3) := by decide +kernel
theorem d_D_hear_4 : decode b_D_hear 4 = .ok (.ifCond .ne 21, 3) := by decide +kernel
theorem d_D_hear_7 : decode b_D_hear 7 = .ok (.aload_n 0, 1) := by decide +kernel
theorem d_D_hear_8 : decode b_D_hear 8 = .ok (.aload_n 1, 1) := by decide +kernel
theorem d_D_hear_9 : decode b_D_hear 9 = .ok (.iload_n 3, 1) := by decide +kernel
theorem d_D_hear_10 : decode b_D_hear 10 = .ok (.iconst 1, 1) := by decide +kernel
theorem d_D_hear_11 : decode b_D_hear 11 = .ok (.if_icmp .ne 7, 3) := by decide +kernel
theorem d_D_hear_14 : decode b_D_hear 14 = .ok (.iload_n 2, 1) := by decide +kernel
theorem d_D_hear_15 : decode b_D_hear 15 = .ok (.goto 4, 3) := by decide +kernel
theorem d_D_hear_18 : decode b_D_hear 18 = .ok (.iconst (-1), 1) := by decide +kernel
theorem d_D_hear_19 : decode b_D_hear 19 = .ok (.invokevirtual 149, 3) := by decide +kernel
theorem d_D_hear_22 : decode b_D_hear 22 = .ok (.goto 59, 3) := by decide +kernel
theorem d_D_hear_25 : decode b_D_hear 25 = .ok (.iload_n 3, 1) := by decide +kernel
theorem d_D_hear_26 : decode b_D_hear 26 = .ok (.iconst 1, 1) := by decide +kernel
theorem d_D_hear_27 : decode b_D_hear 27 = .ok (.if_icmp .eq 23, 3) := by decide +kernel
theorem d_D_hear_30 : decode b_D_hear 30 = .ok (.iload_n 3, 1) := by decide +kernel
theorem d_D_hear_31 : decode b_D_hear 31 = .ok (.iconst 2, 1) := by decide +kernel
theorem d_D_hear_32 : decode b_D_hear 32 = .ok (.if_icmp .ne 10, 3) := by decide +kernel
theorem d_D_hear_35 : decode b_D_hear 35 = .ok (.aload_n 1, 1) := by decide +kernel
theorem d_D_hear_36 : decode b_D_hear 36 = .ok (.getfield 112, 3) := by decide +kernel
theorem d_D_hear_39 : decode b_D_hear 39 = .ok (.iload_n 2, 1) := by decide +kernel
theorem d_D_hear_40 : decode b_D_hear 40 = .ok (.iconst 0, 1) := by decide +kernel
theorem d_D_hear_41 : decode b_D_hear 41 = .ok (.bastore, 1) := by decide +kernel
theorem d_D_hear_42 : decode b_D_hear 42 = .ok (.aload_n 1, 1) := by decide +kernel
theorem d_D_hear_43 : decode b_D_hear 43 = .ok (.iload_n 2, 1) := by decide +kernel
theorem d_D_hear_44 : decode b_D_hear 44 = .ok (.invokevirtual 145, 3) := by decide +kernel
theorem d_D_hear_47 : decode b_D_hear 47 = .ok (.goto 34, 3) := by decide +kernel
theorem d_D_hear_50 : decode b_D_hear 50 = .ok (.iload_n 2, 1) := by decide +kernel
theorem d_D_hear_51 : decode b_D_hear 51 = .ok (.aload_n 1, 1) := by decide +kernel
theorem d_D_hear_52 : decode b_D_hear 52 = .ok (.getfield 95, 3) := by decide +kernel
theorem d_D_hear_55 : decode b_D_hear 55 = .ok (.if_icmp .ne 16, 3) := by decide +kernel
theorem d_D_hear_58 : decode b_D_hear 58 = .ok (.aload_n 1, 1) := by decide +kernel
theorem d_D_hear_59 : decode b_D_hear 59 = .ok (.iconst 1, 1) := by decide +kernel
theorem d_D_hear_60 : decode b_D_hear 60 = .ok (.putfield 105, 3) := by decide +kernel
theorem d_D_hear_63 : decode b_D_hear 63 = .ok (.aload_n 1, 1) := by decide +kernel
theorem d_D_hear_64 : decode b_D_hear 64 = .ok (.iconst 1, 1) := by decide +kernel
theorem d_D_hear_65 : decode b_D_hear 65 = .ok (.putfield 102, 3) := by decide +kernel
theorem d_D_hear_68 : decode b_D_hear 68 = .ok (.goto 13, 3) := by decide +kernel
theorem d_D_hear_71 : decode b_D_hear 71 = .ok (.aload_n 0, 1) := by decide +kernel
theorem d_D_hear_72 : decode b_D_hear 72 = .ok (.getfield 39, 3) := by decide +kernel
theorem d_D_hear_75 : decode b_D_hear 75 = .ok (.aload_n 1, 1) := by decide +kernel
theorem d_D_hear_76 : decode b_D_hear 76 = .ok (.iload_n 2, 1) := by decide +kernel
theorem d_D_hear_77 : decode b_D_hear 77 = .ok (.iconst 2, 1) := by decide +kernel
theorem d_D_hear_78 : decode b_D_hear 78 = .ok (.invokevirtual 137, 3) := by decide +kernel
theorem d_D_hear_81 : decode b_D_hear 81 = .ok (.aload_n 0, 1) := by decide +kernel
theorem d_D_hear_82 : decode b_D_hear 82 = .ok (.aload_n 1, 1) := by decide +kernel
theorem d_D_hear_83 : decode b_D_hear 83 = .ok (.invokevirtual 153, 3) := by decide +kernel
theorem d_D_hear_86 : decode b_D_hear 86 = .ok (.return_, 1) := by decide +kernel
def F_D_hear_L81_s1 (n : Nat) (st : zS) : Option (Int32 × zS) :=
    some (0, st)

def F_D_hear_L81 (n : Nat) (k1 : Nat) (st : zS) : Option (Int32 × zS) :=
    (F_D_endIfDone n k1 st).bind (fun u => F_D_hear_L81_s1 n u.2)

def F_D_hear_L19_s1 (n : Nat) (k1 : Nat) (st : zS) : Option (Int32 × zS) :=
    F_D_hear_L81 n k1 st

def F_D_hear_L19 (n : Nat) (k1 : Nat) (u1 : Nat) (t2 : Int32) (st : zS) : Option (Int32 × zS) :=
    (F_D_look n u1 t2 st).bind (fun u => F_D_hear_L19_s1 n k1 u.2)

def F_D_hear_L42_s1 (n : Nat) (k1 : Nat) (st : zS) : Option (Int32 × zS) :=
    F_D_hear_L81 n k1 st

def F_D_hear_L42 (n : Nat) (k1 : Nat) (v2 : Int32) (st : zS) : Option (Int32 × zS) :=
    (F_R_growIfFarther n k1 v2 st).bind (fun u => F_D_hear_L42_s1 n k1 u.2)

def F_D_hear_s1 (n : Nat) (k1 : Nat) (st : zS) : Option (Int32 × zS) :=
    F_D_hear_L81 n k1 st

def F_D_hear_s3 (n : Nat) (k1 : Nat) (st : zS) : Option (Int32 × zS) :=
    F_D_hear_L81 n k1 st

def F_D_hear_s2 (n : Nat) (k1 : Nat) (st : zS) : Option (Int32 × zS) :=
    F_D_hear_s3 n k1 (zs st 7 k1 5 1)

def F_D_hear_s4 (n : Nat) (k1 : Nat) (v2 : Int32) (st : zS) : Option (Int32 × zS) :=
    F_D_hear_L42 n k1 v2 st

def F_D_hear (n : Nat) (k1 : Nat) (v2 : Int32) (v3 : Int32) (st : zS) : Option (Int32 × zS) :=
    if (st 7 k1 3) = 0 then (if v3 = 1 then (F_D_hear_L19 n k1 k1 v2 st) else (F_D_hear_L19 n k1 k1 (-1) st)) else (if v3 = 1 then (if v2 = (st 7 k1 2) then (F_D_hear_s2 n k1 (zs st 7 k1 4 1)) else ((F_L_send n k1 v2 2 st).bind (fun u => F_D_hear_s1 n k1 u.2))) else (if v3 = 2 then (if zOut v2 n then none else F_D_hear_s4 n k1 v2 (zs st 9 k1 (Int32.toNatClampNeg v2) 0)) else (F_D_hear_L42 n k1 v2 st)))

set_option maxHeartbeats 4000000 in
set_option maxRecDepth 1000000 in
theorem T_D_hear_L81 {dC : Nat → ClassId} {dI : Nat → Nat → Nat} {cI cZ cR cA : ClassId} {n : Nat} {ad : zK → Nat} {A : Nat → Prop} (hn : 2 ≤ n ∧ n ≤ 6) (hD : zD A (zKs n) ad) {p : Program} {l : Launch} {e : Env} {s : State} {m : MethodId} {args : Array Value} {below : List Frame} {meth : Method} {c : Code} (S : CallFix p m c b_D_hear 4 s args zT N_D) (hret : meth.sig.returnType = none) (hlk : meth.locks = false) (hK : va_K (dC, dI) zcl (zty cI cZ cR cA) s) (out : Int32 × zS) (k1 : Nat) (hk1 : (7, k1) ∈ zKs n) (st : zS) (H : Heap) (locs : List Loc) (ls : Array Slot) (hP : zV (dC, dI) zcl (zKs n) ad (zcE n cI cZ cR cA ad) st H) (hS : va_S A s.heap H locs) (hl : lv_has ls 4 [(0, .ref (ad (0, 0))), (1, .ref (ad (7, k1)))]) (hF : F_D_hear_L81 n k1 st = some out) : W p l e rm_D_hear s m args below meth c H locs 0 0 (zQ below A (fun o H => o = none ∧ zV (dC, dI) zcl (zKs n) ad (zcE n cI cZ cR cA ad) out.2 H) args s) (F0 m 81 ls []) := by
  unfold F_D_hear_L81 at hF
  refine lv_aload_n S.1 S.2.1 d_D_hear_81 rfl (lv_at hl 0 rfl) ?_
  refine lv_aload_n S.1 S.2.1 d_D_hear_82 rfl (lv_at hl 1 rfl) ?_
  cases hc83 : F_D_endIfDone n k1 st with
  | none => rw [hc83] at hF; cases hF
  | some u83 =>
    obtain ⟨r83, st83⟩ := u83
    rw [hc83] at hF
    replace hF := zbind hF
    refine zr_callV (rest := []) S zT_good (C_D_endIfDone hn hD l k1 hk1 st (r83, st83) hc83) zn_D_endIfDone zx_65 ⟨rfl, rfl⟩ ⟨Nat.le_of_ble_eq_true rfl, Nat.le_of_ble_eq_true rfl⟩ ⟨Nat.zero_le _, Nat.zero_le _⟩ hK (zr_recv hK hP zk_0 rfl rfl) hP hl.1 (Nat.le_of_ble_eq_true rfl) hS (fun _ h => h) d_D_hear_83 rfl (fun o H locs hpo _ _ hS => ?_)
    obtain ⟨rfl, hP⟩ := hpo
    refine W.eq (g2 := F0 m 86 ls []) rfl ?_
    replace hF : F_D_hear_L81_s1 n st83 = some out := hF
    replace hP : zV (dC, dI) zcl (zKs n) ad (zcE n cI cZ cR cA ad) st83 H := hP
    unfold F_D_hear_L81_s1 at hF
    cases hF
    exact zr_vret S hret hlk hS d_D_hear_86 ⟨rfl, hP⟩

set_option maxHeartbeats 4000000 in
set_option maxRecDepth 1000000 in
theorem T_D_hear_L19 {dC : Nat → ClassId} {dI : Nat → Nat → Nat} {cI cZ cR cA : ClassId} {n : Nat} {ad : zK → Nat} {A : Nat → Prop} (hn : 2 ≤ n ∧ n ≤ 6) (hD : zD A (zKs n) ad) {p : Program} {l : Launch} {e : Env} {s : State} {m : MethodId} {args : Array Value} {below : List Frame} {meth : Method} {c : Code} (S : CallFix p m c b_D_hear 4 s args zT N_D) (hret : meth.sig.returnType = none) (hlk : meth.locks = false) (hK : va_K (dC, dI) zcl (zty cI cZ cR cA) s) (out : Int32 × zS) (k1 : Nat) (u1 : Nat) (t2 : Int32) (hk1 : (7, k1) ∈ zKs n) (hu1 : (7, u1) ∈ zKs n) (st : zS) (H : Heap) (locs : List Loc) (ls : Array Slot) (hP : zV (dC, dI) zcl (zKs n) ad (zcE n cI cZ cR cA ad) st H) (hS : va_S A s.heap H locs) (hl : lv_has ls 4 [(0, .ref (ad (0, 0))), (1, .ref (ad (7, k1)))]) (hF : F_D_hear_L19 n k1 u1 t2 st = some out) : W p l e rm_D_hear s m args below meth c H locs 0 0 (zQ below A (fun o H => o = none ∧ zV (dC, dI) zcl (zKs n) ad (zcE n cI cZ cR cA ad) out.2 H) args s) (F0 m 19 ls [.int t2, .ref (ad (7, u1)), .ref (ad (0, 0))]) := by
  unfold F_D_hear_L19 at hF
  cases hc19 : F_D_look n u1 t2 st with
  | none => rw [hc19] at hF; cases hF
  | some u19 =>
    obtain ⟨r19, st19⟩ := u19
    rw [hc19] at hF
    replace hF := zbind hF
    refine zr_callV (rest := []) S zT_good (C_D_look hn hD l u1 t2 hu1 st (r19, st19) hc19) zn_D_look zx_63 ⟨rfl, rfl⟩ ⟨Nat.le_of_ble_eq_true rfl, Nat.le_of_ble_eq_true rfl⟩ ⟨Nat.zero_le _, Nat.zero_le _⟩ hK (zr_recv hK hP zk_0 rfl rfl) hP hl.1 (Nat.le_of_ble_eq_true rfl) hS (fun _ h => h) d_D_hear_19 rfl (fun o H locs hpo _ _ hS => ?_)
    obtain ⟨rfl, hP⟩ := hpo
    refine W.eq (g2 := F0 m 22 ls []) rfl ?_
    replace hF : F_D_hear_L19_s1 n k1 st19 = some out := hF
    replace hP : zV (dC, dI) zcl (zKs n) ad (zcE n cI cZ cR cA ad) st19 H := hP
    unfold F_D_hear_L19_s1 at hF
    refine lv_goto (tgt := 81) S.1 S.2.1 d_D_hear_22 (by decide) ?_
    exact T_D_hear_L81 hn hD S hret hlk hK out k1 hk1 st19 _ _ _ hP hS (lv_sub hl [0, 1] rfl) hF

set_option maxHeartbeats 4000000 in
set_option maxRecDepth 1000000 in
theorem T_D_hear_L42 {dC : Nat → ClassId} {dI : Nat → Nat → Nat} {cI cZ cR cA : ClassId} {n : Nat} {ad : zK → Nat} {A : Nat → Prop} (hn : 2 ≤ n ∧ n ≤ 6) (hD : zD A (zKs n) ad) {p : Program} {l : Launch} {e : Env} {s : State} {m : MethodId} {args : Array Value} {below : List Frame} {meth : Method} {c : Code} (S : CallFix p m c b_D_hear 4 s args zT N_D) (hret : meth.sig.returnType = none) (hlk : meth.locks = false) (hK : va_K (dC, dI) zcl (zty cI cZ cR cA) s) (out : Int32 × zS) (k1 : Nat) (v2 : Int32) (hk1 : (7, k1) ∈ zKs n) (st : zS) (H : Heap) (locs : List Loc) (ls : Array Slot) (hP : zV (dC, dI) zcl (zKs n) ad (zcE n cI cZ cR cA ad) st H) (hS : va_S A s.heap H locs) (hl : lv_has ls 4 [(0, .ref (ad (0, 0))), (1, .ref (ad (7, k1))), (2, .int v2)]) (hF : F_D_hear_L42 n k1 v2 st = some out) : W p l e rm_D_hear s m args below meth c H locs 0 0 (zQ below A (fun o H => o = none ∧ zV (dC, dI) zcl (zKs n) ad (zcE n cI cZ cR cA ad) out.2 H) args s) (F0 m 42 ls []) := by
  unfold F_D_hear_L42 at hF
  refine lv_aload_n S.1 S.2.1 d_D_hear_42 rfl (lv_at hl 1 rfl) ?_
  refine lv_iload_n S.1 S.2.1 d_D_hear_43 rfl (lv_at hl 2 rfl) ?_
  cases hc44 : F_R_growIfFarther n k1 v2 st with
  | none => rw [hc44] at hF; cases hF
  | some u44 =>
    obtain ⟨r44, st44⟩ := u44
    rw [hc44] at hF
    replace hF := zbind hF
    refine zr_callV (rest := []) S zT_good (C_R_growIfFarther hn hD l k1 v2 hk1 st (r44, st44) hc44) zn_R_growIfFarther zx_62 ⟨rfl, rfl⟩ ⟨Nat.le_of_ble_eq_true rfl, Nat.le_of_ble_eq_true rfl⟩ ⟨Nat.zero_le _, Nat.zero_le _⟩ hK (zr_recv hK hP hk1 rfl rfl) hP hl.1 (Nat.le_of_ble_eq_true rfl) hS (fun _ h => h) d_D_hear_44 rfl (fun o H locs hpo _ _ hS => ?_)
    obtain ⟨rfl, hP⟩ := hpo
    refine W.eq (g2 := F0 m 47 ls []) rfl ?_
    replace hF : F_D_hear_L42_s1 n k1 st44 = some out := hF
    replace hP : zV (dC, dI) zcl (zKs n) ad (zcE n cI cZ cR cA ad) st44 H := hP
    unfold F_D_hear_L42_s1 at hF
    refine lv_goto (tgt := 81) S.1 S.2.1 d_D_hear_47 (by decide) ?_
    exact T_D_hear_L81 hn hD S hret hlk hK out k1 hk1 st44 _ _ _ hP hS (lv_sub hl [0, 1] rfl) hF

set_option maxHeartbeats 4000000 in
set_option maxRecDepth 1000000 in
theorem C_D_hear {dC : Nat → ClassId} {dI : Nat → Nat → Nat} {cI cZ cR cA : ClassId} {n : Nat} {ad : zK → Nat} {A : Nat → Prop} (hn : 2 ≤ n ∧ n ≤ 6) (hD : zD A (zKs n) ad) (l : Launch) (k1 : Nat) (v2 : Int32) (v3 : Int32) (hk1 : (7, k1) ∈ zKs n) (st : zS) (out : Int32 × zS) (hF : F_D_hear n k1 v2 v3 st = some out) : zC zT (dC, dI) zcl (zty cI cZ cR cA) A l y_D_hear b_D_hear 4 (none) rm_D_hear [.ref (ad (0, 0)), .ref (ad (7, k1)), .int v2, .int v3] (fun H => zV (dC, dI) zcl (zKs n) ad (zcE n cI cZ cR cA ad) st H) (fun o H => o = none ∧ zV (dC, dI) zcl (zKs n) ad (zcE n cI cZ cR cA ad) out.2 H) := by
  refine zC_of (by decide) (Nat.le_of_ble_eq_true rfl) (fun p e s m args below meth c ls S hret hlk hK hP hl => ?_)
  have hS : va_S A s.heap s.heap [] := va_S.rf
  have hl : lv_has ls 4 [(0, .ref (ad (0, 0))), (1, .ref (ad (7, k1))), (2, .int v2), (3, .int v3)] := hl
  have hP : zV (dC, dI) zcl (zKs n) ad (zcE n cI cZ cR cA ad) st s.heap := hP
  unfold F_D_hear at hF
  refine lv_aload_n S.1 S.2.1 d_D_hear_0 rfl (lv_at hl 1 rfl) ?_
  refine zr_get (v := .int (st 7 k1 3)) S zi_R hK hP hk1 rfl rfl 8 (by decide) zx_17 rfl d_D_hear_1 ?_
  refine lv_if_ne (tgt := 25) S.1 S.2.1 d_D_hear_4 (by decide) (fun h4 => ?_) (fun h4 => ?_)
  · rw [if_neg h4] at hF
    refine lv_iload_n S.1 S.2.1 d_D_hear_25 rfl (lv_at hl 3 rfl) ?_
    refine lv_iconst (v := 1) S.1 S.2.1 d_D_hear_26 (by decide) ?_
    refine lv_icmp_eq (tgt := 50) S.1 S.2.1 d_D_hear_27 (by decide) (fun h27 => ?_) (fun h27 => ?_)
    · rw [if_pos h27] at hF
      refine lv_iload_n S.1 S.2.1 d_D_hear_50 rfl (lv_at hl 2 rfl) ?_
      refine lv_aload_n S.1 S.2.1 d_D_hear_51 rfl (lv_at hl 1 rfl) ?_
      refine zr_get (v := .int (st 7 k1 2)) S zi_R hK hP hk1 rfl rfl 7 (by decide) zx_16 rfl d_D_hear_52 ?_
      refine lv_icmp_ne (tgt := 71) S.1 S.2.1 d_D_hear_55 (by decide) (fun h55 => ?_) (fun h55 => ?_)
      · rw [if_neg h55] at hF
        refine lv_aload_n S.1 S.2.1 d_D_hear_71 rfl (lv_at hl 0 rfl) ?_
        refine zr_get (v := .ref (ad (3, 0))) S zi_D hK hP zk_0 rfl rfl 3 (by decide) zx_11 rfl d_D_hear_72 ?_
        refine lv_aload_n S.1 S.2.1 d_D_hear_75 rfl (lv_at hl 1 rfl) ?_
        refine lv_iload_n S.1 S.2.1 d_D_hear_76 rfl (lv_at hl 2 rfl) ?_
        refine lv_iconst (v := 2) S.1 S.2.1 d_D_hear_77 (by decide) ?_
        cases hc78 : F_L_send n k1 v2 2 st with
        | none => rw [hc78] at hF; cases hF
        | some u78 =>
          obtain ⟨r78, st78⟩ := u78
          rw [hc78] at hF
          replace hF := zbind hF
          refine zr_callV (rest := []) S zT_good (C_L_send hn hD l k1 v2 2 hk1 st (r78, st78) hc78) zn_L_send zx_60 ⟨rfl, rfl⟩ ⟨Nat.le_of_ble_eq_true rfl, Nat.le_of_ble_eq_true rfl⟩ ⟨Nat.zero_le _, Nat.zero_le _⟩ hK (zr_recv hK hP zk_3 rfl rfl) hP hl.1 (Nat.le_of_ble_eq_true rfl) hS (fun _ h => h) d_D_hear_78 rfl (fun o H locs hpo _ _ hS => ?_)
          obtain ⟨rfl, hP⟩ := hpo
          refine W.eq (g2 := F0 m 81 ls []) rfl ?_
          replace hF : F_D_hear_s1 n k1 st78 = some out := hF
          replace hP : zV (dC, dI) zcl (zKs n) ad (zcE n cI cZ cR cA ad) st78 H := hP
          unfold F_D_hear_s1 at hF
          exact T_D_hear_L81 hn hD S hret hlk hK out k1 hk1 st78 _ _ _ hP hS (lv_sub hl [0, 1] rfl) hF
      · rw [if_pos h55] at hF
        refine lv_aload_n S.1 S.2.1 d_D_hear_58 rfl (lv_at hl 1 rfl) ?_
        refine lv_iconst (v := 1) S.1 S.2.1 d_D_hear_59 (by decide) ?_
        refine zr_put (v := 1) S zi_R t_R t_R_ok n_R hK hP hD hS hk1 rfl rfl 9 (by decide) zx_3 rfl rfl rfl (Nat.le_of_ble_eq_true rfl) 4 rfl d_D_hear_60 (fun H locs hP hS => ?_)
        replace hF : F_D_hear_s2 n k1 (zs st 7 k1 4 1) = some out := hF
        generalize zs st 7 k1 4 1 = st63 at hP hF
        unfold F_D_hear_s2 at hF
        refine lv_aload_n S.1 S.2.1 d_D_hear_63 rfl (lv_at hl 1 rfl) ?_
        refine lv_iconst (v := 1) S.1 S.2.1 d_D_hear_64 (by decide) ?_
        refine zr_put (v := 1) S zi_R t_R t_R_ok n_R hK hP hD hS hk1 rfl rfl 10 (by decide) zx_2 rfl rfl rfl (Nat.le_of_ble_eq_true rfl) 5 rfl d_D_hear_65 (fun H locs hP hS => ?_)
        replace hF : F_D_hear_s3 n k1 (zs st63 7 k1 5 1) = some out := hF
        generalize zs st63 7 k1 5 1 = st68 at hP hF
        unfold F_D_hear_s3 at hF
        refine lv_goto (tgt := 81) S.1 S.2.1 d_D_hear_68 (by decide) ?_
        exact T_D_hear_L81 hn hD S hret hlk hK out k1 hk1 st68 _ _ _ hP hS (lv_sub hl [0, 1] rfl) hF
    · rw [if_neg h27] at hF
      refine lv_iload_n S.1 S.2.1 d_D_hear_30 rfl (lv_at hl 3 rfl) ?_
      refine lv_iconst (v := 2) S.1 S.2.1 d_D_hear_31 (by decide) ?_
      refine lv_icmp_ne (tgt := 42) S.1 S.2.1 d_D_hear_32 (by decide) (fun h32 => ?_) (fun h32 => ?_)
      · rw [if_neg h32] at hF
        exact T_D_hear_L42 hn hD S hret hlk hK out k1 v2 hk1 st _ _ _ hP hS (lv_sub hl [0, 1, 2] rfl) hF
      · rw [if_pos h32] at hF
        refine lv_aload_n S.1 S.2.1 d_D_hear_35 rfl (lv_at hl 1 rfl) ?_
        refine zr_get (v := .ref (ad (9, k1))) S zi_R hK hP hk1 rfl rfl 4 (by decide) zx_5 rfl d_D_hear_36 ?_
        refine lv_iload_n S.1 S.2.1 d_D_hear_39 rfl (lv_at hl 2 rfl) ?_
        refine lv_iconst (v := 0) S.1 S.2.1 d_D_hear_40 (by decide) ?_
        by_cases g41 : zOut v2 n
        · rw [if_pos g41] at hF; cases hF
        rw [if_neg g41] at hF
        refine zr_zast S hK hP hD hS (zk_97 hk1) (fun _ => rfl) 1 rfl g41 (by decide) d_D_hear_41 (fun H locs hP hS => ?_)
        replace hF : F_D_hear_s4 n k1 v2 (zs st 9 k1 (Int32.toNatClampNeg v2) 0) = some out := hF
        generalize zs st 9 k1 (Int32.toNatClampNeg v2) 0 = st42 at hP hF
        unfold F_D_hear_s4 at hF
        exact T_D_hear_L42 hn hD S hret hlk hK out k1 v2 hk1 st42 _ _ _ hP hS (lv_sub hl [0, 1, 2] rfl) hF
  · rw [if_pos h4] at hF
    refine lv_aload_n S.1 S.2.1 d_D_hear_7 rfl (lv_at hl 0 rfl) ?_
    refine lv_aload_n S.1 S.2.1 d_D_hear_8 rfl (lv_at hl 1 rfl) ?_
    refine lv_iload_n S.1 S.2.1 d_D_hear_9 rfl (lv_at hl 3 rfl) ?_
    refine lv_iconst (v := 1) S.1 S.2.1 d_D_hear_10 (by decide) ?_
    refine lv_icmp_ne (tgt := 18) S.1 S.2.1 d_D_hear_11 (by decide) (fun h11 => ?_) (fun h11 => ?_)
    · rw [if_neg h11] at hF
      refine lv_iconst (v := (-1)) S.1 S.2.1 d_D_hear_18 (by decide) ?_
      exact T_D_hear_L19 hn hD S hret hlk hK out k1 k1 (-1) hk1 hk1 st _ _ _ hP hS (lv_sub hl [0, 1] rfl) hF
    · rw [if_pos h11] at hF
      refine lv_iload_n S.1 S.2.1 d_D_hear_14 rfl (lv_at hl 2 rfl) ?_
      refine lv_goto (tgt := 19) S.1 S.2.1 d_D_hear_15 (by decide) ?_
      exact T_D_hear_L19 hn hD S hret hlk hK out k1 k1 v2 hk1 hk1 st _ _ _ hP hS (lv_sub hl [0, 1] rfl) hF

theorem d_D_cost_0 : decode b_D_cost 0 = .ok (.aload_n 0, 1) := by decide +kernel
theorem d_D_cost_1 : decode b_D_cost 1 = .ok (.iload_n 1, 1) := by decide +kernel
theorem d_D_cost_2 : decode b_D_cost 2 = .ok (.iload_n 2, 1) := by decide +kernel
theorem d_D_cost_3 : decode b_D_cost 3 = .ok (.invokevirtual 61, 3) := by decide +kernel
theorem d_D_cost_6 : decode b_D_cost 6 = .ok (.ifCond .eq 14, 3) := by decide +kernel
theorem d_D_cost_9 : decode b_D_cost 9 = .ok (.aload_n 0, 1) := by decide +kernel
theorem d_D_cost_10 : decode b_D_cost 10 = .ok (.getfield 24, 3) := by decide +kernel
theorem d_D_cost_13 : decode b_D_cost 13 = .ok (.iload_n 1, 1) := by decide +kernel
theorem d_D_cost_14 : decode b_D_cost 14 = .ok (.aaload, 1) := by decide +kernel
theorem d_D_cost_15 : decode b_D_cost 15 = .ok (.iload_n 2, 1) := by decide +kernel
theorem d_D_cost_16 : decode b_D_cost 16 = .ok (.iaload, 1) := by decide +kernel
theorem d_D_cost_17 : decode b_D_cost 17 = .ok (.goto 4, 3) := by decide +kernel
theorem d_D_cost_20 : decode b_D_cost 20 = .ok (.iconst (-1), 1) := by decide +kernel
theorem d_D_cost_21 : decode b_D_cost 21 = .ok (.ireturn, 1) := by decide +kernel
def F_D_cost_s1 (n : Nat) (v1 : Int32) (v2 : Int32) (t0 : Int32) (st : zS) : Option (Int32 × zS) :=
    if t0 = 0 then (some ((-1), st)) else (if zOut v1 n then none else if zOut v2 n then none else some (st 6 (Int32.toNatClampNeg v1) (Int32.toNatClampNeg v2), st))

def F_D_cost (n : Nat) (v1 : Int32) (v2 : Int32) (st : zS) : Option (Int32 × zS) :=
    (F_D_isLink n v1 v2 st).bind (fun u => F_D_cost_s1 n v1 v2 u.1 u.2)

set_option maxHeartbeats 4000000 in
set_option maxRecDepth 1000000 in
theorem C_D_cost {dC : Nat → ClassId} {dI : Nat → Nat → Nat} {cI cZ cR cA : ClassId} {n : Nat} {ad : zK → Nat} {A : Nat → Prop} (hn : 2 ≤ n ∧ n ≤ 6) (hD : zD A (zKs n) ad) (l : Launch) (v1 : Int32) (v2 : Int32) (st : zS) (out : Int32 × zS) (hF : F_D_cost n v1 v2 st = some out) : zC zT (dC, dI) zcl (zty cI cZ cR cA) A l y_D_cost b_D_cost 3 (some .int) rm_D_cost [.ref (ad (0, 0)), .int v1, .int v2] (fun H => zV (dC, dI) zcl (zKs n) ad (zcE n cI cZ cR cA ad) st H) (fun o H => o = some (.int out.1) ∧ zV (dC, dI) zcl (zKs n) ad (zcE n cI cZ cR cA ad) out.2 H) := by
  refine zC_of (by decide) (Nat.le_of_ble_eq_true rfl) (fun p e s m args below meth c ls S hret hlk hK hP hl => ?_)
  have hS : va_S A s.heap s.heap [] := va_S.rf
  have hl : lv_has ls 3 [(0, .ref (ad (0, 0))), (1, .int v1), (2, .int v2)] := hl
  have hP : zV (dC, dI) zcl (zKs n) ad (zcE n cI cZ cR cA ad) st s.heap := hP
  unfold F_D_cost at hF
  refine lv_aload_n S.1 S.2.1 d_D_cost_0 rfl (lv_at hl 0 rfl) ?_
  refine lv_iload_n S.1 S.2.1 d_D_cost_1 rfl (lv_at hl 1 rfl) ?_
  refine lv_iload_n S.1 S.2.1 d_D_cost_2 rfl (lv_at hl 2 rfl) ?_
  cases hc3 : F_D_isLink n v1 v2 st with
  | none => rw [hc3] at hF; cases hF
  | some u3 =>
    obtain ⟨r3, st3⟩ := u3
    rw [hc3] at hF
    replace hF := zbind hF
    refine zr_callV (rest := []) S zT_good (C_D_isLink hn hD l v1 v2 st (r3, st3) hc3) zn_D_isLink zx_82 ⟨rfl, rfl⟩ ⟨Nat.le_of_ble_eq_true rfl, Nat.le_of_ble_eq_true rfl⟩ ⟨Nat.zero_le _, Nat.zero_le _⟩ hK (zr_recv hK hP zk_0 rfl rfl) hP hl.1 (Nat.le_of_ble_eq_true rfl) hS (fun _ h => h) d_D_cost_3 rfl (fun o H locs hpo _ _ hS => ?_)
    obtain ⟨rfl, hP⟩ := hpo
    refine W.eq (g2 := F0 m 6 ls [.int r3]) rfl ?_
    replace hF : F_D_cost_s1 n v1 v2 r3 st3 = some out := hF
    replace hP : zV (dC, dI) zcl (zKs n) ad (zcE n cI cZ cR cA ad) st3 H := hP
    unfold F_D_cost_s1 at hF
    refine lv_if_eq (tgt := 20) S.1 S.2.1 d_D_cost_6 (by decide) (fun h6 => ?_) (fun h6 => ?_)
    · rw [if_pos h6] at hF
      refine lv_iconst (v := (-1)) S.1 S.2.1 d_D_cost_20 (by decide) ?_
      cases hF
      exact zr_iret S hret hlk hS d_D_cost_21 ⟨rfl, hP⟩
    · rw [if_neg h6] at hF
      refine lv_aload_n S.1 S.2.1 d_D_cost_9 rfl (lv_at hl 0 rfl) ?_
      refine zr_get (v := .ref (ad (1, 0))) S zi_D hK hP zk_0 rfl rfl 1 (by decide) zx_9 rfl d_D_cost_10 ?_
      refine lv_iload_n S.1 S.2.1 d_D_cost_13 rfl (lv_at hl 1 rfl) ?_
      by_cases g14 : zOut v1 n
      · rw [if_pos g14] at hF; cases hF
      rw [if_neg g14] at hF
      refine zr_aald (b := ad (6, (Int32.toNatClampNeg v1))) S hK hP zk_1 rfl 3 rfl rfl g14 rfl d_D_cost_14 ?_
      refine lv_iload_n S.1 S.2.1 d_D_cost_15 rfl (lv_at hl 2 rfl) ?_
      by_cases g16 : zOut v2 n
      · rw [if_pos g16] at hF; cases hF
      rw [if_neg g16] at hF
      refine zr_iald S hK hP (zk_6 g14) rfl 0 rfl g16 d_D_cost_16 ?_
      refine lv_goto (tgt := 21) S.1 S.2.1 d_D_cost_17 (by decide) ?_
      cases hF
      exact zr_iret S hret hlk hS d_D_cost_21 ⟨rfl, hP⟩

theorem d_D_isRoute_0 : decode b_D_isRoute 0 = .ok (.aload_n 0, 1) := by decide +kernel
theorem d_D_isRoute_1 : decode b_D_isRoute 1 = .ok (.iload_n 1, 1) := by decide +kernel
theorem d_D_isRoute_2 : decode b_D_isRoute 2 = .ok (.invokevirtual 43, 3) := by decide +kernel
theorem d_D_isRoute_5 : decode b_D_isRoute 5 = .ok (.ifCond .eq 15, 3) := by decide +kernel
theorem d_D_isRoute_8 : decode b_D_isRoute 8 = .ok (.aload_n 0, 1) := by decide +kernel
theorem d_D_isRoute_9 : decode b_D_isRoute 9 = .ok (.iload_n 2, 1) := by decide +kernel
theorem d_D_isRoute_10 : decode b_D_isRoute 10 = .ok (.invokevirtual 43, 3) := by decide +kernel
theorem d_D_isRoute_13 : decode b_D_isRoute 13 = .ok (.ifCond .eq 7, 3) := by decide +kernel
theorem d_D_isRoute_16 : decode b_D_isRoute 16 = .ok (.iconst 1, 1) := by decide +kernel
theorem d_D_isRoute_17 : decode b_D_isRoute 17 = .ok (.goto 4, 3) := by decide +kernel
theorem d_D_isRoute_20 : decode b_D_isRoute 20 = .ok (.iconst 0, 1) := by decide +kernel
theorem d_D_isRoute_21 : decode b_D_isRoute 21 = .ok (.ireturn, 1) := by decide +kernel
def F_D_isRoute_s2 (n : Nat) (t0 : Int32) (st : zS) : Option (Int32 × zS) :=
    if t0 = 0 then (some (0, st)) else (some (1, st))

def F_D_isRoute_s1 (n : Nat) (v2 : Int32) (t0 : Int32) (st : zS) : Option (Int32 × zS) :=
    if t0 = 0 then (some (0, st)) else ((F_D_isRouter n v2 st).bind (fun u => F_D_isRoute_s2 n u.1 u.2))

def F_D_isRoute (n : Nat) (v1 : Int32) (v2 : Int32) (st : zS) : Option (Int32 × zS) :=
    (F_D_isRouter n v1 st).bind (fun u => F_D_isRoute_s1 n v2 u.1 u.2)

set_option maxHeartbeats 4000000 in
set_option maxRecDepth 1000000 in
theorem C_D_isRoute {dC : Nat → ClassId} {dI : Nat → Nat → Nat} {cI cZ cR cA : ClassId} {n : Nat} {ad : zK → Nat} {A : Nat → Prop} (hn : 2 ≤ n ∧ n ≤ 6) (hD : zD A (zKs n) ad) (l : Launch) (v1 : Int32) (v2 : Int32) (st : zS) (out : Int32 × zS) (hF : F_D_isRoute n v1 v2 st = some out) : zC zT (dC, dI) zcl (zty cI cZ cR cA) A l y_D_isRoute b_D_isRoute 3 (some .boolean) rm_D_isRoute [.ref (ad (0, 0)), .int v1, .int v2] (fun H => zV (dC, dI) zcl (zKs n) ad (zcE n cI cZ cR cA ad) st H) (fun o H => o = some (.int out.1) ∧ zV (dC, dI) zcl (zKs n) ad (zcE n cI cZ cR cA ad) out.2 H) := by
  refine zC_of (by decide) (Nat.le_of_ble_eq_true rfl) (fun p e s m args below meth c ls S hret hlk hK hP hl => ?_)
  have hS : va_S A s.heap s.heap [] := va_S.rf
  have hl : lv_has ls 3 [(0, .ref (ad (0, 0))), (1, .int v1), (2, .int v2)] := hl
  have hP : zV (dC, dI) zcl (zKs n) ad (zcE n cI cZ cR cA ad) st s.heap := hP
  unfold F_D_isRoute at hF
  refine lv_aload_n S.1 S.2.1 d_D_isRoute_0 rfl (lv_at hl 0 rfl) ?_
  refine lv_iload_n S.1 S.2.1 d_D_isRoute_1 rfl (lv_at hl 1 rfl) ?_
  cases hc2 : F_D_isRouter n v1 st with
  | none => rw [hc2] at hF; cases hF
  | some u2 =>
    obtain ⟨r2, st2⟩ := u2
    rw [hc2] at hF
    replace hF := zbind hF
    refine zr_callV (rest := []) S zT_good (C_D_isRouter hn hD l v1 st (r2, st2) hc2) zn_D_isRouter zx_78 ⟨rfl, rfl⟩ ⟨Nat.le_of_ble_eq_true rfl, Nat.le_of_ble_eq_true rfl⟩ ⟨Nat.zero_le _, Nat.zero_le _⟩ hK (zr_recv hK hP zk_0 rfl rfl) hP hl.1 (Nat.le_of_ble_eq_true rfl) hS (fun _ h => h) d_D_isRoute_2 rfl (fun o H locs hpo _ _ hS => ?_)
    obtain ⟨rfl, hP⟩ := hpo
    refine W.eq (g2 := F0 m 5 ls [.int r2]) rfl ?_
    replace hF : F_D_isRoute_s1 n v2 r2 st2 = some out := hF
    replace hP : zV (dC, dI) zcl (zKs n) ad (zcE n cI cZ cR cA ad) st2 H := hP
    unfold F_D_isRoute_s1 at hF
    refine lv_if_eq (tgt := 20) S.1 S.2.1 d_D_isRoute_5 (by decide) (fun h5 => ?_) (fun h5 => ?_)
    · rw [if_pos h5] at hF
      refine lv_iconst (v := 0) S.1 S.2.1 d_D_isRoute_20 (by decide) ?_
      cases hF
      exact zr_zret S hret hlk (by decide) hS d_D_isRoute_21 ⟨rfl, hP⟩
    · rw [if_neg h5] at hF
      refine lv_aload_n S.1 S.2.1 d_D_isRoute_8 rfl (lv_at hl 0 rfl) ?_
      refine lv_iload_n S.1 S.2.1 d_D_isRoute_9 rfl (lv_at hl 2 rfl) ?_
      cases hc10 : F_D_isRouter n v2 st2 with
      | none => rw [hc10] at hF; cases hF
      | some u10 =>
        obtain ⟨r10, st10⟩ := u10
        rw [hc10] at hF
        replace hF := zbind hF
        refine zr_callV (rest := []) S zT_good (C_D_isRouter hn hD l v2 st2 (r10, st10) hc10) zn_D_isRouter zx_78 ⟨rfl, rfl⟩ ⟨Nat.le_of_ble_eq_true rfl, Nat.le_of_ble_eq_true rfl⟩ ⟨Nat.zero_le _, Nat.zero_le _⟩ hK (zr_recv hK hP zk_0 rfl rfl) hP hl.1 (Nat.le_of_ble_eq_true rfl) hS (fun _ h => h) d_D_isRoute_10 rfl (fun o H locs hpo _ _ hS => ?_)
        obtain ⟨rfl, hP⟩ := hpo
        refine W.eq (g2 := F0 m 13 ls [.int r10]) rfl ?_
        replace hF : F_D_isRoute_s2 n r10 st10 = some out := hF
        replace hP : zV (dC, dI) zcl (zKs n) ad (zcE n cI cZ cR cA ad) st10 H := hP
        unfold F_D_isRoute_s2 at hF
        refine lv_if_eq (tgt := 20) S.1 S.2.1 d_D_isRoute_13 (by decide) (fun h13 => ?_) (fun h13 => ?_)
        · rw [if_pos h13] at hF
          refine lv_iconst (v := 0) S.1 S.2.1 d_D_isRoute_20 (by decide) ?_
          cases hF
          exact zr_zret S hret hlk (by decide) hS d_D_isRoute_21 ⟨rfl, hP⟩
        · rw [if_neg h13] at hF
          refine lv_iconst (v := 1) S.1 S.2.1 d_D_isRoute_16 (by decide) ?_
          refine lv_goto (tgt := 21) S.1 S.2.1 d_D_isRoute_17 (by decide) ?_
          cases hF
          exact zr_zret S hret hlk (by decide) hS d_D_isRoute_21 ⟨rfl, hP⟩

theorem d_D_distance_0 : decode b_D_distance 0 = .ok (.aload_n 0, 1) := by decide +kernel
theorem d_D_distance_1 : decode b_D_distance 1 = .ok (.iload_n 1, 1) := by decide +kernel
theorem d_D_distance_2 : decode b_D_distance 2 = .ok (.iload_n 2, 1) := by decide +kernel
theorem d_D_distance_3 : decode b_D_distance 3 = .ok (.invokevirtual 82, 3) := by decide +kernel
theorem d_D_distance_6 : decode b_D_distance 6 = .ok (.ifCond .eq 15, 3) := by decide +kernel
theorem d_D_distance_9 : decode b_D_distance 9 = .ok (.aload_n 0, 1) := by decide +kernel
theorem d_D_distance_10 : decode b_D_distance 10 = .ok (.iload_n 1, 1) := by decide +kernel
theorem d_D_distance_11 : decode b_D_distance 11 = .ok (.iload_n 2, 1) := by decide +kernel
theorem d_D_distance_12 : decode b_D_distance 12 = .ok (.invokevirtual 85, 3) := by decide +kernel
theorem d_D_distance_15 : decode b_D_distance 15 = .ok (.getfield 89, 3) := by decide +kernel
theorem d_D_distance_18 : decode b_D_distance 18 = .ok (.goto 4, 3) := by decide +kernel
theorem d_D_distance_21 : decode b_D_distance 21 = .ok (.iconst (-1), 1) := by decide +kernel
theorem d_D_distance_22 : decode b_D_distance 22 = .ok (.ireturn, 1) := by decide +kernel
def F_D_distance_s2 (n : Nat) (u0 : Nat) (st : zS) : Option (Int32 × zS) :=
    some (st 7 u0 0, st)

def F_D_distance_s1 (n : Nat) (v1 : Int32) (v2 : Int32) (t0 : Int32) (st : zS) : Option (Int32 × zS) :=
    if t0 = 0 then (some ((-1), st)) else ((F_D_route n v1 v2 st).bind (fun u => F_D_distance_s2 n u.1 u.2))

def F_D_distance (n : Nat) (v1 : Int32) (v2 : Int32) (st : zS) : Option (Int32 × zS) :=
    (F_D_isRoute n v1 v2 st).bind (fun u => F_D_distance_s1 n v1 v2 u.1 u.2)

set_option maxHeartbeats 4000000 in
set_option maxRecDepth 1000000 in
theorem C_D_distance {dC : Nat → ClassId} {dI : Nat → Nat → Nat} {cI cZ cR cA : ClassId} {n : Nat} {ad : zK → Nat} {A : Nat → Prop} (hn : 2 ≤ n ∧ n ≤ 6) (hD : zD A (zKs n) ad) (l : Launch) (v1 : Int32) (v2 : Int32) (st : zS) (out : Int32 × zS) (hF : F_D_distance n v1 v2 st = some out) : zC zT (dC, dI) zcl (zty cI cZ cR cA) A l y_D_distance b_D_distance 3 (some .int) rm_D_distance [.ref (ad (0, 0)), .int v1, .int v2] (fun H => zV (dC, dI) zcl (zKs n) ad (zcE n cI cZ cR cA ad) st H) (fun o H => o = some (.int out.1) ∧ zV (dC, dI) zcl (zKs n) ad (zcE n cI cZ cR cA ad) out.2 H) := by
  refine zC_of (by decide) (Nat.le_of_ble_eq_true rfl) (fun p e s m args below meth c ls S hret hlk hK hP hl => ?_)
  have hS : va_S A s.heap s.heap [] := va_S.rf
  have hl : lv_has ls 3 [(0, .ref (ad (0, 0))), (1, .int v1), (2, .int v2)] := hl
  have hP : zV (dC, dI) zcl (zKs n) ad (zcE n cI cZ cR cA ad) st s.heap := hP
  unfold F_D_distance at hF
  refine lv_aload_n S.1 S.2.1 d_D_distance_0 rfl (lv_at hl 0 rfl) ?_
  refine lv_iload_n S.1 S.2.1 d_D_distance_1 rfl (lv_at hl 1 rfl) ?_
  refine lv_iload_n S.1 S.2.1 d_D_distance_2 rfl (lv_at hl 2 rfl) ?_
  cases hc3 : F_D_isRoute n v1 v2 st with
  | none => rw [hc3] at hF; cases hF
  | some u3 =>
    obtain ⟨r3, st3⟩ := u3
    rw [hc3] at hF
    replace hF := zbind hF
    refine zr_callV (rest := []) S zT_good (C_D_isRoute hn hD l v1 v2 st (r3, st3) hc3) zn_D_isRoute zx_87 ⟨rfl, rfl⟩ ⟨Nat.le_of_ble_eq_true rfl, Nat.le_of_ble_eq_true rfl⟩ ⟨Nat.zero_le _, Nat.zero_le _⟩ hK (zr_recv hK hP zk_0 rfl rfl) hP hl.1 (Nat.le_of_ble_eq_true rfl) hS (fun _ h => h) d_D_distance_3 rfl (fun o H locs hpo _ _ hS => ?_)
    obtain ⟨rfl, hP⟩ := hpo
    refine W.eq (g2 := F0 m 6 ls [.int r3]) rfl ?_
    replace hF : F_D_distance_s1 n v1 v2 r3 st3 = some out := hF
    replace hP : zV (dC, dI) zcl (zKs n) ad (zcE n cI cZ cR cA ad) st3 H := hP
    unfold F_D_distance_s1 at hF
    refine lv_if_eq (tgt := 21) S.1 S.2.1 d_D_distance_6 (by decide) (fun h6 => ?_) (fun h6 => ?_)
    · rw [if_pos h6] at hF
      refine lv_iconst (v := (-1)) S.1 S.2.1 d_D_distance_21 (by decide) ?_
      cases hF
      exact zr_iret S hret hlk hS d_D_distance_22 ⟨rfl, hP⟩
    · rw [if_neg h6] at hF
      refine lv_aload_n S.1 S.2.1 d_D_distance_9 rfl (lv_at hl 0 rfl) ?_
      refine lv_iload_n S.1 S.2.1 d_D_distance_10 rfl (lv_at hl 1 rfl) ?_
      refine lv_iload_n S.1 S.2.1 d_D_distance_11 rfl (lv_at hl 2 rfl) ?_
      cases hc12 : F_D_route n v1 v2 st3 with
      | none => rw [hc12] at hF; cases hF
      | some u12 =>
        obtain ⟨r12, st12⟩ := u12
        rw [hc12] at hF
        replace hF := zbind hF
        refine zr_callV (rest := []) S zT_good (C_D_route hn hD l v1 v2 st3 (r12, st12) hc12) zn_D_route zx_88 ⟨rfl, rfl⟩ ⟨Nat.le_of_ble_eq_true rfl, Nat.le_of_ble_eq_true rfl⟩ ⟨Nat.zero_le _, Nat.zero_le _⟩ hK (zr_recv hK hP zk_0 rfl rfl) hP hl.1 (Nat.le_of_ble_eq_true rfl) hS (fun _ h => h) d_D_distance_12 rfl (fun o H locs hpo _ _ hS => ?_)
        obtain ⟨rfl, hP⟩ := hpo
        refine W.eq (g2 := F0 m 15 ls [.ref (ad (7, r12))]) rfl ?_
        have hk_r12 := zk_D_route hn hc12
        replace hF : F_D_distance_s2 n r12 st12 = some out := hF
        replace hP : zV (dC, dI) zcl (zKs n) ad (zcE n cI cZ cR cA ad) st12 H := hP
        unfold F_D_distance_s2 at hF
        refine zr_get (v := .int (st12 7 r12 0)) S zi_R hK hP hk_r12 rfl rfl 5 (by decide) zx_14 rfl d_D_distance_15 ?_
        refine lv_goto (tgt := 22) S.1 S.2.1 d_D_distance_18 (by decide) ?_
        cases hF
        exact zr_iret S hret hlk hS d_D_distance_22 ⟨rfl, hP⟩

theorem d_D_limit_0 : decode b_D_limit 0 = .ok (.aload_n 0, 1) := by decide +kernel
theorem d_D_limit_1 : decode b_D_limit 1 = .ok (.iload_n 1, 1) := by decide +kernel
theorem d_D_limit_2 : decode b_D_limit 2 = .ok (.iload_n 2, 1) := by decide +kernel
theorem d_D_limit_3 : decode b_D_limit 3 = .ok (.invokevirtual 82, 3) := by decide +kernel
theorem d_D_limit_6 : decode b_D_limit 6 = .ok (.ifCond .eq 15, 3) := by decide +kernel
theorem d_D_limit_9 : decode b_D_limit 9 = .ok (.aload_n 0, 1) := by decide +kernel
theorem d_D_limit_10 : decode b_D_limit 10 = .ok (.iload_n 1, 1) := by decide +kernel
theorem d_D_limit_11 : decode b_D_limit 11 = .ok (.iload_n 2, 1) := by decide +kernel
theorem d_D_limit_12 : decode b_D_limit 12 = .ok (.invokevirtual 85, 3) := by decide +kernel
theorem d_D_limit_15 : decode b_D_limit 15 = .ok (.getfield 92, 3) := by decide +kernel
theorem d_D_limit_18 : decode b_D_limit 18 = .ok (.goto 4, 3) := by decide +kernel
theorem d_D_limit_21 : decode b_D_limit 21 = .ok (.iconst (-1), 1) := by decide +kernel
theorem d_D_limit_22 : decode b_D_limit 22 = .ok (.ireturn, 1) := by decide +kernel
def F_D_limit_s2 (n : Nat) (u0 : Nat) (st : zS) : Option (Int32 × zS) :=
    some (st 7 u0 1, st)

def F_D_limit_s1 (n : Nat) (v1 : Int32) (v2 : Int32) (t0 : Int32) (st : zS) : Option (Int32 × zS) :=
    if t0 = 0 then (some ((-1), st)) else ((F_D_route n v1 v2 st).bind (fun u => F_D_limit_s2 n u.1 u.2))

def F_D_limit (n : Nat) (v1 : Int32) (v2 : Int32) (st : zS) : Option (Int32 × zS) :=
    (F_D_isRoute n v1 v2 st).bind (fun u => F_D_limit_s1 n v1 v2 u.1 u.2)

set_option maxHeartbeats 4000000 in
set_option maxRecDepth 1000000 in
theorem C_D_limit {dC : Nat → ClassId} {dI : Nat → Nat → Nat} {cI cZ cR cA : ClassId} {n : Nat} {ad : zK → Nat} {A : Nat → Prop} (hn : 2 ≤ n ∧ n ≤ 6) (hD : zD A (zKs n) ad) (l : Launch) (v1 : Int32) (v2 : Int32) (st : zS) (out : Int32 × zS) (hF : F_D_limit n v1 v2 st = some out) : zC zT (dC, dI) zcl (zty cI cZ cR cA) A l y_D_limit b_D_limit 3 (some .int) rm_D_limit [.ref (ad (0, 0)), .int v1, .int v2] (fun H => zV (dC, dI) zcl (zKs n) ad (zcE n cI cZ cR cA ad) st H) (fun o H => o = some (.int out.1) ∧ zV (dC, dI) zcl (zKs n) ad (zcE n cI cZ cR cA ad) out.2 H) := by
  refine zC_of (by decide) (Nat.le_of_ble_eq_true rfl) (fun p e s m args below meth c ls S hret hlk hK hP hl => ?_)
  have hS : va_S A s.heap s.heap [] := va_S.rf
  have hl : lv_has ls 3 [(0, .ref (ad (0, 0))), (1, .int v1), (2, .int v2)] := hl
  have hP : zV (dC, dI) zcl (zKs n) ad (zcE n cI cZ cR cA ad) st s.heap := hP
  unfold F_D_limit at hF
  refine lv_aload_n S.1 S.2.1 d_D_limit_0 rfl (lv_at hl 0 rfl) ?_
  refine lv_iload_n S.1 S.2.1 d_D_limit_1 rfl (lv_at hl 1 rfl) ?_
  refine lv_iload_n S.1 S.2.1 d_D_limit_2 rfl (lv_at hl 2 rfl) ?_
  cases hc3 : F_D_isRoute n v1 v2 st with
  | none => rw [hc3] at hF; cases hF
  | some u3 =>
    obtain ⟨r3, st3⟩ := u3
    rw [hc3] at hF
    replace hF := zbind hF
    refine zr_callV (rest := []) S zT_good (C_D_isRoute hn hD l v1 v2 st (r3, st3) hc3) zn_D_isRoute zx_87 ⟨rfl, rfl⟩ ⟨Nat.le_of_ble_eq_true rfl, Nat.le_of_ble_eq_true rfl⟩ ⟨Nat.zero_le _, Nat.zero_le _⟩ hK (zr_recv hK hP zk_0 rfl rfl) hP hl.1 (Nat.le_of_ble_eq_true rfl) hS (fun _ h => h) d_D_limit_3 rfl (fun o H locs hpo _ _ hS => ?_)
    obtain ⟨rfl, hP⟩ := hpo
    refine W.eq (g2 := F0 m 6 ls [.int r3]) rfl ?_
    replace hF : F_D_limit_s1 n v1 v2 r3 st3 = some out := hF
    replace hP : zV (dC, dI) zcl (zKs n) ad (zcE n cI cZ cR cA ad) st3 H := hP
    unfold F_D_limit_s1 at hF
    refine lv_if_eq (tgt := 21) S.1 S.2.1 d_D_limit_6 (by decide) (fun h6 => ?_) (fun h6 => ?_)
    · rw [if_pos h6] at hF
      refine lv_iconst (v := (-1)) S.1 S.2.1 d_D_limit_21 (by decide) ?_
      cases hF
      exact zr_iret S hret hlk hS d_D_limit_22 ⟨rfl, hP⟩
    · rw [if_neg h6] at hF
      refine lv_aload_n S.1 S.2.1 d_D_limit_9 rfl (lv_at hl 0 rfl) ?_
      refine lv_iload_n S.1 S.2.1 d_D_limit_10 rfl (lv_at hl 1 rfl) ?_
      refine lv_iload_n S.1 S.2.1 d_D_limit_11 rfl (lv_at hl 2 rfl) ?_
      cases hc12 : F_D_route n v1 v2 st3 with
      | none => rw [hc12] at hF; cases hF
      | some u12 =>
        obtain ⟨r12, st12⟩ := u12
        rw [hc12] at hF
        replace hF := zbind hF
        refine zr_callV (rest := []) S zT_good (C_D_route hn hD l v1 v2 st3 (r12, st12) hc12) zn_D_route zx_88 ⟨rfl, rfl⟩ ⟨Nat.le_of_ble_eq_true rfl, Nat.le_of_ble_eq_true rfl⟩ ⟨Nat.zero_le _, Nat.zero_le _⟩ hK (zr_recv hK hP zk_0 rfl rfl) hP hl.1 (Nat.le_of_ble_eq_true rfl) hS (fun _ h => h) d_D_limit_12 rfl (fun o H locs hpo _ _ hS => ?_)
        obtain ⟨rfl, hP⟩ := hpo
        refine W.eq (g2 := F0 m 15 ls [.ref (ad (7, r12))]) rfl ?_
        have hk_r12 := zk_D_route hn hc12
        replace hF : F_D_limit_s2 n r12 st12 = some out := hF
        replace hP : zV (dC, dI) zcl (zKs n) ad (zcE n cI cZ cR cA ad) st12 H := hP
        unfold F_D_limit_s2 at hF
        refine zr_get (v := .int (st12 7 r12 1)) S zi_R hK hP hk_r12 rfl rfl 6 (by decide) zx_15 rfl d_D_limit_15 ?_
        refine lv_goto (tgt := 22) S.1 S.2.1 d_D_limit_18 (by decide) ?_
        cases hF
        exact zr_iret S hret hlk hS d_D_limit_22 ⟨rfl, hP⟩

