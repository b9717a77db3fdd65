theorem d_D_weighAgain_0 : decode b_D_weighAgain 0 = .ok (.iconst 0, 1) := by decide +kernel
theorem d_D_weighAgain_1 : decode b_D_weighAgain 1 = .ok (.istore_n 3, 1) := by decide +kernel
theorem d_D_weighAgain_2 : decode b_D_weighAgain 2 = .ok (.iload_n 3, 1) := by decide +kernel
theorem d_D_weighAgain_3 : decode b_D_weighAgain 3 = .ok (.aload_n 0, 1) := by decide +kernel
theorem d_D_weighAgain_4 : decode b_D_weighAgain 4 = .ok (.getfield 18, 3) := by decide +kernel
theorem d_D_weighAgain_7 : decode b_D_weighAgain 7 = .ok (.if_icmp .ge 58, 3) := by decide +kernel
theorem d_D_weighAgain_10 : decode b_D_weighAgain 10 = .ok (.aload_n 0, 1) := by decide +kernel
theorem d_D_weighAgain_11 : decode b_D_weighAgain 11 = .ok (.iload_n 1, 1) := by decide +kernel
theorem d_D_weighAgain_12 : decode b_D_weighAgain 12 = .ok (.iload_n 3, 1) := by decide +kernel
theorem d_D_weighAgain_13 : decode b_D_weighAgain 13 = .ok (.invokevirtual 85, 3) := by decide +kernel
theorem d_D_weighAgain_16 : decode b_D_weighAgain 16 = .ok (.astore 4, 2) := by decide +kernel
theorem d_D_weighAgain_18 : decode b_D_weighAgain 18 = .ok (.aload 4, 2) := by decide +kernel
theorem d_D_weighAgain_20 : decode b_D_weighAgain 20 = .ok (.invokevirtual 141, 3) := by decide +kernel
theorem d_D_weighAgain_23 : decode b_D_weighAgain 23 = .ok (.ifCond .eq 6, 3) := by decide +kernel
theorem d_D_weighAgain_26 : decode b_D_weighAgain 26 = .ok (.goto 33, 3) := by decide +kernel
theorem d_D_weighAgain_29 : decode b_D_weighAgain 29 = .ok (.aload 4, 2) := by decide +kernel
theorem d_D_weighAgain_31 : decode b_D_weighAgain 31 = .ok (.getfield 98, 3) := by decide +kernel
theorem d_D_weighAgain_34 : decode b_D_weighAgain 34 = .ok (.ifCond .eq 12, 3) := by decide +kernel
theorem d_D_weighAgain_37 : decode b_D_weighAgain 37 = .ok (.aload 4, 2) := by decide +kernel
theorem d_D_weighAgain_39 : decode b_D_weighAgain 39 = .ok (.iload_n 2, 1) := by decide +kernel
theorem d_D_weighAgain_40 : decode b_D_weighAgain 40 = .ok (.invokevirtual 145, 3) := by decide +kernel
theorem d_D_weighAgain_43 : decode b_D_weighAgain 43 = .ok (.goto 10, 3) := by decide +kernel
theorem d_D_weighAgain_46 : decode b_D_weighAgain 46 = .ok (.aload_n 0, 1) := by decide +kernel
theorem d_D_weighAgain_47 : decode b_D_weighAgain 47 = .ok (.aload 4, 2) := by decide +kernel
theorem d_D_weighAgain_49 : decode b_D_weighAgain 49 = .ok (.iconst (-1), 1) := by decide +kernel
theorem d_D_weighAgain_50 : decode b_D_weighAgain 50 = .ok (.invokevirtual 149, 3) := by decide +kernel
theorem d_D_weighAgain_53 : decode b_D_weighAgain 53 = .ok (.aload_n 0, 1) := by decide +kernel
theorem d_D_weighAgain_54 : decode b_D_weighAgain 54 = .ok (.aload 4, 2) := by decide +kernel
theorem d_D_weighAgain_56 : decode b_D_weighAgain 56 = .ok (.invokevirtual 153, 3) := by decide +kernel
theorem d_D_weighAgain_59 : decode b_D_weighAgain 59 = .ok (.iinc 3 1, 3) := by decide +kernel
theorem d_D_weighAgain_62 : decode b_D_weighAgain 62 = .ok (.goto (-60), 3) := by decide +kernel
theorem d_D_weighAgain_65 : decode b_D_weighAgain 65 = .ok (.return_, 1) := by decide +kernel
def F_D_weighAgain_L59 (n : Nat) (c2 : Int32 → Int32 → Int32 → zS → Option (Int32 × zS)) (v1 : Int32) (v2 : Int32) (v3 : Int32) (st : zS) : Option (Int32 × zS) :=
    c2 v1 v2 (v3 + 1) st

def F_D_weighAgain_L53_s1 (n : Nat) (c2 : Int32 → Int32 → Int32 → zS → Option (Int32 × zS)) (v1 : Int32) (v2 : Int32) (v3 : Int32) (st : zS) : Option (Int32 × zS) :=
    F_D_weighAgain_L59 n c2 v1 v2 v3 st

def F_D_weighAgain_L53 (n : Nat) (c2 : Int32 → Int32 → Int32 → zS → Option (Int32 × zS)) (v1 : Int32) (v2 : Int32) (v3 : Int32) (k4 : Nat) (st : zS) : Option (Int32 × zS) :=
    (F_D_endIfDone n k4 st).bind (fun u => F_D_weighAgain_L53_s1 n c2 v1 v2 v3 u.2)

def F_D_weighAgain_L2_s3 (n : Nat) (c2 : Int32 → Int32 → Int32 → zS → Option (Int32 × zS)) (k4 : Nat) (v1 : Int32) (v2 : Int32) (v3 : Int32) (st : zS) : Option (Int32 × zS) :=
    F_D_weighAgain_L53 n c2 v1 v2 v3 k4 st

def F_D_weighAgain_L2_s4 (n : Nat) (c2 : Int32 → Int32 → Int32 → zS → Option (Int32 × zS)) (k4 : Nat) (v1 : Int32) (v2 : Int32) (v3 : Int32) (st : zS) : Option (Int32 × zS) :=
    F_D_weighAgain_L53 n c2 v1 v2 v3 k4 st

def F_D_weighAgain_L2_s2 (n : Nat) (c2 : Int32 → Int32 → Int32 → zS → Option (Int32 × zS)) (k4 : Nat) (v1 : Int32) (v2 : Int32) (v3 : Int32) (t0 : Int32) (st : zS) : Option (Int32 × zS) :=
    if t0 = 0 then (if (st 7 k4 3) = 0 then ((F_D_look n k4 (-1) st).bind (fun u => F_D_weighAgain_L2_s3 n c2 k4 v1 v2 v3 u.2)) else ((F_R_growIfFarther n k4 v2 st).bind (fun u => F_D_weighAgain_L2_s4 n c2 k4 v1 v2 v3 u.2))) else (F_D_weighAgain_L59 n c2 v1 v2 v3 st)

def F_D_weighAgain_L2_s1 (n : Nat) (c2 : Int32 → Int32 → Int32 → zS → Option (Int32 × zS)) (v1 : Int32) (v2 : Int32) (v3 : Int32) (u0 : Nat) (st : zS) : Option (Int32 × zS) :=
    (F_R_isOwn n u0 st).bind (fun u => F_D_weighAgain_L2_s2 n c2 u0 v1 v2 v3 u.1 u.2)

def F_D_weighAgain_L2 (n : Nat) : Nat → Int32 → Int32 → Int32 → zS → Option (Int32 × zS)
  | 0, _, _, _, _ => none
  | f + 1, v1, v2, v3, st =>
    if (nI n) ≤ v3 then (some (0, st)) else ((F_D_route n v1 v3 st).bind (fun u => F_D_weighAgain_L2_s1 n (F_D_weighAgain_L2 n f) v1 v2 v3 u.1 u.2))

def F_D_weighAgain (n : Nat) (v1 : Int32) (v2 : Int32) (st : zS) : Option (Int32 × zS) :=
    F_D_weighAgain_L2 n zFuel v1 v2 0 st

set_option maxHeartbeats 4000000 in
set_option maxRecDepth 1000000 in
theorem T_D_weighAgain_L59 {dC : Nat → ClassId} {dI : Nat → Nat → Nat} {cI cZ cR cA : ClassId} {n : Nat} {ad : zK → Nat} {A : Nat → Prop} (hn : 2 ≤ n ∧ n ≤ 6) (hD : zD A (zKs n) ad) {p : Program} {l : Launch} {e : Env} {s : State} {m : MethodId} {args : Array Value} {below : List Frame} {meth : Method} {c : Code} (S : CallFix p m c b_D_weighAgain 5 s args zT N_D) (hret : meth.sig.returnType = none) (hlk : meth.locks = false) (hK : va_K (dC, dI) zcl (zty cI cZ cR cA) s) (out : Int32 × zS) (c2 : Int32 → Int32 → Int32 → zS → Option (Int32 × zS)) (hc2 : ∀ (v1 : Int32) (v2 : Int32) (v3 : Int32) (st : zS) (H : Heap) (locs : List Loc) (ls : Array Slot), zV (dC, dI) zcl (zKs n) ad (zcE n cI cZ cR cA ad) st H → va_S A s.heap H locs → lv_has ls 5 [(0, .ref (ad (0, 0))), (1, .int v1), (2, .int v2), (3, .int v3)] → c2 v1 v2 v3 st = some out → W p l e rm_D_weighAgain s m args below meth c H locs 0 0 (zQ below A (fun o H => o = none ∧ zV (dC, dI) zcl (zKs n) ad (zcE n cI cZ cR cA ad) out.2 H) args s) (F0 m 2 ls [])) (v1 : Int32) (v2 : Int32) (v3 : Int32) (st : zS) (H : Heap) (locs : List Loc) (ls : Array Slot) (hP : zV (dC, dI) zcl (zKs n) ad (zcE n cI cZ cR cA ad) st H) (hS : va_S A s.heap H locs) (hl : lv_has ls 5 [(0, .ref (ad (0, 0))), (1, .int v1), (2, .int v2), (3, .int v3)]) (hF : F_D_weighAgain_L59 n c2 v1 v2 v3 st = some out) : W p l e rm_D_weighAgain s m args below meth c H locs 0 0 (zQ below A (fun o H => o = none ∧ zV (dC, dI) zcl (zKs n) ad (zcE n cI cZ cR cA ad) out.2 H) args s) (F0 m 59 ls []) := by
  unfold F_D_weighAgain_L59 at hF
  refine lv_iinc (k := 3) (v := v3 + 1) S.1 S.2.1 d_D_weighAgain_59 hl rfl rfl (by decide) rfl (fun ls hl => ?_)
  have hl : lv_has ls 5 [(3, .int (v3 + 1)), (0, .ref (ad (0, 0))), (1, .int v1), (2, .int v2)] := hl
  refine lv_goto (tgt := 2) S.1 S.2.1 d_D_weighAgain_62 (by decide) ?_
  exact hc2 v1 v2 (v3 + 1) st _ _ _ hP hS (lv_sub hl [1, 2, 3, 0] rfl) hF

set_option maxHeartbeats 4000000 in
set_option maxRecDepth 1000000 in
theorem T_D_weighAgain_L53 {dC : Nat → ClassId} {dI : Nat → Nat → Nat} {cI cZ cR cA : ClassId} {n : Nat} {ad : zK → Nat} {A : Nat → Prop} (hn : 2 ≤ n ∧ n ≤ 6) (hD : zD A (zKs n) ad) {p : Program} {l : Launch} {e : Env} {s : State} {m : MethodId} {args : Array Value} {below : List Frame} {meth : Method} {c : Code} (S : CallFix p m c b_D_weighAgain 5 s args zT N_D) (hret : meth.sig.returnType = none) (hlk : meth.locks = false) (hK : va_K (dC, dI) zcl (zty cI cZ cR cA) s) (out : Int32 × zS) (c2 : Int32 → Int32 → Int32 → zS → Option (Int32 × zS)) (hc2 : ∀ (v1 : Int32) (v2 : Int32) (v3 : Int32) (st : zS) (H : Heap) (locs : List Loc) (ls : Array Slot), zV (dC, dI) zcl (zKs n) ad (zcE n cI cZ cR cA ad) st H → va_S A s.heap H locs → lv_has ls 5 [(0, .ref (ad (0, 0))), (1, .int v1), (2, .int v2), (3, .int v3)] → c2 v1 v2 v3 st = some out → W p l e rm_D_weighAgain s m args below meth c H locs 0 0 (zQ below A (fun o H => o = none ∧ zV (dC, dI) zcl (zKs n) ad (zcE n cI cZ cR cA ad) out.2 H) args s) (F0 m 2 ls [])) (v1 : Int32) (v2 : Int32) (v3 : Int32) (k4 : Nat) (hk4 : (7, k4) ∈ zKs n) (st : zS) (H : Heap) (locs : List Loc) (ls : Array Slot) (hP : zV (dC, dI) zcl (zKs n) ad (zcE n cI cZ cR cA ad) st H) (hS : va_S A s.heap H locs) (hl : lv_has ls 5 [(0, .ref (ad (0, 0))), (1, .int v1), (2, .int v2), (3, .int v3), (4, .ref (ad (7, k4)))]) (hF : F_D_weighAgain_L53 n c2 v1 v2 v3 k4 st = some out) : W p l e rm_D_weighAgain s m args below meth c H locs 0 0 (zQ below A (fun o H => o = none ∧ zV (dC, dI) zcl (zKs n) ad (zcE n cI cZ cR cA ad) out.2 H) args s) (F0 m 53 ls []) := by
  unfold F_D_weighAgain_L53 at hF
  refine lv_aload_n S.1 S.2.1 d_D_weighAgain_53 rfl (lv_at hl 0 rfl) ?_
  refine lv_aload S.1 S.2.1 d_D_weighAgain_54 (lv_at hl 4 rfl) ?_
  cases hc56 : F_D_endIfDone n k4 st with
  | none => rw [hc56] at hF; cases hF
  | some u56 =>
    obtain ⟨r56, st56⟩ := u56
    rw [hc56] at hF
    replace hF := zbind hF
    refine zr_callV (rest := []) S zT_good (C_D_endIfDone hn hD l k4 hk4 st (r56, st56) hc56) zn_D_endIfDone zx_65 ⟨rfl, rfl⟩ ⟨Nat.le_of_ble_eq_true rfl, Nat.le_of_ble_eq_true rfl⟩ ⟨Nat.zero_le _, Nat.zero_le _⟩ hK (zr_recv hK hP zk_0 rfl rfl) hP hl.1 (Nat.le_of_ble_eq_true rfl) hS (fun _ h => h) d_D_weighAgain_56 rfl (fun o H locs hpo _ _ hS => ?_)
    obtain ⟨rfl, hP⟩ := hpo
    refine W.eq (g2 := F0 m 59 ls []) rfl ?_
    replace hF : F_D_weighAgain_L53_s1 n c2 v1 v2 v3 st56 = some out := hF
    replace hP : zV (dC, dI) zcl (zKs n) ad (zcE n cI cZ cR cA ad) st56 H := hP
    unfold F_D_weighAgain_L53_s1 at hF
    exact T_D_weighAgain_L59 hn hD S hret hlk hK out c2 hc2 v1 v2 v3 st56 _ _ _ hP hS (lv_sub hl [0, 1, 2, 3] rfl) hF

set_option maxHeartbeats 4000000 in
set_option maxRecDepth 1000000 in
theorem T_D_weighAgain_L2 {dC : Nat → ClassId} {dI : Nat → Nat → Nat} {cI cZ cR cA : ClassId} {n : Nat} {ad : zK → Nat} {A : Nat → Prop} (hn : 2 ≤ n ∧ n ≤ 6) (hD : zD A (zKs n) ad) {p : Program} {l : Launch} {e : Env} {s : State} {m : MethodId} {args : Array Value} {below : List Frame} {meth : Method} {c : Code} (S : CallFix p m c b_D_weighAgain 5 s args zT N_D) (hret : meth.sig.returnType = none) (hlk : meth.locks = false) (hK : va_K (dC, dI) zcl (zty cI cZ cR cA) s) (out : Int32 × zS) : ∀ (fu : Nat) (v1 : Int32) (v2 : Int32) (v3 : Int32) (st : zS) (H : Heap) (locs : List Loc) (ls : Array Slot) (hP : zV (dC, dI) zcl (zKs n) ad (zcE n cI cZ cR cA ad) st H) (hS : va_S A s.heap H locs) (hl : lv_has ls 5 [(0, .ref (ad (0, 0))), (1, .int v1), (2, .int v2), (3, .int v3)]) (hF : F_D_weighAgain_L2 n fu v1 v2 v3 st = some out), W p l e rm_D_weighAgain s m args below meth c H locs 0 0 (zQ below A (fun o H => o = none ∧ zV (dC, dI) zcl (zKs n) ad (zcE n cI cZ cR cA ad) out.2 H) args s) (F0 m 2 ls []) := by
  intro fu
  induction fu with
  | zero => intro v1 v2 v3 st H locs ls hP hS hl hF; rw [F_D_weighAgain_L2] at hF; cases hF
  | succ f ih =>
    intro v1 v2 v3 st H locs ls hP hS hl hF
    rw [F_D_weighAgain_L2] at hF
    refine lv_iload_n S.1 S.2.1 d_D_weighAgain_2 rfl (lv_at hl 3 rfl) ?_
    refine lv_aload_n S.1 S.2.1 d_D_weighAgain_3 rfl (lv_at hl 0 rfl) ?_
    refine zr_get (v := .int (nI n)) S zi_D hK hP zk_0 rfl rfl 0 (by decide) zx_8 rfl d_D_weighAgain_4 ?_
    refine lv_icmp_ge (tgt := 65) S.1 S.2.1 d_D_weighAgain_7 (by decide) (fun h7 => ?_) (fun h7 => ?_)
    · rw [if_pos h7] at hF
      cases hF
      exact zr_vret S hret hlk hS d_D_weighAgain_65 ⟨rfl, hP⟩
    · rw [if_neg h7] at hF
      refine lv_aload_n S.1 S.2.1 d_D_weighAgain_10 rfl (lv_at hl 0 rfl) ?_
      refine lv_iload_n S.1 S.2.1 d_D_weighAgain_11 rfl (lv_at hl 1 rfl) ?_
      refine lv_iload_n S.1 S.2.1 d_D_weighAgain_12 rfl (lv_at hl 3 rfl) ?_
      cases hc13 : F_D_route n v1 v3 st with
      | none => rw [hc13] at hF; cases hF
      | some u13 =>
        obtain ⟨r13, st13⟩ := u13
        rw [hc13] at hF
        replace hF := zbind hF
        refine zr_callV (rest := []) S zT_good (C_D_route hn hD l v1 v3 st (r13, st13) hc13) zn_D_route zx_88 ⟨rfl, rfl⟩ ⟨Nat.le_of_ble_eq_true rfl, Nat.le_of_ble_eq_true rfl⟩ ⟨Nat.zero_le _, Nat.zero_le _⟩ hK (zr_recv hK hP zk_0 rfl rfl) hP hl.1 (Nat.le_of_ble_eq_true rfl) hS (fun _ h => h) d_D_weighAgain_13 rfl (fun o H locs hpo _ _ hS => ?_)
        obtain ⟨rfl, hP⟩ := hpo
        refine W.eq (g2 := F0 m 16 ls [.ref (ad (7, r13))]) rfl ?_
        have hk_r13 := zk_D_route hn hc13
        replace hF : F_D_weighAgain_L2_s1 n (F_D_weighAgain_L2 n f) v1 v2 v3 r13 st13 = some out := hF
        replace hP : zV (dC, dI) zcl (zKs n) ad (zcE n cI cZ cR cA ad) st13 H := hP
        unfold F_D_weighAgain_L2_s1 at hF
        refine lv_astore S.1 S.2.1 d_D_weighAgain_16 hl (by decide) rfl (fun ls hl => ?_)
        have hl : lv_has ls 5 [(4, .ref (ad (7, r13))), (0, .ref (ad (0, 0))), (1, .int v1), (2, .int v2), (3, .int v3)] := hl
        refine lv_aload S.1 S.2.1 d_D_weighAgain_18 (lv_at hl 0 rfl) ?_
        cases hc20 : F_R_isOwn n r13 st13 with
        | none => rw [hc20] at hF; cases hF
        | some u20 =>
          obtain ⟨r20, st20⟩ := u20
          rw [hc20] at hF
          replace hF := zbind hF
          refine zr_callV (rest := []) S zT_good (C_R_isOwn hn hD l r13 hk_r13 st13 (r20, st20) hc20) zn_R_isOwn zx_61 ⟨rfl, rfl⟩ ⟨Nat.le_of_ble_eq_true rfl, Nat.le_of_ble_eq_true rfl⟩ ⟨Nat.zero_le _, Nat.zero_le _⟩ hK (zr_recv hK hP hk_r13 rfl rfl) hP hl.1 (Nat.le_of_ble_eq_true rfl) hS (fun _ h => h) d_D_weighAgain_20 rfl (fun o H locs hpo _ _ hS => ?_)
          obtain ⟨rfl, hP⟩ := hpo
          refine W.eq (g2 := F0 m 23 ls [.int r20]) rfl ?_
          replace hF : F_D_weighAgain_L2_s2 n (F_D_weighAgain_L2 n f) r13 v1 v2 v3 r20 st20 = some out := hF
          replace hP : zV (dC, dI) zcl (zKs n) ad (zcE n cI cZ cR cA ad) st20 H := hP
          unfold F_D_weighAgain_L2_s2 at hF
          refine lv_if_eq (tgt := 29) S.1 S.2.1 d_D_weighAgain_23 (by decide) (fun h23 => ?_) (fun h23 => ?_)
          · rw [if_pos h23] at hF
            refine lv_aload S.1 S.2.1 d_D_weighAgain_29 (lv_at hl 0 rfl) ?_
            refine zr_get (v := .int (st20 7 r13 3)) S zi_R hK hP hk_r13 rfl rfl 8 (by decide) zx_17 rfl d_D_weighAgain_31 ?_
            refine lv_if_eq (tgt := 46) S.1 S.2.1 d_D_weighAgain_34 (by decide) (fun h34 => ?_) (fun h34 => ?_)
            · rw [if_pos h34] at hF
              refine lv_aload_n S.1 S.2.1 d_D_weighAgain_46 rfl (lv_at hl 1 rfl) ?_
              refine lv_aload S.1 S.2.1 d_D_weighAgain_47 (lv_at hl 0 rfl) ?_
              refine lv_iconst (v := (-1)) S.1 S.2.1 d_D_weighAgain_49 (by decide) ?_
              cases hc50 : F_D_look n r13 (-1) st20 with
              | none => rw [hc50] at hF; cases hF
              | some u50 =>
                obtain ⟨r50, st50⟩ := u50
                rw [hc50] at hF
                replace hF := zbind hF
                refine zr_callV (rest := []) S zT_good (C_D_look hn hD l r13 (-1) hk_r13 st20 (r50, st50) hc50) zn_D_look zx_63 ⟨rfl, rfl⟩ ⟨Nat.le_of_ble_eq_true rfl, Nat.le_of_ble_eq_true rfl⟩ ⟨Nat.zero_le _, Nat.zero_le _⟩ hK (zr_recv hK hP zk_0 rfl rfl) hP hl.1 (Nat.le_of_ble_eq_true rfl) hS (fun _ h => h) d_D_weighAgain_50 rfl (fun o H locs hpo _ _ hS => ?_)
                obtain ⟨rfl, hP⟩ := hpo
                refine W.eq (g2 := F0 m 53 ls []) rfl ?_
                replace hF : F_D_weighAgain_L2_s3 n (F_D_weighAgain_L2 n f) r13 v1 v2 v3 st50 = some out := hF
                replace hP : zV (dC, dI) zcl (zKs n) ad (zcE n cI cZ cR cA ad) st50 H := hP
                unfold F_D_weighAgain_L2_s3 at hF
                exact T_D_weighAgain_L53 hn hD S hret hlk hK out (F_D_weighAgain_L2 n f) ih v1 v2 v3 r13 hk_r13 st50 _ _ _ hP hS (lv_sub hl [1, 2, 3, 4, 0] rfl) hF
            · rw [if_neg h34] at hF
              refine lv_aload S.1 S.2.1 d_D_weighAgain_37 (lv_at hl 0 rfl) ?_
              refine lv_iload_n S.1 S.2.1 d_D_weighAgain_39 rfl (lv_at hl 3 rfl) ?_
              cases hc40 : F_R_growIfFarther n r13 v2 st20 with
              | none => rw [hc40] at hF; cases hF
              | some u40 =>
                obtain ⟨r40, st40⟩ := u40
                rw [hc40] at hF
                replace hF := zbind hF
                refine zr_callV (rest := []) S zT_good (C_R_growIfFarther hn hD l r13 v2 hk_r13 st20 (r40, st40) hc40) zn_R_growIfFarther zx_62 ⟨rfl, rfl⟩ ⟨Nat.le_of_ble_eq_true rfl, Nat.le_of_ble_eq_true rfl⟩ ⟨Nat.zero_le _, Nat.zero_le _⟩ hK (zr_recv hK hP hk_r13 rfl rfl) hP hl.1 (Nat.le_of_ble_eq_true rfl) hS (fun _ h => h) d_D_weighAgain_40 rfl (fun o H locs hpo _ _ hS => ?_)
                obtain ⟨rfl, hP⟩ := hpo
                refine W.eq (g2 := F0 m 43 ls []) rfl ?_
                replace hF : F_D_weighAgain_L2_s4 n (F_D_weighAgain_L2 n f) r13 v1 v2 v3 st40 = some out := hF
                replace hP : zV (dC, dI) zcl (zKs n) ad (zcE n cI cZ cR cA ad) st40 H := hP
                unfold F_D_weighAgain_L2_s4 at hF
                refine lv_goto (tgt := 53) S.1 S.2.1 d_D_weighAgain_43 (by decide) ?_
                exact T_D_weighAgain_L53 hn hD S hret hlk hK out (F_D_weighAgain_L2 n f) ih v1 v2 v3 r13 hk_r13 st40 _ _ _ hP hS (lv_sub hl [1, 2, 3, 4, 0] rfl) hF
          · rw [if_neg h23] at hF
            refine lv_goto (tgt := 59) S.1 S.2.1 d_D_weighAgain_26 (by decide) ?_
            exact T_D_weighAgain_L59 hn hD S hret hlk hK out (F_D_weighAgain_L2 n f) ih v1 v2 v3 st20 _ _ _ hP hS (lv_sub hl [1, 2, 3, 4] rfl) hF

set_option maxHeartbeats 4000000 in
set_option maxRecDepth 1000000 in
theorem C_D_weighAgain {dC : Nat → ClassId} {dI : Nat → Nat → Nat} {cI cZ cR cA : ClassId} {n : Nat} {ad : zK → Nat} {A : Nat → Prop} (hn : 2 ≤ n ∧ n ≤ 6) (hD : zD A (zKs n) ad) (l : Launch) (v1 : Int32) (v2 : Int32) (st : zS) (out : Int32 × zS) (hF : F_D_weighAgain n v1 v2 st = some out) : zC zT (dC, dI) zcl (zty cI cZ cR cA) A l y_D_weighAgain b_D_weighAgain 5 (none) rm_D_weighAgain [.ref (ad (0, 0)), .int v1, .int v2] (fun H => zV (dC, dI) zcl (zKs n) ad (zcE n cI cZ cR cA ad) st H) (fun o H => o = none ∧ zV (dC, dI) zcl (zKs n) ad (zcE n cI cZ cR cA ad) out.2 H) := by
  refine zC_of (by decide) (Nat.le_of_ble_eq_true rfl) (fun p e s m args below meth c ls S hret hlk hK hP hl => ?_)
  have hS : va_S A s.heap s.heap [] := va_S.rf
  have hl : lv_has ls 5 [(0, .ref (ad (0, 0))), (1, .int v1), (2, .int v2)] := hl
  have hP : zV (dC, dI) zcl (zKs n) ad (zcE n cI cZ cR cA ad) st s.heap := hP
  unfold F_D_weighAgain at hF
  refine lv_iconst (v := 0) S.1 S.2.1 d_D_weighAgain_0 (by decide) ?_
  refine lv_istore_n S.1 S.2.1 d_D_weighAgain_1 rfl hl (by decide) rfl (fun ls hl => ?_)
  have hl : lv_has ls 5 [(3, .int 0), (0, .ref (ad (0, 0))), (1, .int v1), (2, .int v2)] := hl
  exact T_D_weighAgain_L2 hn hD S hret hlk hK out zFuel v1 v2 0 st _ _ _ hP hS (lv_sub hl [1, 2, 3, 0] rfl) hF

theorem d_D_connect_0 : decode b_D_connect 0 = .ok (.aload_n 0, 1) := by decide +kernel
theorem d_D_connect_1 : decode b_D_connect 1 = .ok (.iload_n 1, 1) := by decide +kernel
theorem d_D_connect_2 : decode b_D_connect 2 = .ok (.invokevirtual 43, 3) := by decide +kernel
theorem d_D_connect_5 : decode b_D_connect 5 = .ok (.ifCond .eq 27, 3) := by decide +kernel
theorem d_D_connect_8 : decode b_D_connect 8 = .ok (.aload_n 0, 1) := by decide +kernel
theorem d_D_connect_9 : decode b_D_connect 9 = .ok (.iload_n 2, 1) := by decide +kernel
theorem d_D_connect_10 : decode b_D_connect 10 = .ok (.invokevirtual 43, 3) := by decide +kernel
theorem d_D_connect_13 : decode b_D_connect 13 = .ok (.ifCond .eq 19, 3) := by decide +kernel
theorem d_D_connect_16 : decode b_D_connect 16 = .ok (.iload_n 1, 1) := by decide +kernel
theorem d_D_connect_17 : decode b_D_connect 17 = .ok (.iload_n 2, 1) := by decide +kernel
theorem d_D_connect_18 : decode b_D_connect 18 = .ok (.if_icmp .eq 14, 3) := by decide +kernel
theorem d_D_connect_21 : decode b_D_connect 21 = .ok (.iload_n 3, 1) := by decide +kernel
theorem d_D_connect_22 : decode b_D_connect 22 = .ok (.iconst 1, 1) := by decide +kernel
theorem d_D_connect_23 : decode b_D_connect 23 = .ok (.if_icmp .lt 9, 3) := by decide +kernel
theorem d_D_connect_26 : decode b_D_connect 26 = .ok (.iload_n 3, 1) := by decide +kernel
theorem d_D_connect_27 : decode b_D_connect 27 = .ok (.bipush 100, 2) := by decide +kernel
theorem d_D_connect_29 : decode b_D_connect 29 = .ok (.if_icmp .le 5, 3) := by decide +kernel
theorem d_D_connect_32 : decode b_D_connect 32 = .ok (.iconst (-1), 1) := by decide +kernel
theorem d_D_connect_33 : decode b_D_connect 33 = .ok (.ireturn, 1) := by decide +kernel
theorem d_D_connect_34 : decode b_D_connect 34 = .ok (.aload_n 0, 1) := by decide +kernel
theorem d_D_connect_35 : decode b_D_connect 35 = .ok (.getfield 39, 3) := by decide +kernel
theorem d_D_connect_38 : decode b_D_connect 38 = .ok (.invokevirtual 47, 3) := by decide +kernel
theorem d_D_connect_41 : decode b_D_connect 41 = .ok (.bipush 100, 2) := by decide +kernel
theorem d_D_connect_43 : decode b_D_connect 43 = .ok (.if_icmp .le 6, 3) := by decide +kernel
theorem d_D_connect_46 : decode b_D_connect 46 = .ok (.bipush (-2), 2) := by decide +kernel
theorem d_D_connect_48 : decode b_D_connect 48 = .ok (.ireturn, 1) := by decide +kernel
theorem d_D_connect_49 : decode b_D_connect 49 = .ok (.aload_n 0, 1) := by decide +kernel
theorem d_D_connect_50 : decode b_D_connect 50 = .ok (.getfield 24, 3) := by decide +kernel
theorem d_D_connect_53 : decode b_D_connect 53 = .ok (.iload_n 1, 1) := by decide +kernel
theorem d_D_connect_54 : decode b_D_connect 54 = .ok (.aaload, 1) := by decide +kernel
theorem d_D_connect_55 : decode b_D_connect 55 = .ok (.iload_n 2, 1) := by decide +kernel
theorem d_D_connect_56 : decode b_D_connect 56 = .ok (.iaload, 1) := by decide +kernel
theorem d_D_connect_57 : decode b_D_connect 57 = .ok (.ifCond .ne 7, 3) := by decide +kernel
theorem d_D_connect_60 : decode b_D_connect 60 = .ok (.iconst 1, 1) := by decide +kernel
theorem d_D_connect_61 : decode b_D_connect 61 = .ok (.goto 4, 3) := by decide +kernel
theorem d_D_connect_64 : decode b_D_connect 64 = .ok (.iconst 0, 1) := by decide +kernel
theorem d_D_connect_65 : decode b_D_connect 65 = .ok (.istore 4, 2) := by decide +kernel
theorem d_D_connect_67 : decode b_D_connect 67 = .ok (.aload_n 0, 1) := by decide +kernel
theorem d_D_connect_68 : decode b_D_connect 68 = .ok (.getfield 24, 3) := by decide +kernel
theorem d_D_connect_71 : decode b_D_connect 71 = .ok (.iload_n 1, 1) := by decide +kernel
theorem d_D_connect_72 : decode b_D_connect 72 = .ok (.aaload, 1) := by decide +kernel
theorem d_D_connect_73 : decode b_D_connect 73 = .ok (.iload_n 2, 1) := by decide +kernel
theorem d_D_connect_74 : decode b_D_connect 74 = .ok (.iload_n 3, 1) := by decide +kernel
theorem d_D_connect_75 : decode b_D_connect 75 = .ok (.iastore, 1) := by decide +kernel
theorem d_D_connect_76 : decode b_D_connect 76 = .ok (.aload_n 0, 1) := by decide +kernel
theorem d_D_connect_77 : decode b_D_connect 77 = .ok (.getfield 24, 3) := by decide +kernel
theorem d_D_connect_80 : decode b_D_connect 80 = .ok (.iload_n 2, 1) := by decide +kernel
theorem d_D_connect_81 : decode b_D_connect 81 = .ok (.aaload, 1) := by decide +kernel
theorem d_D_connect_82 : decode b_D_connect 82 = .ok (.iload_n 1, 1) := by decide +kernel
theorem d_D_connect_83 : decode b_D_connect 83 = .ok (.iload_n 3, 1) := by decide +kernel
theorem d_D_connect_84 : decode b_D_connect 84 = .ok (.iastore, 1) := by decide +kernel
theorem d_D_connect_85 : decode b_D_connect 85 = .ok (.iload_n 1, 1) := by decide +kernel
theorem d_D_connect_86 : decode b_D_connect 86 = .ok (.iload_n 2, 1) := by decide +kernel
theorem d_D_connect_87 : decode b_D_connect 87 = .ok (.invokestatic 9, 3) := by decide +kernel
theorem d_D_connect_90 : decode b_D_connect 90 = .ok (.istore 5, 2) := by decide +kernel
theorem d_D_connect_92 : decode b_D_connect 92 = .ok (.iload_n 1, 1) := by decide +kernel
theorem d_D_connect_93 : decode b_D_connect 93 = .ok (.iload_n 2, 1) := by decide +kernel
theorem d_D_connect_94 : decode b_D_connect 94 = .ok (.invokestatic 15, 3) := by decide +kernel
theorem d_D_connect_97 : decode b_D_connect 97 = .ok (.istore 6, 2) := by decide +kernel
theorem d_D_connect_99 : decode b_D_connect 99 = .ok (.iload 4, 2) := by decide +kernel
theorem d_D_connect_101 : decode b_D_connect 101 = .ok (.ifCond .eq 32, 3) := by decide +kernel
theorem d_D_connect_104 : decode b_D_connect 104 = .ok (.aload_n 0, 1) := by decide +kernel
theorem d_D_connect_105 : decode b_D_connect 105 = .ok (.dup, 1) := by decide +kernel
theorem d_D_connect_106 : decode b_D_connect 106 = .ok (.getfield 51, 3) := by decide +kernel
theorem d_D_connect_109 : decode b_D_connect 109 = .ok (.iconst 1, 1) := by decide +kernel
theorem d_D_connect_110 : decode b_D_connect 110 = .ok (.iadd, 1) := by decide +kernel
theorem d_D_connect_111 : decode b_D_connect 111 = .ok (.putfield 51, 3) := by decide +kernel
theorem d_D_connect_114 : decode b_D_connect 114 = .ok (.aload_n 0, 1) := by decide +kernel
theorem d_D_connect_115 : decode b_D_connect 115 = .ok (.iload 5, 2) := by decide +kernel
theorem d_D_connect_117 : decode b_D_connect 117 = .ok (.iload 6, 2) := by decide +kernel
theorem d_D_connect_119 : decode b_D_connect 119 = .ok (.invokevirtual 54, 3) := by decide +kernel
theorem d_D_connect_122 : decode b_D_connect 122 = .ok (.aload_n 0, 1) := by decide +kernel
theorem d_D_connect_123 : decode b_D_connect 123 = .ok (.iload 6, 2) := by decide +kernel
theorem d_D_connect_125 : decode b_D_connect 125 = .ok (.iload 5, 2) := by decide +kernel
theorem d_D_connect_127 : decode b_D_connect 127 = .ok (.invokevirtual 54, 3) := by decide +kernel
theorem d_D_connect_130 : decode b_D_connect 130 = .ok (.goto 19, 3) := by decide +kernel
theorem d_D_connect_133 : decode b_D_connect 133 = .ok (.aload_n 0, 1) := by decide +kernel
theorem d_D_connect_134 : decode b_D_connect 134 = .ok (.iload 5, 2) := by decide +kernel
theorem d_D_connect_136 : decode b_D_connect 136 = .ok (.iload 6, 2) := by decide +kernel
theorem d_D_connect_138 : decode b_D_connect 138 = .ok (.invokevirtual 58, 3) := by decide +kernel
theorem d_D_connect_141 : decode b_D_connect 141 = .ok (.aload_n 0, 1) := by decide +kernel
theorem d_D_connect_142 : decode b_D_connect 142 = .ok (.iload 6, 2) := by decide +kernel
theorem d_D_connect_144 : decode b_D_connect 144 = .ok (.iload 5, 2) := by decide +kernel
theorem d_D_connect_146 : decode b_D_connect 146 = .ok (.invokevirtual 58, 3) := by decide +kernel
theorem d_D_connect_149 : decode b_D_connect 149 = .ok (.aload_n 0, 1) := by decide +kernel
theorem d_D_connect_150 : decode b_D_connect 150 = .ok (.getfield 51, 3) := by decide +kernel
theorem d_D_connect_153 : decode b_D_connect 153 = .ok (.ireturn, 1) := by decide +kernel
def F_D_connect_L65_s4 (n : Nat) (st : zS) : Option (Int32 × zS) :=
    some (st 0 0 0, st)

def F_D_connect_L65_s3 (n : Nat) (v6 : Int32) (v5 : Int32) (st : zS) : Option (Int32 × zS) :=
    (F_D_weighAgain n v6 v5 st).bind (fun u => F_D_connect_L65_s4 n u.2)

def F_D_connect_L65_s7 (n : Nat) (st : zS) : Option (Int32 × zS) :=
    some (st 0 0 0, st)

def F_D_connect_L65_s6 (n : Nat) (v6 : Int32) (v5 : Int32) (st : zS) : Option (Int32 × zS) :=
    (F_D_greet n v6 v5 st).bind (fun u => F_D_connect_L65_s7 n u.2)

def F_D_connect_L65_s5 (n : Nat) (v6 : Int32) (v5 : Int32) (st : zS) : Option (Int32 × zS) :=
    (F_D_greet n v5 v6 st).bind (fun u => F_D_connect_L65_s6 n v6 v5 u.2)

def F_D_connect_L65_s2 (n : Nat) (v4 : Int32) (v1 : Int32) (v2 : Int32) (st : zS) : Option (Int32 × zS) :=
    if v4 = 0 then ((F_D_weighAgain n (if v2 < v1 then v2 else v1) (if v1 < v2 then v2 else v1) st).bind (fun u => F_D_connect_L65_s3 n (if v1 < v2 then v2 else v1) (if v2 < v1 then v2 else v1) u.2)) else (F_D_connect_L65_s5 n (if v1 < v2 then v2 else v1) (if v2 < v1 then v2 else v1) (zs st 0 0 0 ((st 0 0 0) + 1)))

def F_D_connect_L65_s1 (n : Nat) (v4 : Int32) (v1 : Int32) (v2 : Int32) (v3 : Int32) (st : zS) : Option (Int32 × zS) :=
    if zOut v2 n then none else if zOut v1 n then none else F_D_connect_L65_s2 n v4 v1 v2 (zs st 6 (Int32.toNatClampNeg v2) (Int32.toNatClampNeg v1) v3)

def F_D_connect_L65 (n : Nat) (v1 : Int32) (v2 : Int32) (v3 : Int32) (t0 : Int32) (st : zS) : Option (Int32 × zS) :=
    if zOut v1 n then none else if zOut v2 n then none else F_D_connect_L65_s1 n t0 v1 v2 v3 (zs st 6 (Int32.toNatClampNeg v1) (Int32.toNatClampNeg v2) v3)

def F_D_connect_s3 (n : Nat) (v1 : Int32) (v2 : Int32) (v3 : Int32) (t0 : Int32) (st : zS) : Option (Int32 × zS) :=
    if t0 ≤ 100 then (if zOut v1 n then none else if zOut v2 n then none else if (st 6 (Int32.toNatClampNeg v1) (Int32.toNatClampNeg v2)) = 0 then (F_D_connect_L65 n v1 v2 v3 1 st) else (F_D_connect_L65 n v1 v2 v3 0 st)) else (some ((-2), st))

def F_D_connect_s2 (n : Nat) (v1 : Int32) (v2 : Int32) (v3 : Int32) (t0 : Int32) (st : zS) : Option (Int32 × zS) :=
    if t0 = 0 then (some ((-1), st)) else (if v1 = v2 then (some ((-1), st)) else (if v3 < 1 then (some ((-1), st)) else (if v3 ≤ 100 then ((F_L_size n st).bind (fun u => F_D_connect_s3 n v1 v2 v3 u.1 u.2)) else (some ((-1), st)))))

def F_D_connect_s1 (n : Nat) (v1 : Int32) (v2 : Int32) (v3 : Int32) (t0 : Int32) (st : zS) : Option (Int32 × zS) :=
    if t0 = 0 then (some ((-1), st)) else ((F_D_isRouter n v2 st).bind (fun u => F_D_connect_s2 n v1 v2 v3 u.1 u.2))

def F_D_connect (n : Nat) (v1 : Int32) (v2 : Int32) (v3 : Int32) (st : zS) : Option (Int32 × zS) :=
    (F_D_isRouter n v1 st).bind (fun u => F_D_connect_s1 n v1 v2 v3 u.1 u.2)

set_option maxHeartbeats 4000000 in
set_option maxRecDepth 1000000 in
theorem T_D_connect_L65 {dC : Nat → ClassId} {dI : Nat → Nat → Nat} {cI cZ cR cA : ClassId} {n : Nat} {ad : zK → Nat} {A : Nat → Prop} (hn : 2 ≤ n ∧ n ≤ 6) (hD : zD A (zKs n) ad) {p : Program} {l : Launch} {e : Env} {s : State} {m : MethodId} {args : Array Value} {below : List Frame} {meth : Method} {c : Code} (S : CallFix p m c b_D_connect 7 s args zT N_D) (hret : meth.sig.returnType = some .int) (hlk : meth.locks = false) (hK : va_K (dC, dI) zcl (zty cI cZ cR cA) s) (out : Int32 × zS) (v1 : Int32) (v2 : Int32) (v3 : Int32) (t0 : Int32) (st : zS) (H : Heap) (locs : List Loc) (ls : Array Slot) (hP : zV (dC, dI) zcl (zKs n) ad (zcE n cI cZ cR cA ad) st H) (hS : va_S A s.heap H locs) (hl : lv_has ls 7 [(0, .ref (ad (0, 0))), (1, .int v1), (2, .int v2), (3, .int v3)]) (hF : F_D_connect_L65 n v1 v2 v3 t0 st = some out) : W p l e rm_D_connect s m args below meth c H locs 0 0 (zQ below A (fun o H => o = some (.int out.1) ∧ zV (dC, dI) zcl (zKs n) ad (zcE n cI cZ cR cA ad) out.2 H) args s) (F0 m 65 ls [.int t0]) := by
  unfold F_D_connect_L65 at hF
  refine lv_istore S.1 S.2.1 d_D_connect_65 hl (by decide) rfl (fun ls hl => ?_)
  have hl : lv_has ls 7 [(4, .int t0), (0, .ref (ad (0, 0))), (1, .int v1), (2, .int v2), (3, .int v3)] := hl
  refine lv_aload_n S.1 S.2.1 d_D_connect_67 rfl (lv_at hl 1 rfl) ?_
  refine zr_get (v := .ref (ad (1, 0))) S zi_D hK hP zk_0 rfl rfl 1 (by decide) zx_9 rfl d_D_connect_68 ?_
  refine lv_iload_n S.1 S.2.1 d_D_connect_71 rfl (lv_at hl 2 rfl) ?_
  by_cases g72 : zOut v1 n
  · rw [if_pos g72] at hF; cases hF
  rw [if_neg g72] at hF
  refine zr_aald (b := ad (6, (Int32.toNatClampNeg v1))) S hK hP zk_1 rfl 3 rfl rfl g72 rfl d_D_connect_72 ?_
  refine lv_iload_n S.1 S.2.1 d_D_connect_73 rfl (lv_at hl 3 rfl) ?_
  refine lv_iload_n S.1 S.2.1 d_D_connect_74 rfl (lv_at hl 4 rfl) ?_
  by_cases g75 : zOut v2 n
  · rw [if_pos g75] at hF; cases hF
  rw [if_neg g75] at hF
  refine zr_iast S hK hP hD hS (zk_6 g72) (fun _ => rfl) 0 rfl g75 d_D_connect_75 (fun H locs hP hS => ?_)
  replace hF : F_D_connect_L65_s1 n t0 v1 v2 v3 (zs st 6 (Int32.toNatClampNeg v1) (Int32.toNatClampNeg v2) v3) = some out := hF
  generalize zs st 6 (Int32.toNatClampNeg v1) (Int32.toNatClampNeg v2) v3 = st76 at hP hF
  unfold F_D_connect_L65_s1 at hF
  refine lv_aload_n S.1 S.2.1 d_D_connect_76 rfl (lv_at hl 1 rfl) ?_
  refine zr_get (v := .ref (ad (1, 0))) S zi_D hK hP zk_0 rfl rfl 1 (by decide) zx_9 rfl d_D_connect_77 ?_
  refine lv_iload_n S.1 S.2.1 d_D_connect_80 rfl (lv_at hl 3 rfl) ?_
  by_cases g81 : zOut v2 n
  · rw [if_pos g81] at hF; cases hF
  rw [if_neg g81] at hF
  refine zr_aald (b := ad (6, (Int32.toNatClampNeg v2))) S hK hP zk_1 rfl 3 rfl rfl g81 rfl d_D_connect_81 ?_
  refine lv_iload_n S.1 S.2.1 d_D_connect_82 rfl (lv_at hl 2 rfl) ?_
  refine lv_iload_n S.1 S.2.1 d_D_connect_83 rfl (lv_at hl 4 rfl) ?_
  by_cases g84 : zOut v1 n
  · rw [if_pos g84] at hF; cases hF
  rw [if_neg g84] at hF
  refine zr_iast S hK hP hD hS (zk_6 g81) (fun _ => rfl) 0 rfl g84 d_D_connect_84 (fun H locs hP hS => ?_)
  replace hF : F_D_connect_L65_s2 n t0 v1 v2 (zs st76 6 (Int32.toNatClampNeg v2) (Int32.toNatClampNeg v1) v3) = some out := hF
  generalize zs st76 6 (Int32.toNatClampNeg v2) (Int32.toNatClampNeg v1) v3 = st85 at hP hF
  unfold F_D_connect_L65_s2 at hF
  refine lv_iload_n S.1 S.2.1 d_D_connect_85 rfl (lv_at hl 2 rfl) ?_
  refine lv_iload_n S.1 S.2.1 d_D_connect_86 rfl (lv_at hl 3 rfl) ?_
  refine va_mmin S.1 S.2.1 (S.2.2.1.trans hl.1.symm) S.2.2.2.1 (S.2.2.2.2 _ zx_89) (S.2.2.2.2 _ zx_122) (S.2.2.2.2 _ zx_53) (S.2.2.2.2 _ zx_1) (Nat.le_of_ble_eq_true rfl) (Nat.le_of_ble_eq_true rfl) (Nat.zero_le _) (Nat.zero_le _) d_D_connect_87 ?_
  refine lv_istore S.1 S.2.1 d_D_connect_90 hl (by decide) rfl (fun ls hl => ?_)
  have hl : lv_has ls 7 [(5, .int (if v2 < v1 then v2 else v1)), (4, .int t0), (0, .ref (ad (0, 0))), (1, .int v1), (2, .int v2), (3, .int v3)] := hl
  refine lv_iload_n S.1 S.2.1 d_D_connect_92 rfl (lv_at hl 3 rfl) ?_
  refine lv_iload_n S.1 S.2.1 d_D_connect_93 rfl (lv_at hl 4 rfl) ?_
  refine va_mmax S.1 S.2.1 (S.2.2.1.trans hl.1.symm) S.2.2.2.1 (S.2.2.2.2 _ zx_64) (S.2.2.2.2 _ zx_121) (S.2.2.2.2 _ zx_53) (S.2.2.2.2 _ zx_0) (Nat.le_of_ble_eq_true rfl) (Nat.le_of_ble_eq_true rfl) (Nat.zero_le _) (Nat.zero_le _) d_D_connect_94 ?_
  refine lv_istore S.1 S.2.1 d_D_connect_97 hl (by decide) rfl (fun ls hl => ?_)
  have hl : lv_has ls 7 [(6, .int (if v1 < v2 then v2 else v1)), (5, .int (if v2 < v1 then v2 else v1)), (4, .int t0), (0, .ref (ad (0, 0))), (1, .int v1), (2, .int v2), (3, .int v3)] := hl
  refine lv_iload S.1 S.2.1 d_D_connect_99 (lv_at hl 2 rfl) ?_
  refine lv_if_eq (tgt := 133) S.1 S.2.1 d_D_connect_101 (by decide) (fun h101 => ?_) (fun h101 => ?_)
  · rw [if_pos h101] at hF
    refine lv_aload_n S.1 S.2.1 d_D_connect_133 rfl (lv_at hl 3 rfl) ?_
    refine lv_iload S.1 S.2.1 d_D_connect_134 (lv_at hl 1 rfl) ?_
    refine lv_iload S.1 S.2.1 d_D_connect_136 (lv_at hl 0 rfl) ?_
    cases hc138 : F_D_weighAgain n (if v2 < v1 then v2 else v1) (if v1 < v2 then v2 else v1) st85 with
    | none => rw [hc138] at hF; cases hF
    | some u138 =>
      obtain ⟨r138, st138⟩ := u138
      rw [hc138] at hF
      replace hF := zbind hF
      refine zr_callV (rest := []) S zT_good (C_D_weighAgain hn hD l (if v2 < v1 then v2 else v1) (if v1 < v2 then v2 else v1) st85 (r138, st138) hc138) zn_D_weighAgain zx_81 ⟨rfl, rfl⟩ ⟨Nat.le_of_ble_eq_true rfl, Nat.le_of_ble_eq_true rfl⟩ ⟨Nat.zero_le _, Nat.zero_le _⟩ hK (zr_recv hK hP zk_0 rfl rfl) hP hl.1 (Nat.le_of_ble_eq_true rfl) hS (fun _ h => h) d_D_connect_138 rfl (fun o H locs hpo _ _ hS => ?_)
      obtain ⟨rfl, hP⟩ := hpo
      refine W.eq (g2 := F0 m 141 ls []) rfl ?_
      replace hF : F_D_connect_L65_s3 n (if v1 < v2 then v2 else v1) (if v2 < v1 then v2 else v1) st138 = some out := hF
      replace hP : zV (dC, dI) zcl (zKs n) ad (zcE n cI cZ cR cA ad) st138 H := hP
      unfold F_D_connect_L65_s3 at hF
      refine lv_aload_n S.1 S.2.1 d_D_connect_141 rfl (lv_at hl 3 rfl) ?_
      refine lv_iload S.1 S.2.1 d_D_connect_142 (lv_at hl 0 rfl) ?_
      refine lv_iload S.1 S.2.1 d_D_connect_144 (lv_at hl 1 rfl) ?_
      cases hc146 : F_D_weighAgain n (if v1 < v2 then v2 else v1) (if v2 < v1 then v2 else v1) st138 with
      | none => rw [hc146] at hF; cases hF
      | some u146 =>
        obtain ⟨r146, st146⟩ := u146
        rw [hc146] at hF
        replace hF := zbind hF
        refine zr_callV (rest := []) S zT_good (C_D_weighAgain hn hD l (if v1 < v2 then v2 else v1) (if v2 < v1 then v2 else v1) st138 (r146, st146) hc146) zn_D_weighAgain zx_81 ⟨rfl, rfl⟩ ⟨Nat.le_of_ble_eq_true rfl, Nat.le_of_ble_eq_true rfl⟩ ⟨Nat.zero_le _, Nat.zero_le _⟩ hK (zr_recv hK hP zk_0 rfl rfl) hP hl.1 (Nat.le_of_ble_eq_true rfl) hS (fun _ h => h) d_D_connect_146 rfl (fun o H locs hpo _ _ hS => ?_)
        obtain ⟨rfl, hP⟩ := hpo
        refine W.eq (g2 := F0 m 149 ls []) rfl ?_
        replace hF : F_D_connect_L65_s4 n st146 = some out := hF
        replace hP : zV (dC, dI) zcl (zKs n) ad (zcE n cI cZ cR cA ad) st146 H := hP
        unfold F_D_connect_L65_s4 at hF
        refine lv_aload_n S.1 S.2.1 d_D_connect_149 rfl (lv_at hl 3 rfl) ?_
        refine zr_get (v := .int (st146 0 0 0)) S zi_D hK hP zk_0 rfl rfl 4 (by decide) zx_12 rfl d_D_connect_150 ?_
        cases hF
        exact zr_iret S hret hlk hS d_D_connect_153 ⟨rfl, hP⟩
  · rw [if_neg h101] at hF
    refine lv_aload_n S.1 S.2.1 d_D_connect_104 rfl (lv_at hl 3 rfl) ?_
    refine lv_dup S.1 S.2.1 d_D_connect_105 rfl ?_
    refine zr_get (v := .int (st85 0 0 0)) S zi_D hK hP zk_0 rfl rfl 4 (by decide) zx_12 rfl d_D_connect_106 ?_
    refine lv_iconst (v := 1) S.1 S.2.1 d_D_connect_109 (by decide) ?_
    refine lv_iadd S.1 S.2.1 d_D_connect_110 ?_
    refine zr_put (v := (st85 0 0 0) + 1) S zi_D t_D t_D_ok n_D hK hP hD hS zk_0 rfl rfl 4 (by decide) zx_12 rfl rfl rfl (Nat.le_of_ble_eq_true rfl) 0 rfl d_D_connect_111 (fun H locs hP hS => ?_)
    replace hF : F_D_connect_L65_s5 n (if v1 < v2 then v2 else v1) (if v2 < v1 then v2 else v1) (zs st85 0 0 0 ((st85 0 0 0) + 1)) = some out := hF
    generalize zs st85 0 0 0 ((st85 0 0 0) + 1) = st114 at hP hF
    unfold F_D_connect_L65_s5 at hF
    refine lv_aload_n S.1 S.2.1 d_D_connect_114 rfl (lv_at hl 3 rfl) ?_
    refine lv_iload S.1 S.2.1 d_D_connect_115 (lv_at hl 1 rfl) ?_
    refine lv_iload S.1 S.2.1 d_D_connect_117 (lv_at hl 0 rfl) ?_
    cases hc119 : F_D_greet n (if v2 < v1 then v2 else v1) (if v1 < v2 then v2 else v1) st114 with
    | none => rw [hc119] at hF; cases hF
    | some u119 =>
      obtain ⟨r119, st119⟩ := u119
      rw [hc119] at hF
      replace hF := zbind hF
      refine zr_callV (rest := []) S zT_good (C_D_greet hn hD l (if v2 < v1 then v2 else v1) (if v1 < v2 then v2 else v1) st114 (r119, st119) hc119) zn_D_greet zx_80 ⟨rfl, rfl⟩ ⟨Nat.le_of_ble_eq_true rfl, Nat.le_of_ble_eq_true rfl⟩ ⟨Nat.zero_le _, Nat.zero_le _⟩ hK (zr_recv hK hP zk_0 rfl rfl) hP hl.1 (Nat.le_of_ble_eq_true rfl) hS (fun _ h => h) d_D_connect_119 rfl (fun o H locs hpo _ _ hS => ?_)
      obtain ⟨rfl, hP⟩ := hpo
      refine W.eq (g2 := F0 m 122 ls []) rfl ?_
      replace hF : F_D_connect_L65_s6 n (if v1 < v2 then v2 else v1) (if v2 < v1 then v2 else v1) st119 = some out := hF
      replace hP : zV (dC, dI) zcl (zKs n) ad (zcE n cI cZ cR cA ad) st119 H := hP
      unfold F_D_connect_L65_s6 at hF
      refine lv_aload_n S.1 S.2.1 d_D_connect_122 rfl (lv_at hl 3 rfl) ?_
      refine lv_iload S.1 S.2.1 d_D_connect_123 (lv_at hl 0 rfl) ?_
      refine lv_iload S.1 S.2.1 d_D_connect_125 (lv_at hl 1 rfl) ?_
      cases hc127 : F_D_greet n (if v1 < v2 then v2 else v1) (if v2 < v1 then v2 else v1) st119 with
      | none => rw [hc127] at hF; cases hF
      | some u127 =>
        obtain ⟨r127, st127⟩ := u127
        rw [hc127] at hF
        replace hF := zbind hF
        refine zr_callV (rest := []) S zT_good (C_D_greet hn hD l (if v1 < v2 then v2 else v1) (if v2 < v1 then v2 else v1) st119 (r127, st127) hc127) zn_D_greet zx_80 ⟨rfl, rfl⟩ ⟨Nat.le_of_ble_eq_true rfl, Nat.le_of_ble_eq_true rfl⟩ ⟨Nat.zero_le _, Nat.zero_le _⟩ hK (zr_recv hK hP zk_0 rfl rfl) hP hl.1 (Nat.le_of_ble_eq_true rfl) hS (fun _ h => h) d_D_connect_127 rfl (fun o H locs hpo _ _ hS => ?_)
        obtain ⟨rfl, hP⟩ := hpo
        refine W.eq (g2 := F0 m 130 ls []) rfl ?_
        replace hF : F_D_connect_L65_s7 n st127 = some out := hF
        replace hP : zV (dC, dI) zcl (zKs n) ad (zcE n cI cZ cR cA ad) st127 H := hP
        unfold F_D_connect_L65_s7 at hF
        refine lv_goto (tgt := 149) S.1 S.2.1 d_D_connect_130 (by decide) ?_
        refine lv_aload_n S.1 S.2.1 d_D_connect_149 rfl (lv_at hl 3 rfl) ?_
        refine zr_get (v := .int (st127 0 0 0)) S zi_D hK hP zk_0 rfl rfl 4 (by decide) zx_12 rfl d_D_connect_150 ?_
        cases hF
        exact zr_iret S hret hlk hS d_D_connect_153 ⟨rfl, hP⟩

set_option maxHeartbeats 4000000 in
set_option maxRecDepth 1000000 in
theorem C_D_connect {dC : Nat → ClassId} {dI : Nat → Nat → Nat} {cI cZ cR cA : ClassId} {n : Nat} {ad : zK → Nat} {A : Nat → Prop} (hn : 2 ≤ n ∧ n ≤ 6) (hD : zD A (zKs n) ad) (l : Launch) (v1 : Int32) (v2 : Int32) (v3 : Int32) (st : zS) (out : Int32 × zS) (hF : F_D_connect n v1 v2 v3 st = some out) : zC zT (dC, dI) zcl (zty cI cZ cR cA) A l y_D_connect b_D_connect 7 (some .int) rm_D_connect [.ref (ad (0, 0)), .int v1, .int v2, .int v3] (fun H => zV (dC, dI) zcl (zKs n) ad (zcE n cI cZ cR cA ad) st H) (fun o H => o = some (.int out.1) ∧ zV (dC, dI) zcl (zKs n) ad (zcE n cI cZ cR cA ad) out.2 H) := by
  refine zC_of (by decide) (Nat.le_of_ble_eq_true rfl) (fun p e s m args below meth c ls S hret hlk hK hP hl => ?_)
  have hS : va_S A s.heap s.heap [] := va_S.rf
  have hl : lv_has ls 7 [(0, .ref (ad (0, 0))), (1, .int v1), (2, .int v2), (3, .int v3)] := hl
  have hP : zV (dC, dI) zcl (zKs n) ad (zcE n cI cZ cR cA ad) st s.heap := hP
  unfold F_D_connect at hF
  refine lv_aload_n S.1 S.2.1 d_D_connect_0 rfl (lv_at hl 0 rfl) ?_
  refine lv_iload_n S.1 S.2.1 d_D_connect_1 rfl (lv_at hl 1 rfl) ?_
  cases hc2 : F_D_isRouter n v1 st with
  | none => rw [hc2] at hF; cases hF
  | some u2 =>
    obtain ⟨r2, st2⟩ := u2
    rw [hc2] at hF
    replace hF := zbind hF
    refine zr_callV (rest := []) S zT_good (C_D_isRouter hn hD l v1 st (r2, st2) hc2) zn_D_isRouter zx_78 ⟨rfl, rfl⟩ ⟨Nat.le_of_ble_eq_true rfl, Nat.le_of_ble_eq_true rfl⟩ ⟨Nat.zero_le _, Nat.zero_le _⟩ hK (zr_recv hK hP zk_0 rfl rfl) hP hl.1 (Nat.le_of_ble_eq_true rfl) hS (fun _ h => h) d_D_connect_2 rfl (fun o H locs hpo _ _ hS => ?_)
    obtain ⟨rfl, hP⟩ := hpo
    refine W.eq (g2 := F0 m 5 ls [.int r2]) rfl ?_
    replace hF : F_D_connect_s1 n v1 v2 v3 r2 st2 = some out := hF
    replace hP : zV (dC, dI) zcl (zKs n) ad (zcE n cI cZ cR cA ad) st2 H := hP
    unfold F_D_connect_s1 at hF
    refine lv_if_eq (tgt := 32) S.1 S.2.1 d_D_connect_5 (by decide) (fun h5 => ?_) (fun h5 => ?_)
    · rw [if_pos h5] at hF
      refine lv_iconst (v := (-1)) S.1 S.2.1 d_D_connect_32 (by decide) ?_
      cases hF
      exact zr_iret S hret hlk hS d_D_connect_33 ⟨rfl, hP⟩
    · rw [if_neg h5] at hF
      refine lv_aload_n S.1 S.2.1 d_D_connect_8 rfl (lv_at hl 0 rfl) ?_
      refine lv_iload_n S.1 S.2.1 d_D_connect_9 rfl (lv_at hl 2 rfl) ?_
      cases hc10 : F_D_isRouter n v2 st2 with
      | none => rw [hc10] at hF; cases hF
      | some u10 =>
        obtain ⟨r10, st10⟩ := u10
        rw [hc10] at hF
        replace hF := zbind hF
        refine zr_callV (rest := []) S zT_good (C_D_isRouter hn hD l v2 st2 (r10, st10) hc10) zn_D_isRouter zx_78 ⟨rfl, rfl⟩ ⟨Nat.le_of_ble_eq_true rfl, Nat.le_of_ble_eq_true rfl⟩ ⟨Nat.zero_le _, Nat.zero_le _⟩ hK (zr_recv hK hP zk_0 rfl rfl) hP hl.1 (Nat.le_of_ble_eq_true rfl) hS (fun _ h => h) d_D_connect_10 rfl (fun o H locs hpo _ _ hS => ?_)
        obtain ⟨rfl, hP⟩ := hpo
        refine W.eq (g2 := F0 m 13 ls [.int r10]) rfl ?_
        replace hF : F_D_connect_s2 n v1 v2 v3 r10 st10 = some out := hF
        replace hP : zV (dC, dI) zcl (zKs n) ad (zcE n cI cZ cR cA ad) st10 H := hP
        unfold F_D_connect_s2 at hF
        refine lv_if_eq (tgt := 32) S.1 S.2.1 d_D_connect_13 (by decide) (fun h13 => ?_) (fun h13 => ?_)
        · rw [if_pos h13] at hF
          refine lv_iconst (v := (-1)) S.1 S.2.1 d_D_connect_32 (by decide) ?_
          cases hF
          exact zr_iret S hret hlk hS d_D_connect_33 ⟨rfl, hP⟩
        · rw [if_neg h13] at hF
          refine lv_iload_n S.1 S.2.1 d_D_connect_16 rfl (lv_at hl 1 rfl) ?_
          refine lv_iload_n S.1 S.2.1 d_D_connect_17 rfl (lv_at hl 2 rfl) ?_
          refine lv_icmp_eq (tgt := 32) S.1 S.2.1 d_D_connect_18 (by decide) (fun h18 => ?_) (fun h18 => ?_)
          · rw [if_pos h18] at hF
            refine lv_iconst (v := (-1)) S.1 S.2.1 d_D_connect_32 (by decide) ?_
            cases hF
            exact zr_iret S hret hlk hS d_D_connect_33 ⟨rfl, hP⟩
          · rw [if_neg h18] at hF
            refine lv_iload_n S.1 S.2.1 d_D_connect_21 rfl (lv_at hl 3 rfl) ?_
            refine lv_iconst (v := 1) S.1 S.2.1 d_D_connect_22 (by decide) ?_
            refine lv_icmp_lt (tgt := 32) S.1 S.2.1 d_D_connect_23 (by decide) (fun h23 => ?_) (fun h23 => ?_)
            · rw [if_pos h23] at hF
              refine lv_iconst (v := (-1)) S.1 S.2.1 d_D_connect_32 (by decide) ?_
              cases hF
              exact zr_iret S hret hlk hS d_D_connect_33 ⟨rfl, hP⟩
            · rw [if_neg h23] at hF
              refine lv_iload_n S.1 S.2.1 d_D_connect_26 rfl (lv_at hl 3 rfl) ?_
              refine lv_bipush (v := 100) S.1 S.2.1 d_D_connect_27 (by decide) ?_
              refine lv_icmp_le (tgt := 34) S.1 S.2.1 d_D_connect_29 (by decide) (fun h29 => ?_) (fun h29 => ?_)
              · rw [if_pos h29] at hF
                refine lv_aload_n S.1 S.2.1 d_D_connect_34 rfl (lv_at hl 0 rfl) ?_
                refine zr_get (v := .ref (ad (3, 0))) S zi_D hK hP zk_0 rfl rfl 3 (by decide) zx_11 rfl d_D_connect_35 ?_
                cases hc38 : F_L_size n st10 with
                | none => rw [hc38] at hF; cases hF
                | some u38 =>
                  obtain ⟨r38, st38⟩ := u38
                  rw [hc38] at hF
                  replace hF := zbind hF
                  refine zr_callV (rest := []) S zT_good (C_L_size hn hD l st10 (r38, st38) hc38) zn_L_size zx_79 ⟨rfl, rfl⟩ ⟨Nat.le_of_ble_eq_true rfl, Nat.le_of_ble_eq_true rfl⟩ ⟨Nat.zero_le _, Nat.zero_le _⟩ hK (zr_recv hK hP zk_3 rfl rfl) hP hl.1 (Nat.le_of_ble_eq_true rfl) hS (fun _ h => h) d_D_connect_38 rfl (fun o H locs hpo _ _ hS => ?_)
                  obtain ⟨rfl, hP⟩ := hpo
                  refine W.eq (g2 := F0 m 41 ls [.int r38]) rfl ?_
                  replace hF : F_D_connect_s3 n v1 v2 v3 r38 st38 = some out := hF
                  replace hP : zV (dC, dI) zcl (zKs n) ad (zcE n cI cZ cR cA ad) st38 H := hP
                  unfold F_D_connect_s3 at hF
                  refine lv_bipush (v := 100) S.1 S.2.1 d_D_connect_41 (by decide) ?_
                  refine lv_icmp_le (tgt := 49) S.1 S.2.1 d_D_connect_43 (by decide) (fun h43 => ?_) (fun h43 => ?_)
                  · rw [if_pos h43] at hF
                    refine lv_aload_n S.1 S.2.1 d_D_connect_49 rfl (lv_at hl 0 rfl) ?_
                    refine zr_get (v := .ref (ad (1, 0))) S zi_D hK hP zk_0 rfl rfl 1 (by decide) zx_9 rfl d_D_connect_50 ?_
                    refine lv_iload_n S.1 S.2.1 d_D_connect_53 rfl (lv_at hl 1 rfl) ?_
                    by_cases g54 : zOut v1 n
                    · rw [if_pos g54] at hF; cases hF
                    rw [if_neg g54] at hF
                    refine zr_aald (b := ad (6, (Int32.toNatClampNeg v1))) S hK hP zk_1 rfl 3 rfl rfl g54 rfl d_D_connect_54 ?_
                    refine lv_iload_n S.1 S.2.1 d_D_connect_55 rfl (lv_at hl 2 rfl) ?_
                    by_cases g56 : zOut v2 n
                    · rw [if_pos g56] at hF; cases hF
                    rw [if_neg g56] at hF
                    refine zr_iald S hK hP (zk_6 g54) rfl 0 rfl g56 d_D_connect_56 ?_
                    refine lv_if_ne (tgt := 64) S.1 S.2.1 d_D_connect_57 (by decide) (fun h57 => ?_) (fun h57 => ?_)
                    · rw [if_neg h57] at hF
                      refine lv_iconst (v := 0) S.1 S.2.1 d_D_connect_64 (by decide) ?_
                      exact T_D_connect_L65 hn hD S hret hlk hK out v1 v2 v3 0 st38 _ _ _ hP hS (lv_sub hl [0, 1, 2, 3] rfl) hF
                    · rw [if_pos h57] at hF
                      refine lv_iconst (v := 1) S.1 S.2.1 d_D_connect_60 (by decide) ?_
                      refine lv_goto (tgt := 65) S.1 S.2.1 d_D_connect_61 (by decide) ?_
                      exact T_D_connect_L65 hn hD S hret hlk hK out v1 v2 v3 1 st38 _ _ _ hP hS (lv_sub hl [0, 1, 2, 3] rfl) hF
                  · rw [if_neg h43] at hF
                    refine lv_bipush (v := (-2)) S.1 S.2.1 d_D_connect_46 (by decide) ?_
                    cases hF
                    exact zr_iret S hret hlk hS d_D_connect_48 ⟨rfl, hP⟩
              · rw [if_neg h29] at hF
                refine lv_iconst (v := (-1)) S.1 S.2.1 d_D_connect_32 (by decide) ?_
                cases hF
                exact zr_iret S hret hlk hS d_D_connect_33 ⟨rfl, hP⟩

theorem d_D_isLink_0 : decode b_D_isLink 0 = .ok (.aload_n 0, 1) := by decide +kernel
theorem d_D_isLink_1 : decode b_D_isLink 1 = .ok (.iload_n 1, 1) := by decide +kernel
theorem d_D_isLink_2 : decode b_D_isLink 2 = .ok (.invokevirtual 43, 3) := by decide +kernel
theorem d_D_isLink_5 : decode b_D_isLink 5 = .ok (.ifCond .eq 26, 3) := by decide +kernel
theorem d_D_isLink_8 : decode b_D_isLink 8 = .ok (.aload_n 0, 1) := by decide +kernel
theorem d_D_isLink_9 : decode b_D_isLink 9 = .ok (.iload_n 2, 1) := by decide +kernel
theorem d_D_isLink_10 : decode b_D_isLink 10 = .ok (.invokevirtual 43, 3) := by decide +kernel
theorem d_D_isLink_13 : decode b_D_isLink 13 = .ok (.ifCond .eq 18, 3) := by decide +kernel
theorem d_D_isLink_16 : decode b_D_isLink 16 = .ok (.aload_n 0, 1) := by decide +kernel
theorem d_D_isLink_17 : decode b_D_isLink 17 = .ok (.getfield 24, 3) := by decide +kernel
theorem d_D_isLink_20 : decode b_D_isLink 20 = .ok (.iload_n 1, 1) := by decide +kernel
theorem d_D_isLink_21 : decode b_D_isLink 21 = .ok (.aaload, 1) := by decide +kernel
theorem d_D_isLink_22 : decode b_D_isLink 22 = .ok (.iload_n 2, 1) := by decide +kernel
theorem d_D_isLink_23 : decode b_D_isLink 23 = .ok (.iaload, 1) := by decide +kernel
theorem d_D_isLink_24 : decode b_D_isLink 24 = .ok (.ifCond .le 7, 3) := by decide +kernel
theorem d_D_isLink_27 : decode b_D_isLink 27 = .ok (.iconst 1, 1) := by decide +kernel
theorem d_D_isLink_28 : decode b_D_isLink 28 = .ok (.goto 4, 3) := by decide +kernel
theorem d_D_isLink_31 : decode b_D_isLink 31 = .ok (.iconst 0, 1) := by decide +kernel
theorem d_D_isLink_32 : decode b_D_isLink 32 = .ok (.ireturn, 1) := by decide +kernel
def F_D_isLink_s2 (n : Nat) (v1 : Int32) (v2 : Int32) (t0 : Int32) (st : zS) : Option (Int32 × zS) :=
    if t0 = 0 then (some (0, st)) else (if zOut v1 n then none else if zOut v2 n then none else if (st 6 (Int32.toNatClampNeg v1) (Int32.toNatClampNeg v2)) ≤ 0 then (some (0, st)) else (some (1, st)))

def F_D_isLink_s1 (n : Nat) (v1 : Int32) (v2 : Int32) (t0 : Int32) (st : zS) : Option (Int32 × zS) :=
    if t0 = 0 then (some (0, st)) else ((F_D_isRouter n v2 st).bind (fun u => F_D_isLink_s2 n v1 v2 u.1 u.2))

def F_D_isLink (n : Nat) (v1 : Int32) (v2 : Int32) (st : zS) : Option (Int32 × zS) :=
    (F_D_isRouter n v1 st).bind (fun u => F_D_isLink_s1 n v1 v2 u.1 u.2)

set_option maxHeartbeats 4000000 in
set_option maxRecDepth 1000000 in
theorem C_D_isLink {dC : Nat → ClassId} {dI : Nat → Nat → Nat} {cI cZ cR cA : ClassId} {n : Nat} {ad : zK → Nat} {A : Nat → Prop} (hn : 2 ≤ n ∧ n ≤ 6) (hD : zD A (zKs n) ad) (l : Launch) (v1 : Int32) (v2 : Int32) (st : zS) (out : Int32 × zS) (hF : F_D_isLink n v1 v2 st = some out) : zC zT (dC, dI) zcl (zty cI cZ cR cA) A l y_D_isLink b_D_isLink 3 (some .boolean) rm_D_isLink [.ref (ad (0, 0)), .int v1, .int v2] (fun H => zV (dC, dI) zcl (zKs n) ad (zcE n cI cZ cR cA ad) st H) (fun o H => o = some (.int out.1) ∧ zV (dC, dI) zcl (zKs n) ad (zcE n cI cZ cR cA ad) out.2 H) := by
  refine zC_of (by decide) (Nat.le_of_ble_eq_true rfl) (fun p e s m args below meth c ls S hret hlk hK hP hl => ?_)
  have hS : va_S A s.heap s.heap [] := va_S.rf
  have hl : lv_has ls 3 [(0, .ref (ad (0, 0))), (1, .int v1), (2, .int v2)] := hl
  have hP : zV (dC, dI) zcl (zKs n) ad (zcE n cI cZ cR cA ad) st s.heap := hP
  unfold F_D_isLink at hF
  refine lv_aload_n S.1 S.2.1 d_D_isLink_0 rfl (lv_at hl 0 rfl) ?_
  refine lv_iload_n S.1 S.2.1 d_D_isLink_1 rfl (lv_at hl 1 rfl) ?_
  cases hc2 : F_D_isRouter n v1 st with
  | none => rw [hc2] at hF; cases hF
  | some u2 =>
    obtain ⟨r2, st2⟩ := u2
    rw [hc2] at hF
    replace hF := zbind hF
    refine zr_callV (rest := []) S zT_good (C_D_isRouter hn hD l v1 st (r2, st2) hc2) zn_D_isRouter zx_78 ⟨rfl, rfl⟩ ⟨Nat.le_of_ble_eq_true rfl, Nat.le_of_ble_eq_true rfl⟩ ⟨Nat.zero_le _, Nat.zero_le _⟩ hK (zr_recv hK hP zk_0 rfl rfl) hP hl.1 (Nat.le_of_ble_eq_true rfl) hS (fun _ h => h) d_D_isLink_2 rfl (fun o H locs hpo _ _ hS => ?_)
    obtain ⟨rfl, hP⟩ := hpo
    refine W.eq (g2 := F0 m 5 ls [.int r2]) rfl ?_
    replace hF : F_D_isLink_s1 n v1 v2 r2 st2 = some out := hF
    replace hP : zV (dC, dI) zcl (zKs n) ad (zcE n cI cZ cR cA ad) st2 H := hP
    unfold F_D_isLink_s1 at hF
    refine lv_if_eq (tgt := 31) S.1 S.2.1 d_D_isLink_5 (by decide) (fun h5 => ?_) (fun h5 => ?_)
    · rw [if_pos h5] at hF
      refine lv_iconst (v := 0) S.1 S.2.1 d_D_isLink_31 (by decide) ?_
      cases hF
      exact zr_zret S hret hlk (by decide) hS d_D_isLink_32 ⟨rfl, hP⟩
    · rw [if_neg h5] at hF
      refine lv_aload_n S.1 S.2.1 d_D_isLink_8 rfl (lv_at hl 0 rfl) ?_
      refine lv_iload_n S.1 S.2.1 d_D_isLink_9 rfl (lv_at hl 2 rfl) ?_
      cases hc10 : F_D_isRouter n v2 st2 with
      | none => rw [hc10] at hF; cases hF
      | some u10 =>
        obtain ⟨r10, st10⟩ := u10
        rw [hc10] at hF
        replace hF := zbind hF
        refine zr_callV (rest := []) S zT_good (C_D_isRouter hn hD l v2 st2 (r10, st10) hc10) zn_D_isRouter zx_78 ⟨rfl, rfl⟩ ⟨Nat.le_of_ble_eq_true rfl, Nat.le_of_ble_eq_true rfl⟩ ⟨Nat.zero_le _, Nat.zero_le _⟩ hK (zr_recv hK hP zk_0 rfl rfl) hP hl.1 (Nat.le_of_ble_eq_true rfl) hS (fun _ h => h) d_D_isLink_10 rfl (fun o H locs hpo _ _ hS => ?_)
        obtain ⟨rfl, hP⟩ := hpo
        refine W.eq (g2 := F0 m 13 ls [.int r10]) rfl ?_
        replace hF : F_D_isLink_s2 n v1 v2 r10 st10 = some out := hF
        replace hP : zV (dC, dI) zcl (zKs n) ad (zcE n cI cZ cR cA ad) st10 H := hP
        unfold F_D_isLink_s2 at hF
        refine lv_if_eq (tgt := 31) S.1 S.2.1 d_D_isLink_13 (by decide) (fun h13 => ?_) (fun h13 => ?_)
        · rw [if_pos h13] at hF
          refine lv_iconst (v := 0) S.1 S.2.1 d_D_isLink_31 (by decide) ?_
          cases hF
          exact zr_zret S hret hlk (by decide) hS d_D_isLink_32 ⟨rfl, hP⟩
        · rw [if_neg h13] at hF
          refine lv_aload_n S.1 S.2.1 d_D_isLink_16 rfl (lv_at hl 0 rfl) ?_
          refine zr_get (v := .ref (ad (1, 0))) S zi_D hK hP zk_0 rfl rfl 1 (by decide) zx_9 rfl d_D_isLink_17 ?_
          refine lv_iload_n S.1 S.2.1 d_D_isLink_20 rfl (lv_at hl 1 rfl) ?_
          by_cases g21 : zOut v1 n
          · rw [if_pos g21] at hF; cases hF
          rw [if_neg g21] at hF
          refine zr_aald (b := ad (6, (Int32.toNatClampNeg v1))) S hK hP zk_1 rfl 3 rfl rfl g21 rfl d_D_isLink_21 ?_
          refine lv_iload_n S.1 S.2.1 d_D_isLink_22 rfl (lv_at hl 2 rfl) ?_
          by_cases g23 : zOut v2 n
          · rw [if_pos g23] at hF; cases hF
          rw [if_neg g23] at hF
          refine zr_iald S hK hP (zk_6 g21) rfl 0 rfl g23 d_D_isLink_23 ?_
          refine lv_if_le (tgt := 31) S.1 S.2.1 d_D_isLink_24 (by decide) (fun h24 => ?_) (fun h24 => ?_)
          · rw [if_pos h24] at hF
            refine lv_iconst (v := 0) S.1 S.2.1 d_D_isLink_31 (by decide) ?_
            cases hF
            exact zr_zret S hret hlk (by decide) hS d_D_isLink_32 ⟨rfl, hP⟩
          · rw [if_neg h24] at hF
            refine lv_iconst (v := 1) S.1 S.2.1 d_D_isLink_27 (by decide) ?_
            refine lv_goto (tgt := 32) S.1 S.2.1 d_D_isLink_28 (by decide) ?_
            cases hF
            exact zr_zret S hret hlk (by decide) hS d_D_isLink_32 ⟨rfl, hP⟩

theorem d_L_senderOf_0 : decode b_L_senderOf 0 = .ok (.iload_n 0, 1) := by decide +kernel
theorem d_L_senderOf_1 : decode b_L_senderOf 1 = .ok (.bipush 22, 2) := by decide +kernel
theorem d_L_senderOf_3 : decode b_L_senderOf 3 = .ok (.ishr, 1) := by decide +kernel
theorem d_L_senderOf_4 : decode b_L_senderOf 4 = .ok (.ireturn, 1) := by decide +kernel
def F_L_senderOf (n : Nat) (v0 : Int32) (st : zS) : Option (Int32 × zS) :=
    some (v0 >>> (22 &&& 31), st)

set_option maxHeartbeats 4000000 in
set_option maxRecDepth 1000000 in
theorem C_L_senderOf {dC : Nat → ClassId} {dI : Nat → Nat → Nat} {cI cZ cR cA : ClassId} {n : Nat} {ad : zK → Nat} {A : Nat → Prop} (hn : 2 ≤ n ∧ n ≤ 6) (hD : zD A (zKs n) ad) (l : Launch) (v0 : Int32) (st : zS) (out : Int32 × zS) (hF : F_L_senderOf n v0 st = some out) : zC zT (dC, dI) zcl (zty cI cZ cR cA) A l y_L_senderOf b_L_senderOf 1 (some .int) rm_L_senderOf [.int v0] (fun H => zV (dC, dI) zcl (zKs n) ad (zcE n cI cZ cR cA ad) st H) (fun o H => o = some (.int out.1) ∧ zV (dC, dI) zcl (zKs n) ad (zcE n cI cZ cR cA ad) out.2 H) := by
  refine zC_of (by decide) (Nat.le_of_ble_eq_true rfl) (fun p e s m args below meth c ls S hret hlk hK hP hl => ?_)
  have hS : va_S A s.heap s.heap [] := va_S.rf
  have hl : lv_has ls 1 [(0, .int v0)] := hl
  have hP : zV (dC, dI) zcl (zKs n) ad (zcE n cI cZ cR cA ad) st s.heap := hP
  unfold F_L_senderOf at hF
  refine lv_iload_n S.1 S.2.1 d_L_senderOf_0 rfl (lv_at hl 0 rfl) ?_
  refine lv_bipush (v := 22) S.1 S.2.1 d_L_senderOf_1 (by decide) ?_
  refine lv_ishr S.1 S.2.1 d_L_senderOf_3 ?_
  cases hF
  exact zr_iret S hret hlk hS d_L_senderOf_4 ⟨rfl, hP⟩

theorem d_L_receiverOf_0 : decode b_L_receiverOf 0 = .ok (.iload_n 0, 1) := by decide +kernel
theorem d_L_receiverOf_1 : decode b_L_receiverOf 1 = .ok (.bipush 19, 2) := by decide +kernel
theorem d_L_receiverOf_3 : decode b_L_receiverOf 3 = .ok (.ishr, 1) := by decide +kernel
theorem d_L_receiverOf_4 : decode b_L_receiverOf 4 = .ok (.bipush 7, 2) := by decide +kernel
theorem d_L_receiverOf_6 : decode b_L_receiverOf 6 = .ok (.iand, 1) := by decide +kernel
theorem d_L_receiverOf_7 : decode b_L_receiverOf 7 = .ok (.ireturn, 1) := by decide +kernel
def F_L_receiverOf (n : Nat) (v0 : Int32) (st : zS) : Option (Int32 × zS) :=
    some ((v0 >>> (19 &&& 31)) &&& 7, st)

set_option maxHeartbeats 4000000 in
set_option maxRecDepth 1000000 in
theorem C_L_receiverOf {dC : Nat → ClassId} {dI : Nat → Nat → Nat} {cI cZ cR cA : ClassId} {n : Nat} {ad : zK → Nat} {A : Nat → Prop} (hn : 2 ≤ n ∧ n ≤ 6) (hD : zD A (zKs n) ad) (l : Launch) (v0 : Int32) (st : zS) (out : Int32 × zS) (hF : F_L_receiverOf n v0 st = some out) : zC zT (dC, dI) zcl (zty cI cZ cR cA) A l y_L_receiverOf b_L_receiverOf 1 (some .int) rm_L_receiverOf [.int v0] (fun H => zV (dC, dI) zcl (zKs n) ad (zcE n cI cZ cR cA ad) st H) (fun o H => o = some (.int out.1) ∧ zV (dC, dI) zcl (zKs n) ad (zcE n cI cZ cR cA ad) out.2 H) := by
  refine zC_of (by decide) (Nat.le_of_ble_eq_true rfl) (fun p e s m args below meth c ls S hret hlk hK hP hl => ?_)
  have hS : va_S A s.heap s.heap [] := va_S.rf
  have hl : lv_has ls 1 [(0, .int v0)] := hl
  have hP : zV (dC, dI) zcl (zKs n) ad (zcE n cI cZ cR cA ad) st s.heap := hP
  unfold F_L_receiverOf at hF
  refine lv_iload_n S.1 S.2.1 d_L_receiverOf_0 rfl (lv_at hl 0 rfl) ?_
  refine lv_bipush (v := 19) S.1 S.2.1 d_L_receiverOf_1 (by decide) ?_
  refine lv_ishr S.1 S.2.1 d_L_receiverOf_3 ?_
  refine lv_bipush (v := 7) S.1 S.2.1 d_L_receiverOf_4 (by decide) ?_
  refine lv_iand S.1 S.2.1 d_L_receiverOf_6 ?_
  cases hF
  exact zr_iret S hret hlk hS d_L_receiverOf_7 ⟨rfl, hP⟩

theorem d_L_isFromTo_0 : decode b_L_isFromTo 0 = .ok (.aload_n 0, 1) := by decide +kernel
theorem d_L_isFromTo_1 : decode b_L_isFromTo 1 = .ok (.getfield 11, 3) := by decide +kernel
theorem d_L_isFromTo_4 : decode b_L_isFromTo 4 = .ok (.iload_n 1, 1) := by decide +kernel
theorem d_L_isFromTo_5 : decode b_L_isFromTo 5 = .ok (.iaload, 1) := by decide +kernel
theorem d_L_isFromTo_6 : decode b_L_isFromTo 6 = .ok (.invokestatic 46, 3) := by decide +kernel
theorem d_L_isFromTo_9 : decode b_L_isFromTo 9 = .ok (.iload_n 2, 1) := by decide +kernel
theorem d_L_isFromTo_10 : decode b_L_isFromTo 10 = .ok (.if_icmp .ne 20, 3) := by decide +kernel
theorem d_L_isFromTo_13 : decode b_L_isFromTo 13 = .ok (.aload_n 0, 1) := by decide +kernel
theorem d_L_isFromTo_14 : decode b_L_isFromTo 14 = .ok (.getfield 11, 3) := by decide +kernel
theorem d_L_isFromTo_17 : decode b_L_isFromTo 17 = .ok (.iload_n 1, 1) := by decide +kernel
theorem d_L_isFromTo_18 : decode b_L_isFromTo 18 = .ok (.iaload, 1) := by decide +kernel
theorem d_L_isFromTo_19 : decode b_L_isFromTo 19 = .ok (.invokestatic 50, 3) := by decide +kernel
theorem d_L_isFromTo_22 : decode b_L_isFromTo 22 = .ok (.iload_n 3, 1) := by decide +kernel
theorem d_L_isFromTo_23 : decode b_L_isFromTo 23 = .ok (.if_icmp .ne 7, 3) := by decide +kernel
theorem d_L_isFromTo_26 : decode b_L_isFromTo 26 = .ok (.iconst 1, 1) := by decide +kernel
theorem d_L_isFromTo_27 : decode b_L_isFromTo 27 = .ok (.goto 4, 3) := by decide +kernel
theorem d_L_isFromTo_30 : decode b_L_isFromTo 30 = .ok (.iconst 0, 1) := by decide +kernel
theorem d_L_isFromTo_31 : decode b_L_isFromTo 31 = .ok (.ireturn, 1) := by decide +kernel
def F_L_isFromTo_s2 (n : Nat) (v3 : Int32) (t0 : Int32) (st : zS) : Option (Int32 × zS) :=
    if t0 = v3 then (some (1, st)) else (some (0, st))

def F_L_isFromTo_s1 (n : Nat) (v1 : Int32) (v2 : Int32) (v3 : Int32) (t0 : Int32) (st : zS) : Option (Int32 × zS) :=
    if t0 = v2 then (if zOut v1 1024 then none else (F_L_receiverOf n (st 4 0 (Int32.toNatClampNeg v1)) st).bind (fun u => F_L_isFromTo_s2 n v3 u.1 u.2)) else (some (0, st))

def F_L_isFromTo (n : Nat) (v1 : Int32) (v2 : Int32) (v3 : Int32) (st : zS) : Option (Int32 × zS) :=
    if zOut v1 1024 then none else (F_L_senderOf n (st 4 0 (Int32.toNatClampNeg v1)) st).bind (fun u => F_L_isFromTo_s1 n v1 v2 v3 u.1 u.2)

set_option maxHeartbeats 4000000 in
set_option maxRecDepth 1000000 in
theorem C_L_isFromTo {dC : Nat → ClassId} {dI : Nat → Nat → Nat} {cI cZ cR cA : ClassId} {n : Nat} {ad : zK → Nat} {A : Nat → Prop} (hn : 2 ≤ n ∧ n ≤ 6) (hD : zD A (zKs n) ad) (l : Launch) (v1 : Int32) (v2 : Int32) (v3 : Int32) (st : zS) (out : Int32 × zS) (hF : F_L_isFromTo n v1 v2 v3 st = some out) : zC zT (dC, dI) zcl (zty cI cZ cR cA) A l y_L_isFromTo b_L_isFromTo 4 (some .boolean) rm_L_isFromTo [.ref (ad (3, 0)), .int v1, .int v2, .int v3] (fun H => zV (dC, dI) zcl (zKs n) ad (zcE n cI cZ cR cA ad) st H) (fun o H => o = some (.int out.1) ∧ zV (dC, dI) zcl (zKs n) ad (zcE n cI cZ cR cA ad) out.2 H) := by
  refine zC_of (by decide) (Nat.le_of_ble_eq_true rfl) (fun p e s m args below meth c ls S hret hlk hK hP hl => ?_)
  have hS : va_S A s.heap s.heap [] := va_S.rf
  have hl : lv_has ls 4 [(0, .ref (ad (3, 0))), (1, .int v1), (2, .int v2), (3, .int v3)] := hl
  have hP : zV (dC, dI) zcl (zKs n) ad (zcE n cI cZ cR cA ad) st s.heap := hP
  unfold F_L_isFromTo at hF
  refine lv_aload_n S.1 S.2.1 d_L_isFromTo_0 rfl (lv_at hl 0 rfl) ?_
  refine zr_get (v := .ref (ad (4, 0))) S zi_L hK hP zk_3 rfl rfl 0 (by decide) zx_18 rfl d_L_isFromTo_1 ?_
  refine lv_iload_n S.1 S.2.1 d_L_isFromTo_4 rfl (lv_at hl 1 rfl) ?_
  by_cases g5 : zOut v1 1024
  · rw [if_pos g5] at hF; cases hF
  rw [if_neg g5] at hF
  refine zr_iald S hK hP zk_4 rfl 0 rfl g5 d_L_isFromTo_5 ?_
  cases hc6 : F_L_senderOf n (st 4 0 (Int32.toNatClampNeg v1)) st with
  | none => rw [hc6] at hF; cases hF
  | some u6 =>
    obtain ⟨r6, st6⟩ := u6
    rw [hc6] at hF
    replace hF := zbind hF
    refine zr_callS (rest := []) S zT_good (C_L_senderOf hn hD l (st 4 0 (Int32.toNatClampNeg v1)) st (r6, st6) hc6) zn_L_senderOf zx_92 ⟨rfl, rfl⟩ ⟨Nat.le_of_ble_eq_true rfl, Nat.le_of_ble_eq_true rfl⟩ ⟨Nat.zero_le _, Nat.zero_le _⟩ hK hP hl.1 (Nat.le_of_ble_eq_true rfl) hS (fun _ h => h) d_L_isFromTo_6 rfl (fun o H locs hpo _ _ hS => ?_)
    obtain ⟨rfl, hP⟩ := hpo
    refine W.eq (g2 := F0 m 9 ls [.int r6]) rfl ?_
    replace hF : F_L_isFromTo_s1 n v1 v2 v3 r6 st6 = some out := hF
    replace hP : zV (dC, dI) zcl (zKs n) ad (zcE n cI cZ cR cA ad) st6 H := hP
    unfold F_L_isFromTo_s1 at hF
    refine lv_iload_n S.1 S.2.1 d_L_isFromTo_9 rfl (lv_at hl 2 rfl) ?_
    refine lv_icmp_ne (tgt := 30) S.1 S.2.1 d_L_isFromTo_10 (by decide) (fun h10 => ?_) (fun h10 => ?_)
    · rw [if_neg h10] at hF
      refine lv_iconst (v := 0) S.1 S.2.1 d_L_isFromTo_30 (by decide) ?_
      cases hF
      exact zr_zret S hret hlk (by decide) hS d_L_isFromTo_31 ⟨rfl, hP⟩
    · rw [if_pos h10] at hF
      refine lv_aload_n S.1 S.2.1 d_L_isFromTo_13 rfl (lv_at hl 0 rfl) ?_
      refine zr_get (v := .ref (ad (4, 0))) S zi_L hK hP zk_3 rfl rfl 0 (by decide) zx_18 rfl d_L_isFromTo_14 ?_
      refine lv_iload_n S.1 S.2.1 d_L_isFromTo_17 rfl (lv_at hl 1 rfl) ?_
      by_cases g18 : zOut v1 1024
      · rw [if_pos g18] at hF; cases hF
      rw [if_neg g18] at hF
      refine zr_iald S hK hP zk_4 rfl 0 rfl g18 d_L_isFromTo_18 ?_
      cases hc19 : F_L_receiverOf n (st6 4 0 (Int32.toNatClampNeg v1)) st6 with
      | none => rw [hc19] at hF; cases hF
      | some u19 =>
        obtain ⟨r19, st19⟩ := u19
        rw [hc19] at hF
        replace hF := zbind hF
        refine zr_callS (rest := []) S zT_good (C_L_receiverOf hn hD l (st6 4 0 (Int32.toNatClampNeg v1)) st6 (r19, st19) hc19) zn_L_receiverOf zx_93 ⟨rfl, rfl⟩ ⟨Nat.le_of_ble_eq_true rfl, Nat.le_of_ble_eq_true rfl⟩ ⟨Nat.zero_le _, Nat.zero_le _⟩ hK hP hl.1 (Nat.le_of_ble_eq_true rfl) hS (fun _ h => h) d_L_isFromTo_19 rfl (fun o H locs hpo _ _ hS => ?_)
        obtain ⟨rfl, hP⟩ := hpo
        refine W.eq (g2 := F0 m 22 ls [.int r19]) rfl ?_
        replace hF : F_L_isFromTo_s2 n v3 r19 st19 = some out := hF
        replace hP : zV (dC, dI) zcl (zKs n) ad (zcE n cI cZ cR cA ad) st19 H := hP
        unfold F_L_isFromTo_s2 at hF
        refine lv_iload_n S.1 S.2.1 d_L_isFromTo_22 rfl (lv_at hl 3 rfl) ?_
        refine lv_icmp_ne (tgt := 30) S.1 S.2.1 d_L_isFromTo_23 (by decide) (fun h23 => ?_) (fun h23 => ?_)
        · rw [if_neg h23] at hF
          refine lv_iconst (v := 0) S.1 S.2.1 d_L_isFromTo_30 (by decide) ?_
          cases hF
          exact zr_zret S hret hlk (by decide) hS d_L_isFromTo_31 ⟨rfl, hP⟩
        · rw [if_pos h23] at hF
          refine lv_iconst (v := 1) S.1 S.2.1 d_L_isFromTo_26 (by decide) ?_
          refine lv_goto (tgt := 31) S.1 S.2.1 d_L_isFromTo_27 (by decide) ?_
          cases hF
          exact zr_zret S hret hlk (by decide) hS d_L_isFromTo_31 ⟨rfl, hP⟩

