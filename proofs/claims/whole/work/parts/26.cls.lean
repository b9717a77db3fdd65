theorem d_D_deliver_0 : decode b_D_deliver 0 = .ok (.aload_n 0, 1) := by decide +kernel
theorem d_D_deliver_1 : decode b_D_deliver 1 = .ok (.iload_n 1, 1) := by decide +kernel
theorem d_D_deliver_2 : decode b_D_deliver 2 = .ok (.iload_n 2, 1) := by decide +kernel
theorem d_D_deliver_3 : decode b_D_deliver 3 = .ok (.invokevirtual 61, 3) := by decide +kernel
theorem d_D_deliver_6 : decode b_D_deliver 6 = .ok (.ifCond .ne 5, 3) := by decide +kernel
theorem d_D_deliver_9 : decode b_D_deliver 9 = .ok (.iconst (-1), 1) := by decide +kernel
theorem d_D_deliver_10 : decode b_D_deliver 10 = .ok (.ireturn, 1) := by decide +kernel
theorem d_D_deliver_11 : decode b_D_deliver 11 = .ok (.aload_n 0, 1) := by decide +kernel
theorem d_D_deliver_12 : decode b_D_deliver 12 = .ok (.getfield 39, 3) := by decide +kernel
theorem d_D_deliver_15 : decode b_D_deliver 15 = .ok (.invokevirtual 47, 3) := by decide +kernel
theorem d_D_deliver_18 : decode b_D_deliver 18 = .ok (.sipush 400, 3) := by decide +kernel
theorem d_D_deliver_21 : decode b_D_deliver 21 = .ok (.if_icmp .le 6, 3) := by decide +kernel
theorem d_D_deliver_24 : decode b_D_deliver 24 = .ok (.bipush (-2), 2) := by decide +kernel
theorem d_D_deliver_26 : decode b_D_deliver 26 = .ok (.ireturn, 1) := by decide +kernel
theorem d_D_deliver_27 : decode b_D_deliver 27 = .ok (.aload_n 0, 1) := by decide +kernel
theorem d_D_deliver_28 : decode b_D_deliver 28 = .ok (.getfield 39, 3) := by decide +kernel
theorem d_D_deliver_31 : decode b_D_deliver 31 = .ok (.iload_n 1, 1) := by decide +kernel
theorem d_D_deliver_32 : decode b_D_deliver 32 = .ok (.iload_n 2, 1) := by decide +kernel
theorem d_D_deliver_33 : decode b_D_deliver 33 = .ok (.iconst 0, 1) := by decide +kernel
theorem d_D_deliver_34 : decode b_D_deliver 34 = .ok (.invokevirtual 71, 3) := by decide +kernel
theorem d_D_deliver_37 : decode b_D_deliver 37 = .ok (.istore_n 3, 1) := by decide +kernel
theorem d_D_deliver_38 : decode b_D_deliver 38 = .ok (.iload_n 3, 1) := by decide +kernel
theorem d_D_deliver_39 : decode b_D_deliver 39 = .ok (.iconst (-1), 1) := by decide +kernel
theorem d_D_deliver_40 : decode b_D_deliver 40 = .ok (.if_icmp .ne 7, 3) := by decide +kernel
theorem d_D_deliver_43 : decode b_D_deliver 43 = .ok (.iconst 0, 1) := by decide +kernel
theorem d_D_deliver_44 : decode b_D_deliver 44 = .ok (.goto 10, 3) := by decide +kernel
theorem d_D_deliver_47 : decode b_D_deliver 47 = .ok (.aload_n 0, 1) := by decide +kernel
theorem d_D_deliver_48 : decode b_D_deliver 48 = .ok (.iload_n 3, 1) := by decide +kernel
theorem d_D_deliver_49 : decode b_D_deliver 49 = .ok (.invokevirtual 75, 3) := by decide +kernel
theorem d_D_deliver_52 : decode b_D_deliver 52 = .ok (.iconst 1, 1) := by decide +kernel
theorem d_D_deliver_53 : decode b_D_deliver 53 = .ok (.iadd, 1) := by decide +kernel
theorem d_D_deliver_54 : decode b_D_deliver 54 = .ok (.ireturn, 1) := by decide +kernel
def F_D_deliver_s4 (n : Nat) (t0 : Int32) (st : zS) : Option (Int32 × zS) :=
    some (t0 + 1, st)

def F_D_deliver_s3 (n : Nat) (t0 : Int32) (st : zS) : Option (Int32 × zS) :=
    if t0 = (-1) then (some (0, st)) else ((F_D_bring n t0 st).bind (fun u => F_D_deliver_s4 n u.1 u.2))

def F_D_deliver_s2 (n : Nat) (v1 : Int32) (v2 : Int32) (t0 : Int32) (st : zS) : Option (Int32 × zS) :=
    if t0 ≤ 400 then ((F_L_find n v1 v2 0 st).bind (fun u => F_D_deliver_s3 n u.1 u.2)) else (some ((-2), st))

def F_D_deliver_s1 (n : Nat) (v1 : Int32) (v2 : Int32) (t0 : Int32) (st : zS) : Option (Int32 × zS) :=
    if t0 = 0 then (some ((-1), st)) else ((F_L_size n st).bind (fun u => F_D_deliver_s2 n v1 v2 u.1 u.2))

def F_D_deliver (n : Nat) (v1 : Int32) (v2 : Int32) (st : zS) : Option (Int32 × zS) :=
    (F_D_isLink n v1 v2 st).bind (fun u => F_D_deliver_s1 n v1 v2 u.1 u.2)

set_option maxHeartbeats 4000000 in
set_option maxRecDepth 100000 in
theorem C_D_deliver {dC : Nat → ClassId} {dI : Nat → Nat → Nat} {cI cZ cR cA : ClassId} {n : Nat} {ad : zK → Nat} {A : Nat → Prop} (hn : 2 ≤ n ∧ n ≤ 6) (hD : zD A (zKs n) ad) (l : Launch) (v1 : Int32) (v2 : Int32) (st : zS) (out : Int32 × zS) (hF : F_D_deliver n v1 v2 st = some out) : zC zT (dC, dI) zcl (zty cI cZ cR cA) A l y_D_deliver b_D_deliver 4 (some .int) rm_D_deliver [.ref (ad (0, 0)), .int v1, .int v2] (fun H => zV (dC, dI) zcl (zKs n) ad (zcE n cI cZ cR cA ad) st H) (fun o H => o = some (.int out.1) ∧ zV (dC, dI) zcl (zKs n) ad (zcE n cI cZ cR cA ad) out.2 H) := by
  refine zC_of (by decide) (Nat.le_of_ble_eq_true rfl) (fun p e s m args below meth c ls S hret hlk hK hP hl => ?_)
  have hS : va_S A s.heap s.heap [] := va_S.rf
  have hl : lv_has ls 4 [(0, .ref (ad (0, 0))), (1, .int v1), (2, .int v2)] := hl
  have hP : zV (dC, dI) zcl (zKs n) ad (zcE n cI cZ cR cA ad) st s.heap := hP
  unfold F_D_deliver at hF
  refine lv_aload_n S.1 S.2.1 d_D_deliver_0 rfl (lv_at hl 0 rfl) ?_
  refine lv_iload_n S.1 S.2.1 d_D_deliver_1 rfl (lv_at hl 1 rfl) ?_
  refine lv_iload_n S.1 S.2.1 d_D_deliver_2 rfl (lv_at hl 2 rfl) ?_
  cases hc3 : F_D_isLink n v1 v2 st with
  | none => rw [hc3] at hF; cases hF
  | some u3 =>
    obtain ⟨r3, st3⟩ := u3
    rw [hc3] at hF
    refine zr_callV (rest := []) S zT_good (C_D_isLink hn hD l v1 v2 st (r3, st3) hc3) zn_D_isLink zx_67 ⟨rfl, rfl⟩ ⟨Nat.le_of_ble_eq_true rfl, Nat.le_of_ble_eq_true rfl⟩ ⟨Nat.zero_le _, Nat.zero_le _⟩ hK (zr_recv hK hP zk_0 rfl rfl) hP hl.1 (Nat.le_of_ble_eq_true rfl) hS (fun _ h => h) d_D_deliver_3 rfl (fun o H locs hpo _ _ hS => ?_)
    obtain ⟨rfl, hP⟩ := hpo
    refine W.eq (g2 := F0 m 6 ls [.int r3]) rfl ?_
    replace hF : F_D_deliver_s1 n v1 v2 r3 st3 = some out := hF
    replace hP : zV (dC, dI) zcl (zKs n) ad (zcE n cI cZ cR cA ad) st3 H := hP
    unfold F_D_deliver_s1 at hF
    refine lv_if_ne (tgt := 11) S.1 S.2.1 d_D_deliver_6 (by decide) (fun h6 => ?_) (fun h6 => ?_)
    · rw [if_neg h6] at hF
      refine lv_aload_n S.1 S.2.1 d_D_deliver_11 rfl (lv_at hl 0 rfl) ?_
      refine zr_get (v := .ref (ad (3, 0))) S zi_D hK hP zk_0 rfl rfl 3 (by decide) zx_16 rfl d_D_deliver_12 ?_
      cases hc15 : F_L_size n st3 with
      | none => rw [hc15] at hF; cases hF
      | some u15 =>
        obtain ⟨r15, st15⟩ := u15
        rw [hc15] at hF
        refine zr_callV (rest := []) S zT_good (C_L_size hn hD l st3 (r15, st15) hc15) zn_L_size zx_62 ⟨rfl, rfl⟩ ⟨Nat.le_of_ble_eq_true rfl, Nat.le_of_ble_eq_true rfl⟩ ⟨Nat.zero_le _, Nat.zero_le _⟩ hK (zr_recv hK hP zk_3 rfl rfl) hP hl.1 (Nat.le_of_ble_eq_true rfl) hS (fun _ h => h) d_D_deliver_15 rfl (fun o H locs hpo _ _ hS => ?_)
        obtain ⟨rfl, hP⟩ := hpo
        refine W.eq (g2 := F0 m 18 ls [.int r15]) rfl ?_
        replace hF : F_D_deliver_s2 n v1 v2 r15 st15 = some out := hF
        replace hP : zV (dC, dI) zcl (zKs n) ad (zcE n cI cZ cR cA ad) st15 H := hP
        unfold F_D_deliver_s2 at hF
        refine lv_sipush (v := 400) S.1 S.2.1 d_D_deliver_18 (by decide) ?_
        refine lv_icmp_le (tgt := 27) S.1 S.2.1 d_D_deliver_21 (by decide) (fun h21 => ?_) (fun h21 => ?_)
        · rw [if_pos h21] at hF
          refine lv_aload_n S.1 S.2.1 d_D_deliver_27 rfl (lv_at hl 0 rfl) ?_
          refine zr_get (v := .ref (ad (3, 0))) S zi_D hK hP zk_0 rfl rfl 3 (by decide) zx_16 rfl d_D_deliver_28 ?_
          refine lv_iload_n S.1 S.2.1 d_D_deliver_31 rfl (lv_at hl 1 rfl) ?_
          refine lv_iload_n S.1 S.2.1 d_D_deliver_32 rfl (lv_at hl 2 rfl) ?_
          refine lv_iconst (v := 0) S.1 S.2.1 d_D_deliver_33 (by decide) ?_
          cases hc34 : F_L_find n v1 v2 0 st15 with
          | none => rw [hc34] at hF; cases hF
          | some u34 =>
            obtain ⟨r34, st34⟩ := u34
            rw [hc34] at hF
            refine zr_callV (rest := []) S zT_good (C_L_find hn hD l v1 v2 0 st15 (r34, st34) hc34) zn_L_find zx_78 ⟨rfl, rfl⟩ ⟨Nat.le_of_ble_eq_true rfl, Nat.le_of_ble_eq_true rfl⟩ ⟨Nat.zero_le _, Nat.zero_le _⟩ hK (zr_recv hK hP zk_3 rfl rfl) hP hl.1 (Nat.le_of_ble_eq_true rfl) hS (fun _ h => h) d_D_deliver_34 rfl (fun o H locs hpo _ _ hS => ?_)
            obtain ⟨rfl, hP⟩ := hpo
            refine W.eq (g2 := F0 m 37 ls [.int r34]) rfl ?_
            replace hF : F_D_deliver_s3 n r34 st34 = some out := hF
            replace hP : zV (dC, dI) zcl (zKs n) ad (zcE n cI cZ cR cA ad) st34 H := hP
            unfold F_D_deliver_s3 at hF
            refine lv_istore_n S.1 S.2.1 d_D_deliver_37 rfl hl (by decide) rfl (fun ls hl => ?_)
            have hl : lv_has ls 4 [(3, .int r34), (0, .ref (ad (0, 0))), (1, .int v1), (2, .int v2)] := hl
            refine lv_iload_n S.1 S.2.1 d_D_deliver_38 rfl (lv_at hl 0 rfl) ?_
            refine lv_iconst (v := (-1)) S.1 S.2.1 d_D_deliver_39 (by decide) ?_
            refine lv_icmp_ne (tgt := 47) S.1 S.2.1 d_D_deliver_40 (by decide) (fun h40 => ?_) (fun h40 => ?_)
            · rw [if_neg h40] at hF
              refine lv_aload_n S.1 S.2.1 d_D_deliver_47 rfl (lv_at hl 1 rfl) ?_
              refine lv_iload_n S.1 S.2.1 d_D_deliver_48 rfl (lv_at hl 0 rfl) ?_
              cases hc49 : F_D_bring n r34 st34 with
              | none => rw [hc49] at hF; cases hF
              | some u49 =>
                obtain ⟨r49, st49⟩ := u49
                rw [hc49] at hF
                refine zr_callV (rest := []) S zT_good (C_D_bring hn hD l r34 st34 (r49, st49) hc49) zn_D_bring zx_79 ⟨rfl, rfl⟩ ⟨Nat.le_of_ble_eq_true rfl, Nat.le_of_ble_eq_true rfl⟩ ⟨Nat.zero_le _, Nat.zero_le _⟩ hK (zr_recv hK hP zk_0 rfl rfl) hP hl.1 (Nat.le_of_ble_eq_true rfl) hS (fun _ h => h) d_D_deliver_49 rfl (fun o H locs hpo _ _ hS => ?_)
                obtain ⟨rfl, hP⟩ := hpo
                refine W.eq (g2 := F0 m 52 ls [.int r49]) rfl ?_
                replace hF : F_D_deliver_s4 n r49 st49 = some out := hF
                replace hP : zV (dC, dI) zcl (zKs n) ad (zcE n cI cZ cR cA ad) st49 H := hP
                unfold F_D_deliver_s4 at hF
                refine lv_iconst (v := 1) S.1 S.2.1 d_D_deliver_52 (by decide) ?_
                refine lv_iadd S.1 S.2.1 d_D_deliver_53 ?_
                cases hF
                exact zr_iret S hret hlk hS d_D_deliver_54 ⟨rfl, hP⟩
            · rw [if_pos h40] at hF
              refine lv_iconst (v := 0) S.1 S.2.1 d_D_deliver_43 (by decide) ?_
              refine lv_goto (tgt := 54) S.1 S.2.1 d_D_deliver_44 (by decide) ?_
              cases hF
              exact zr_iret S hret hlk hS d_D_deliver_54 ⟨rfl, hP⟩
        · rw [if_neg h21] at hF
          refine lv_bipush (v := (-2)) S.1 S.2.1 d_D_deliver_24 (by decide) ?_
          cases hF
          exact zr_iret S hret hlk hS d_D_deliver_26 ⟨rfl, hP⟩
    · rw [if_pos h6] at hF
      refine lv_iconst (v := (-1)) S.1 S.2.1 d_D_deliver_9 (by decide) ?_
      cases hF
      exact zr_iret S hret hlk hS d_D_deliver_10 ⟨rfl, hP⟩

theorem d_D_run_0 : decode b_D_run 0 = .ok (.iload_n 1, 1) := by decide +kernel
theorem d_D_run_1 : decode b_D_run 1 = .ok (.ifCond .lt 10, 3) := by decide +kernel
theorem d_D_run_4 : decode b_D_run 4 = .ok (.iload_n 1, 1) := by decide +kernel
theorem d_D_run_5 : decode b_D_run 5 = .ok (.sipush 200, 3) := by decide +kernel
theorem d_D_run_8 : decode b_D_run 8 = .ok (.if_icmp .le 5, 3) := by decide +kernel
theorem d_D_run_11 : decode b_D_run 11 = .ok (.iconst (-1), 1) := by decide +kernel
theorem d_D_run_12 : decode b_D_run 12 = .ok (.ireturn, 1) := by decide +kernel
theorem d_D_run_13 : decode b_D_run 13 = .ok (.iconst 0, 1) := by decide +kernel
theorem d_D_run_14 : decode b_D_run 14 = .ok (.istore_n 2, 1) := by decide +kernel
theorem d_D_run_15 : decode b_D_run 15 = .ok (.iload_n 2, 1) := by decide +kernel
theorem d_D_run_16 : decode b_D_run 16 = .ok (.iload_n 1, 1) := by decide +kernel
theorem d_D_run_17 : decode b_D_run 17 = .ok (.if_icmp .ge 44, 3) := by decide +kernel
theorem d_D_run_20 : decode b_D_run 20 = .ok (.aload_n 0, 1) := by decide +kernel
theorem d_D_run_21 : decode b_D_run 21 = .ok (.getfield 39, 3) := by decide +kernel
theorem d_D_run_24 : decode b_D_run 24 = .ok (.invokevirtual 47, 3) := by decide +kernel
theorem d_D_run_27 : decode b_D_run 27 = .ok (.ifCond .le 34, 3) := by decide +kernel
theorem d_D_run_30 : decode b_D_run 30 = .ok (.aload_n 0, 1) := by decide +kernel
theorem d_D_run_31 : decode b_D_run 31 = .ok (.getfield 39, 3) := by decide +kernel
theorem d_D_run_34 : decode b_D_run 34 = .ok (.invokevirtual 47, 3) := by decide +kernel
theorem d_D_run_37 : decode b_D_run 37 = .ok (.sipush 400, 3) := by decide +kernel
theorem d_D_run_40 : decode b_D_run 40 = .ok (.if_icmp .gt 21, 3) := by decide +kernel
theorem d_D_run_43 : decode b_D_run 43 = .ok (.aload_n 0, 1) := by decide +kernel
theorem d_D_run_44 : decode b_D_run 44 = .ok (.aload_n 0, 1) := by decide +kernel
theorem d_D_run_45 : decode b_D_run 45 = .ok (.getfield 39, 3) := by decide +kernel
theorem d_D_run_48 : decode b_D_run 48 = .ok (.getfield 79, 3) := by decide +kernel
theorem d_D_run_51 : decode b_D_run 51 = .ok (.invokevirtual 75, 3) := by decide +kernel
theorem d_D_run_54 : decode b_D_run 54 = .ok (.pop, 1) := by decide +kernel
theorem d_D_run_55 : decode b_D_run 55 = .ok (.iinc 2 1, 3) := by decide +kernel
theorem d_D_run_58 : decode b_D_run 58 = .ok (.goto (-43), 3) := by decide +kernel
theorem d_D_run_61 : decode b_D_run 61 = .ok (.iload_n 2, 1) := by decide +kernel
theorem d_D_run_62 : decode b_D_run 62 = .ok (.ireturn, 1) := by decide +kernel
def F_D_run_L15_s3 (n : Nat) (c15 : Int32 → Int32 → zS → Option (Int32 × zS)) (v1 : Int32) (v2 : Int32) (t0 : Int32) (st : zS) : Option (Int32 × zS) :=
    c15 v1 (v2 + 1) st

def F_D_run_L15_s2 (n : Nat) (c15 : Int32 → Int32 → zS → Option (Int32 × zS)) (v1 : Int32) (v2 : Int32) (t0 : Int32) (st : zS) : Option (Int32 × zS) :=
    if 400 < t0 then (some (v2, st)) else ((F_D_bring n (st 3 0 0) st).bind (fun u => F_D_run_L15_s3 n c15 v1 v2 u.1 u.2))

def F_D_run_L15_s1 (n : Nat) (c15 : Int32 → Int32 → zS → Option (Int32 × zS)) (v1 : Int32) (v2 : Int32) (t0 : Int32) (st : zS) : Option (Int32 × zS) :=
    if t0 ≤ 0 then (some (v2, st)) else ((F_L_size n st).bind (fun u => F_D_run_L15_s2 n c15 v1 v2 u.1 u.2))

def F_D_run_L15 (n : Nat) : Nat → Int32 → Int32 → zS → Option (Int32 × zS)
  | 0, _, _, _ => none
  | f + 1, v1, v2, st =>
    if v1 ≤ v2 then (some (v2, st)) else ((F_L_size n st).bind (fun u => F_D_run_L15_s1 n (F_D_run_L15 n f) v1 v2 u.1 u.2))

def F_D_run (n : Nat) (v1 : Int32) (st : zS) : Option (Int32 × zS) :=
    if v1 < 0 then (some ((-1), st)) else (if v1 ≤ 200 then (F_D_run_L15 n zFuel v1 0 st) else (some ((-1), st)))

set_option maxHeartbeats 4000000 in
set_option maxRecDepth 100000 in
theorem T_D_run_L15 {dC : Nat → ClassId} {dI : Nat → Nat → Nat} {cI cZ cR cA : ClassId} {n : Nat} {ad : zK → Nat} {A : Nat → Prop} (hn : 2 ≤ n ∧ n ≤ 6) (hD : zD A (zKs n) ad) {p : Program} {l : Launch} {e : Env} {s : State} {m : MethodId} {args : Array Value} {below : List Frame} {meth : Method} {c : Code} (S : CallFix p m c b_D_run 3 s args zT N_D) (hret : meth.sig.returnType = some .int) (hlk : meth.locks = false) (hK : va_K (dC, dI) zcl (zty cI cZ cR cA) s) (out : Int32 × zS) : ∀ (fu : Nat) (v1 : Int32) (v2 : Int32) (st : zS) (H : Heap) (locs : List Loc) (ls : Array Slot) (hP : zV (dC, dI) zcl (zKs n) ad (zcE n cI cZ cR cA ad) st H) (hS : va_S A s.heap H locs) (hl : lv_has ls 3 [(0, .ref (ad (0, 0))), (1, .int v1), (2, .int v2)]) (hF : F_D_run_L15 n fu v1 v2 st = some out), W p l e rm_D_run s m args below meth c H locs 0 0 (zQ below A (fun o H => o = some (.int out.1) ∧ zV (dC, dI) zcl (zKs n) ad (zcE n cI cZ cR cA ad) out.2 H) args s) (F0 m 15 ls []) := by
  intro fu
  induction fu with
  | zero => intro v1 v2 st H locs ls hP hS hl hF; rw [F_D_run_L15] at hF; cases hF
  | succ f ih =>
    intro v1 v2 st H locs ls hP hS hl hF
    rw [F_D_run_L15] at hF
    refine lv_iload_n S.1 S.2.1 d_D_run_15 rfl (lv_at hl 2 rfl) ?_
    refine lv_iload_n S.1 S.2.1 d_D_run_16 rfl (lv_at hl 1 rfl) ?_
    refine lv_icmp_ge (tgt := 61) S.1 S.2.1 d_D_run_17 (by decide) (fun h17 => ?_) (fun h17 => ?_)
    · rw [if_pos h17] at hF
      refine lv_iload_n S.1 S.2.1 d_D_run_61 rfl (lv_at hl 2 rfl) ?_
      cases hF
      exact zr_iret S hret hlk hS d_D_run_62 ⟨rfl, hP⟩
    · rw [if_neg h17] at hF
      refine lv_aload_n S.1 S.2.1 d_D_run_20 rfl (lv_at hl 0 rfl) ?_
      refine zr_get (v := .ref (ad (3, 0))) S zi_D hK hP zk_0 rfl rfl 3 (by decide) zx_16 rfl d_D_run_21 ?_
      cases hc24 : F_L_size n st with
      | none => rw [hc24] at hF; cases hF
      | some u24 =>
        obtain ⟨r24, st24⟩ := u24
        rw [hc24] at hF
        refine zr_callV (rest := []) S zT_good (C_L_size hn hD l st (r24, st24) hc24) zn_L_size zx_62 ⟨rfl, rfl⟩ ⟨Nat.le_of_ble_eq_true rfl, Nat.le_of_ble_eq_true rfl⟩ ⟨Nat.zero_le _, Nat.zero_le _⟩ hK (zr_recv hK hP zk_3 rfl rfl) hP hl.1 (Nat.le_of_ble_eq_true rfl) hS (fun _ h => h) d_D_run_24 rfl (fun o H locs hpo _ _ hS => ?_)
        obtain ⟨rfl, hP⟩ := hpo
        refine W.eq (g2 := F0 m 27 ls [.int r24]) rfl ?_
        replace hF : F_D_run_L15_s1 n (F_D_run_L15 n f) v1 v2 r24 st24 = some out := hF
        replace hP : zV (dC, dI) zcl (zKs n) ad (zcE n cI cZ cR cA ad) st24 H := hP
        unfold F_D_run_L15_s1 at hF
        refine lv_if_le (tgt := 61) S.1 S.2.1 d_D_run_27 (by decide) (fun h27 => ?_) (fun h27 => ?_)
        · rw [if_pos h27] at hF
          refine lv_iload_n S.1 S.2.1 d_D_run_61 rfl (lv_at hl 2 rfl) ?_
          cases hF
          exact zr_iret S hret hlk hS d_D_run_62 ⟨rfl, hP⟩
        · rw [if_neg h27] at hF
          refine lv_aload_n S.1 S.2.1 d_D_run_30 rfl (lv_at hl 0 rfl) ?_
          refine zr_get (v := .ref (ad (3, 0))) S zi_D hK hP zk_0 rfl rfl 3 (by decide) zx_16 rfl d_D_run_31 ?_
          cases hc34 : F_L_size n st24 with
          | none => rw [hc34] at hF; cases hF
          | some u34 =>
            obtain ⟨r34, st34⟩ := u34
            rw [hc34] at hF
            refine zr_callV (rest := []) S zT_good (C_L_size hn hD l st24 (r34, st34) hc34) zn_L_size zx_62 ⟨rfl, rfl⟩ ⟨Nat.le_of_ble_eq_true rfl, Nat.le_of_ble_eq_true rfl⟩ ⟨Nat.zero_le _, Nat.zero_le _⟩ hK (zr_recv hK hP zk_3 rfl rfl) hP hl.1 (Nat.le_of_ble_eq_true rfl) hS (fun _ h => h) d_D_run_34 rfl (fun o H locs hpo _ _ hS => ?_)
            obtain ⟨rfl, hP⟩ := hpo
            refine W.eq (g2 := F0 m 37 ls [.int r34]) rfl ?_
            replace hF : F_D_run_L15_s2 n (F_D_run_L15 n f) v1 v2 r34 st34 = some out := hF
            replace hP : zV (dC, dI) zcl (zKs n) ad (zcE n cI cZ cR cA ad) st34 H := hP
            unfold F_D_run_L15_s2 at hF
            refine lv_sipush (v := 400) S.1 S.2.1 d_D_run_37 (by decide) ?_
            refine lv_icmp_gt (tgt := 61) S.1 S.2.1 d_D_run_40 (by decide) (fun h40 => ?_) (fun h40 => ?_)
            · rw [if_pos h40] at hF
              refine lv_iload_n S.1 S.2.1 d_D_run_61 rfl (lv_at hl 2 rfl) ?_
              cases hF
              exact zr_iret S hret hlk hS d_D_run_62 ⟨rfl, hP⟩
            · rw [if_neg h40] at hF
              refine lv_aload_n S.1 S.2.1 d_D_run_43 rfl (lv_at hl 0 rfl) ?_
              refine lv_aload_n S.1 S.2.1 d_D_run_44 rfl (lv_at hl 0 rfl) ?_
              refine zr_get (v := .ref (ad (3, 0))) S zi_D hK hP zk_0 rfl rfl 3 (by decide) zx_16 rfl d_D_run_45 ?_
              refine zr_get (v := .int (st34 3 0 0)) S zi_L hK hP zk_3 rfl rfl 2 (by decide) zx_80 rfl d_D_run_48 ?_
              cases hc51 : F_D_bring n (st34 3 0 0) st34 with
              | none => rw [hc51] at hF; cases hF
              | some u51 =>
                obtain ⟨r51, st51⟩ := u51
                rw [hc51] at hF
                refine zr_callV (rest := []) S zT_good (C_D_bring hn hD l (st34 3 0 0) st34 (r51, st51) hc51) zn_D_bring zx_79 ⟨rfl, rfl⟩ ⟨Nat.le_of_ble_eq_true rfl, Nat.le_of_ble_eq_true rfl⟩ ⟨Nat.zero_le _, Nat.zero_le _⟩ hK (zr_recv hK hP zk_0 rfl rfl) hP hl.1 (Nat.le_of_ble_eq_true rfl) hS (fun _ h => h) d_D_run_51 rfl (fun o H locs hpo _ _ hS => ?_)
                obtain ⟨rfl, hP⟩ := hpo
                refine W.eq (g2 := F0 m 54 ls [.int r51]) rfl ?_
                replace hF : F_D_run_L15_s3 n (F_D_run_L15 n f) v1 v2 r51 st51 = some out := hF
                replace hP : zV (dC, dI) zcl (zKs n) ad (zcE n cI cZ cR cA ad) st51 H := hP
                unfold F_D_run_L15_s3 at hF
                refine lv_pop S.1 S.2.1 d_D_run_54 rfl ?_
                refine lv_iinc (k := 2) (v := v2 + 1) S.1 S.2.1 d_D_run_55 hl rfl rfl (by decide) rfl (fun ls hl => ?_)
                have hl : lv_has ls 3 [(2, .int (v2 + 1)), (0, .ref (ad (0, 0))), (1, .int v1)] := hl
                refine lv_goto (tgt := 15) S.1 S.2.1 d_D_run_58 (by decide) ?_
                exact ih v1 (v2 + 1) st51 _ _ _ hP hS (lv_sub hl [1, 2, 0] rfl) hF

set_option maxHeartbeats 4000000 in
set_option maxRecDepth 100000 in
theorem C_D_run {dC : Nat → ClassId} {dI : Nat → Nat → Nat} {cI cZ cR cA : ClassId} {n : Nat} {ad : zK → Nat} {A : Nat → Prop} (hn : 2 ≤ n ∧ n ≤ 6) (hD : zD A (zKs n) ad) (l : Launch) (v1 : Int32) (st : zS) (out : Int32 × zS) (hF : F_D_run n v1 st = some out) : zC zT (dC, dI) zcl (zty cI cZ cR cA) A l y_D_run b_D_run 3 (some .int) rm_D_run [.ref (ad (0, 0)), .int v1] (fun H => zV (dC, dI) zcl (zKs n) ad (zcE n cI cZ cR cA ad) st H) (fun o H => o = some (.int out.1) ∧ zV (dC, dI) zcl (zKs n) ad (zcE n cI cZ cR cA ad) out.2 H) := by
  refine zC_of (by decide) (Nat.le_of_ble_eq_true rfl) (fun p e s m args below meth c ls S hret hlk hK hP hl => ?_)
  have hS : va_S A s.heap s.heap [] := va_S.rf
  have hl : lv_has ls 3 [(0, .ref (ad (0, 0))), (1, .int v1)] := hl
  have hP : zV (dC, dI) zcl (zKs n) ad (zcE n cI cZ cR cA ad) st s.heap := hP
  unfold F_D_run at hF
  refine lv_iload_n S.1 S.2.1 d_D_run_0 rfl (lv_at hl 1 rfl) ?_
  refine lv_if_lt (tgt := 11) S.1 S.2.1 d_D_run_1 (by decide) (fun h1 => ?_) (fun h1 => ?_)
  · rw [if_pos h1] at hF
    refine lv_iconst (v := (-1)) S.1 S.2.1 d_D_run_11 (by decide) ?_
    cases hF
    exact zr_iret S hret hlk hS d_D_run_12 ⟨rfl, hP⟩
  · rw [if_neg h1] at hF
    refine lv_iload_n S.1 S.2.1 d_D_run_4 rfl (lv_at hl 1 rfl) ?_
    refine lv_sipush (v := 200) S.1 S.2.1 d_D_run_5 (by decide) ?_
    refine lv_icmp_le (tgt := 13) S.1 S.2.1 d_D_run_8 (by decide) (fun h8 => ?_) (fun h8 => ?_)
    · rw [if_pos h8] at hF
      refine lv_iconst (v := 0) S.1 S.2.1 d_D_run_13 (by decide) ?_
      refine lv_istore_n S.1 S.2.1 d_D_run_14 rfl hl (by decide) rfl (fun ls hl => ?_)
      have hl : lv_has ls 3 [(2, .int 0), (0, .ref (ad (0, 0))), (1, .int v1)] := hl
      exact T_D_run_L15 hn hD S hret hlk hK out zFuel v1 0 st _ _ _ hP hS (lv_sub hl [1, 2, 0] rfl) hF
    · rw [if_neg h8] at hF
      refine lv_iconst (v := (-1)) S.1 S.2.1 d_D_run_11 (by decide) ?_
      cases hF
      exact zr_iret S hret hlk hS d_D_run_12 ⟨rfl, hP⟩

theorem d_D_cost_0 : decode b_D_cost 0 = .ok (.aload_n 0, 1) := by decide +kernel
theorem d_D_cost_1 : decode b_D_cost 1 = .ok (.iload_n 1, 1) := by decide +kernel
theorem d_D_cost_2 : decode b_D_cost 2 = .ok (.iload_n 2, 1) := by decide +kernel
theorem d_D_cost_3 : decode b_D_cost 3 = .ok (.invokevirtual 61, 3) := by decide +kernel
theorem d_D_cost_6 : decode b_D_cost 6 = .ok (.ifCond .eq 14, 3) := by decide +kernel
theorem d_D_cost_9 : decode b_D_cost 9 = .ok (.aload_n 0, 1) := by decide +kernel
theorem d_D_cost_10 : decode b_D_cost 10 = .ok (.getfield 24, 3) := by decide +kernel
theorem d_D_cost_13 : decode b_D_cost 13 = .ok (.iload_n 1, 1) := by decide +kernel
theorem d_D_cost_14 : decode b_D_cost 14 = .ok (.aaload, 1) := by decide +kernel
theorem d_D_cost_15 : decode b_D_cost 15 = .ok (.iload_n 2, 1) := by decide +kernel
theorem d_D_cost_16 : decode b_D_cost 16 = .ok (.iaload, 1) := by decide +kernel
theorem d_D_cost_17 : decode b_D_cost 17 = .ok (.goto 4, 3) := by decide +kernel
theorem d_D_cost_20 : decode b_D_cost 20 = .ok (.iconst (-1), 1) := by decide +kernel
theorem d_D_cost_21 : decode b_D_cost 21 = .ok (.ireturn, 1) := by decide +kernel
def F_D_cost_s1 (n : Nat) (v1 : Int32) (v2 : Int32) (t0 : Int32) (st : zS) : Option (Int32 × zS) :=
    if t0 = 0 then (some ((-1), st)) else (if zOut v1 n then none else if zOut v2 n then none else some (st 6 (Int32.toNatClampNeg v1) (Int32.toNatClampNeg v2), st))

def F_D_cost (n : Nat) (v1 : Int32) (v2 : Int32) (st : zS) : Option (Int32 × zS) :=
    (F_D_isLink n v1 v2 st).bind (fun u => F_D_cost_s1 n v1 v2 u.1 u.2)

set_option maxHeartbeats 4000000 in
set_option maxRecDepth 100000 in
theorem C_D_cost {dC : Nat → ClassId} {dI : Nat → Nat → Nat} {cI cZ cR cA : ClassId} {n : Nat} {ad : zK → Nat} {A : Nat → Prop} (hn : 2 ≤ n ∧ n ≤ 6) (hD : zD A (zKs n) ad) (l : Launch) (v1 : Int32) (v2 : Int32) (st : zS) (out : Int32 × zS) (hF : F_D_cost n v1 v2 st = some out) : zC zT (dC, dI) zcl (zty cI cZ cR cA) A l y_D_cost b_D_cost 3 (some .int) rm_D_cost [.ref (ad (0, 0)), .int v1, .int v2] (fun H => zV (dC, dI) zcl (zKs n) ad (zcE n cI cZ cR cA ad) st H) (fun o H => o = some (.int out.1) ∧ zV (dC, dI) zcl (zKs n) ad (zcE n cI cZ cR cA ad) out.2 H) := by
  refine zC_of (by decide) (Nat.le_of_ble_eq_true rfl) (fun p e s m args below meth c ls S hret hlk hK hP hl => ?_)
  have hS : va_S A s.heap s.heap [] := va_S.rf
  have hl : lv_has ls 3 [(0, .ref (ad (0, 0))), (1, .int v1), (2, .int v2)] := hl
  have hP : zV (dC, dI) zcl (zKs n) ad (zcE n cI cZ cR cA ad) st s.heap := hP
  unfold F_D_cost at hF
  refine lv_aload_n S.1 S.2.1 d_D_cost_0 rfl (lv_at hl 0 rfl) ?_
  refine lv_iload_n S.1 S.2.1 d_D_cost_1 rfl (lv_at hl 1 rfl) ?_
  refine lv_iload_n S.1 S.2.1 d_D_cost_2 rfl (lv_at hl 2 rfl) ?_
  cases hc3 : F_D_isLink n v1 v2 st with
  | none => rw [hc3] at hF; cases hF
  | some u3 =>
    obtain ⟨r3, st3⟩ := u3
    rw [hc3] at hF
    refine zr_callV (rest := []) S zT_good (C_D_isLink hn hD l v1 v2 st (r3, st3) hc3) zn_D_isLink zx_67 ⟨rfl, rfl⟩ ⟨Nat.le_of_ble_eq_true rfl, Nat.le_of_ble_eq_true rfl⟩ ⟨Nat.zero_le _, Nat.zero_le _⟩ hK (zr_recv hK hP zk_0 rfl rfl) hP hl.1 (Nat.le_of_ble_eq_true rfl) hS (fun _ h => h) d_D_cost_3 rfl (fun o H locs hpo _ _ hS => ?_)
    obtain ⟨rfl, hP⟩ := hpo
    refine W.eq (g2 := F0 m 6 ls [.int r3]) rfl ?_
    replace hF : F_D_cost_s1 n v1 v2 r3 st3 = some out := hF
    replace hP : zV (dC, dI) zcl (zKs n) ad (zcE n cI cZ cR cA ad) st3 H := hP
    unfold F_D_cost_s1 at hF
    refine lv_if_eq (tgt := 20) S.1 S.2.1 d_D_cost_6 (by decide) (fun h6 => ?_) (fun h6 => ?_)
    · rw [if_pos h6] at hF
      refine lv_iconst (v := (-1)) S.1 S.2.1 d_D_cost_20 (by decide) ?_
      cases hF
      exact zr_iret S hret hlk hS d_D_cost_21 ⟨rfl, hP⟩
    · rw [if_neg h6] at hF
      refine lv_aload_n S.1 S.2.1 d_D_cost_9 rfl (lv_at hl 0 rfl) ?_
      refine zr_get (v := .ref (ad (1, 0))) S zi_D hK hP zk_0 rfl rfl 1 (by decide) zx_53 rfl d_D_cost_10 ?_
      refine lv_iload_n S.1 S.2.1 d_D_cost_13 rfl (lv_at hl 1 rfl) ?_
      by_cases g14 : zOut v1 n
      · rw [if_pos g14] at hF; cases hF
      rw [if_neg g14] at hF
      refine zr_aald (b := ad (6, (Int32.toNatClampNeg v1))) S hK hP zk_1 rfl 3 rfl rfl g14 rfl d_D_cost_14 ?_
      refine lv_iload_n S.1 S.2.1 d_D_cost_15 rfl (lv_at hl 2 rfl) ?_
      by_cases g16 : zOut v2 n
      · rw [if_pos g16] at hF; cases hF
      rw [if_neg g16] at hF
      refine zr_iald S hK hP (zk_6 g14) rfl 0 rfl g16 d_D_cost_16 ?_
      refine lv_goto (tgt := 21) S.1 S.2.1 d_D_cost_17 (by decide) ?_
      cases hF
      exact zr_iret S hret hlk hS d_D_cost_21 ⟨rfl, hP⟩

theorem d_D_isRoute_0 : decode b_D_isRoute 0 = .ok (.aload_n 0, 1) := by decide +kernel
theorem d_D_isRoute_1 : decode b_D_isRoute 1 = .ok (.iload_n 1, 1) := by decide +kernel
theorem d_D_isRoute_2 : decode b_D_isRoute 2 = .ok (.invokevirtual 43, 3) := by decide +kernel
theorem d_D_isRoute_5 : decode b_D_isRoute 5 = .ok (.ifCond .eq 15, 3) := by decide +kernel
theorem d_D_isRoute_8 : decode b_D_isRoute 8 = .ok (.aload_n 0, 1) := by decide +kernel
theorem d_D_isRoute_9 : decode b_D_isRoute 9 = .ok (.iload_n 2, 1) := by decide +kernel
theorem d_D_isRoute_10 : decode b_D_isRoute 10 = .ok (.invokevirtual 43, 3) := by decide +kernel
theorem d_D_isRoute_13 : decode b_D_isRoute 13 = .ok (.ifCond .eq 7, 3) := by decide +kernel
theorem d_D_isRoute_16 : decode b_D_isRoute 16 = .ok (.iconst 1, 1) := by decide +kernel
theorem d_D_isRoute_17 : decode b_D_isRoute 17 = .ok (.goto 4, 3) := by decide +kernel
theorem d_D_isRoute_20 : decode b_D_isRoute 20 = .ok (.iconst 0, 1) := by decide +kernel
theorem d_D_isRoute_21 : decode b_D_isRoute 21 = .ok (.ireturn, 1) := by decide +kernel
def F_D_isRoute_s2 (n : Nat) (t0 : Int32) (st : zS) : Option (Int32 × zS) :=
    if t0 = 0 then (some (0, st)) else (some (1, st))

def F_D_isRoute_s1 (n : Nat) (v2 : Int32) (t0 : Int32) (st : zS) : Option (Int32 × zS) :=
    if t0 = 0 then (some (0, st)) else ((F_D_isRouter n v2 st).bind (fun u => F_D_isRoute_s2 n u.1 u.2))

def F_D_isRoute (n : Nat) (v1 : Int32) (v2 : Int32) (st : zS) : Option (Int32 × zS) :=
    (F_D_isRouter n v1 st).bind (fun u => F_D_isRoute_s1 n v2 u.1 u.2)

set_option maxHeartbeats 4000000 in
set_option maxRecDepth 100000 in
theorem C_D_isRoute {dC : Nat → ClassId} {dI : Nat → Nat → Nat} {cI cZ cR cA : ClassId} {n : Nat} {ad : zK → Nat} {A : Nat → Prop} (hn : 2 ≤ n ∧ n ≤ 6) (hD : zD A (zKs n) ad) (l : Launch) (v1 : Int32) (v2 : Int32) (st : zS) (out : Int32 × zS) (hF : F_D_isRoute n v1 v2 st = some out) : zC zT (dC, dI) zcl (zty cI cZ cR cA) A l y_D_isRoute b_D_isRoute 3 (some .boolean) rm_D_isRoute [.ref (ad (0, 0)), .int v1, .int v2] (fun H => zV (dC, dI) zcl (zKs n) ad (zcE n cI cZ cR cA ad) st H) (fun o H => o = some (.int out.1) ∧ zV (dC, dI) zcl (zKs n) ad (zcE n cI cZ cR cA ad) out.2 H) := by
  refine zC_of (by decide) (Nat.le_of_ble_eq_true rfl) (fun p e s m args below meth c ls S hret hlk hK hP hl => ?_)
  have hS : va_S A s.heap s.heap [] := va_S.rf
  have hl : lv_has ls 3 [(0, .ref (ad (0, 0))), (1, .int v1), (2, .int v2)] := hl
  have hP : zV (dC, dI) zcl (zKs n) ad (zcE n cI cZ cR cA ad) st s.heap := hP
  unfold F_D_isRoute at hF
  refine lv_aload_n S.1 S.2.1 d_D_isRoute_0 rfl (lv_at hl 0 rfl) ?_
  refine lv_iload_n S.1 S.2.1 d_D_isRoute_1 rfl (lv_at hl 1 rfl) ?_
  cases hc2 : F_D_isRouter n v1 st with
  | none => rw [hc2] at hF; cases hF
  | some u2 =>
    obtain ⟨r2, st2⟩ := u2
    rw [hc2] at hF
    refine zr_callV (rest := []) S zT_good (C_D_isRouter hn hD l v1 st (r2, st2) hc2) zn_D_isRouter zx_61 ⟨rfl, rfl⟩ ⟨Nat.le_of_ble_eq_true rfl, Nat.le_of_ble_eq_true rfl⟩ ⟨Nat.zero_le _, Nat.zero_le _⟩ hK (zr_recv hK hP zk_0 rfl rfl) hP hl.1 (Nat.le_of_ble_eq_true rfl) hS (fun _ h => h) d_D_isRoute_2 rfl (fun o H locs hpo _ _ hS => ?_)
    obtain ⟨rfl, hP⟩ := hpo
    refine W.eq (g2 := F0 m 5 ls [.int r2]) rfl ?_
    replace hF : F_D_isRoute_s1 n v2 r2 st2 = some out := hF
    replace hP : zV (dC, dI) zcl (zKs n) ad (zcE n cI cZ cR cA ad) st2 H := hP
    unfold F_D_isRoute_s1 at hF
    refine lv_if_eq (tgt := 20) S.1 S.2.1 d_D_isRoute_5 (by decide) (fun h5 => ?_) (fun h5 => ?_)
    · rw [if_pos h5] at hF
      refine lv_iconst (v := 0) S.1 S.2.1 d_D_isRoute_20 (by decide) ?_
      cases hF
      exact zr_zret S hret hlk (by decide) hS d_D_isRoute_21 ⟨rfl, hP⟩
    · rw [if_neg h5] at hF
      refine lv_aload_n S.1 S.2.1 d_D_isRoute_8 rfl (lv_at hl 0 rfl) ?_
      refine lv_iload_n S.1 S.2.1 d_D_isRoute_9 rfl (lv_at hl 2 rfl) ?_
      cases hc10 : F_D_isRouter n v2 st2 with
      | none => rw [hc10] at hF; cases hF
      | some u10 =>
        obtain ⟨r10, st10⟩ := u10
        rw [hc10] at hF
        refine zr_callV (rest := []) S zT_good (C_D_isRouter hn hD l v2 st2 (r10, st10) hc10) zn_D_isRouter zx_61 ⟨rfl, rfl⟩ ⟨Nat.le_of_ble_eq_true rfl, Nat.le_of_ble_eq_true rfl⟩ ⟨Nat.zero_le _, Nat.zero_le _⟩ hK (zr_recv hK hP zk_0 rfl rfl) hP hl.1 (Nat.le_of_ble_eq_true rfl) hS (fun _ h => h) d_D_isRoute_10 rfl (fun o H locs hpo _ _ hS => ?_)
        obtain ⟨rfl, hP⟩ := hpo
        refine W.eq (g2 := F0 m 13 ls [.int r10]) rfl ?_
        replace hF : F_D_isRoute_s2 n r10 st10 = some out := hF
        replace hP : zV (dC, dI) zcl (zKs n) ad (zcE n cI cZ cR cA ad) st10 H := hP
        unfold F_D_isRoute_s2 at hF
        refine lv_if_eq (tgt := 20) S.1 S.2.1 d_D_isRoute_13 (by decide) (fun h13 => ?_) (fun h13 => ?_)
        · rw [if_pos h13] at hF
          refine lv_iconst (v := 0) S.1 S.2.1 d_D_isRoute_20 (by decide) ?_
          cases hF
          exact zr_zret S hret hlk (by decide) hS d_D_isRoute_21 ⟨rfl, hP⟩
        · rw [if_neg h13] at hF
          refine lv_iconst (v := 1) S.1 S.2.1 d_D_isRoute_16 (by decide) ?_
          refine lv_goto (tgt := 21) S.1 S.2.1 d_D_isRoute_17 (by decide) ?_
          cases hF
          exact zr_zret S hret hlk (by decide) hS d_D_isRoute_21 ⟨rfl, hP⟩

theorem d_D_distance_0 : decode b_D_distance 0 = .ok (.aload_n 0, 1) := by decide +kernel
theorem d_D_distance_1 : decode b_D_distance 1 = .ok (.iload_n 1, 1) := by decide +kernel
theorem d_D_distance_2 : decode b_D_distance 2 = .ok (.iload_n 2, 1) := by decide +kernel
theorem d_D_distance_3 : decode b_D_distance 3 = .ok (.invokevirtual 82, 3) := by decide +kernel
theorem d_D_distance_6 : decode b_D_distance 6 = .ok (.ifCond .eq 15, 3) := by decide +kernel
theorem d_D_distance_9 : decode b_D_distance 9 = .ok (.aload_n 0, 1) := by decide +kernel
theorem d_D_distance_10 : decode b_D_distance 10 = .ok (.iload_n 1, 1) := by decide +kernel
theorem d_D_distance_11 : decode b_D_distance 11 = .ok (.iload_n 2, 1) := by decide +kernel
theorem d_D_distance_12 : decode b_D_distance 12 = .ok (.invokevirtual 85, 3) := by decide +kernel
theorem d_D_distance_15 : decode b_D_distance 15 = .ok (.getfield 89, 3) := by decide +kernel
theorem d_D_distance_18 : decode b_D_distance 18 = .ok (.goto 4, 3) := by decide +kernel
theorem d_D_distance_21 : decode b_D_distance 21 = .ok (.iconst (-1), 1) := by decide +kernel
theorem d_D_distance_22 : decode b_D_distance 22 = .ok (.ireturn, 1) := by decide +kernel
def F_D_distance_s2 (n : Nat) (u0 : Nat) (st : zS) : Option (Int32 × zS) :=
    some (st 7 u0 0, st)

def F_D_distance_s1 (n : Nat) (v1 : Int32) (v2 : Int32) (t0 : Int32) (st : zS) : Option (Int32 × zS) :=
    if t0 = 0 then (some ((-1), st)) else ((F_D_route n v1 v2 st).bind (fun u => F_D_distance_s2 n u.1 u.2))

def F_D_distance (n : Nat) (v1 : Int32) (v2 : Int32) (st : zS) : Option (Int32 × zS) :=
    (F_D_isRoute n v1 v2 st).bind (fun u => F_D_distance_s1 n v1 v2 u.1 u.2)

set_option maxHeartbeats 4000000 in
set_option maxRecDepth 100000 in
theorem C_D_distance {dC : Nat → ClassId} {dI : Nat → Nat → Nat} {cI cZ cR cA : ClassId} {n : Nat} {ad : zK → Nat} {A : Nat → Prop} (hn : 2 ≤ n ∧ n ≤ 6) (hD : zD A (zKs n) ad) (l : Launch) (v1 : Int32) (v2 : Int32) (st : zS) (out : Int32 × zS) (hF : F_D_distance n v1 v2 st = some out) : zC zT (dC, dI) zcl (zty cI cZ cR cA) A l y_D_distance b_D_distance 3 (some .int) rm_D_distance [.ref (ad (0, 0)), .int v1, .int v2] (fun H => zV (dC, dI) zcl (zKs n) ad (zcE n cI cZ cR cA ad) st H) (fun o H => o = some (.int out.1) ∧ zV (dC, dI) zcl (zKs n) ad (zcE n cI cZ cR cA ad) out.2 H) := by
  refine zC_of (by decide) (Nat.le_of_ble_eq_true rfl) (fun p e s m args below meth c ls S hret hlk hK hP hl => ?_)
  have hS : va_S A s.heap s.heap [] := va_S.rf
  have hl : lv_has ls 3 [(0, .ref (ad (0, 0))), (1, .int v1), (2, .int v2)] := hl
  have hP : zV (dC, dI) zcl (zKs n) ad (zcE n cI cZ cR cA ad) st s.heap := hP
  unfold F_D_distance at hF
  refine lv_aload_n S.1 S.2.1 d_D_distance_0 rfl (lv_at hl 0 rfl) ?_
  refine lv_iload_n S.1 S.2.1 d_D_distance_1 rfl (lv_at hl 1 rfl) ?_
  refine lv_iload_n S.1 S.2.1 d_D_distance_2 rfl (lv_at hl 2 rfl) ?_
  cases hc3 : F_D_isRoute n v1 v2 st with
  | none => rw [hc3] at hF; cases hF
  | some u3 =>
    obtain ⟨r3, st3⟩ := u3
    rw [hc3] at hF
    refine zr_callV (rest := []) S zT_good (C_D_isRoute hn hD l v1 v2 st (r3, st3) hc3) zn_D_isRoute zx_81 ⟨rfl, rfl⟩ ⟨Nat.le_of_ble_eq_true rfl, Nat.le_of_ble_eq_true rfl⟩ ⟨Nat.zero_le _, Nat.zero_le _⟩ hK (zr_recv hK hP zk_0 rfl rfl) hP hl.1 (Nat.le_of_ble_eq_true rfl) hS (fun _ h => h) d_D_distance_3 rfl (fun o H locs hpo _ _ hS => ?_)
    obtain ⟨rfl, hP⟩ := hpo
    refine W.eq (g2 := F0 m 6 ls [.int r3]) rfl ?_
    replace hF : F_D_distance_s1 n v1 v2 r3 st3 = some out := hF
    replace hP : zV (dC, dI) zcl (zKs n) ad (zcE n cI cZ cR cA ad) st3 H := hP
    unfold F_D_distance_s1 at hF
    refine lv_if_eq (tgt := 21) S.1 S.2.1 d_D_distance_6 (by decide) (fun h6 => ?_) (fun h6 => ?_)
    · rw [if_pos h6] at hF
      refine lv_iconst (v := (-1)) S.1 S.2.1 d_D_distance_21 (by decide) ?_
      cases hF
      exact zr_iret S hret hlk hS d_D_distance_22 ⟨rfl, hP⟩
    · rw [if_neg h6] at hF
      refine lv_aload_n S.1 S.2.1 d_D_distance_9 rfl (lv_at hl 0 rfl) ?_
      refine lv_iload_n S.1 S.2.1 d_D_distance_10 rfl (lv_at hl 1 rfl) ?_
      refine lv_iload_n S.1 S.2.1 d_D_distance_11 rfl (lv_at hl 2 rfl) ?_
      cases hc12 : F_D_route n v1 v2 st3 with
      | none => rw [hc12] at hF; cases hF
      | some u12 =>
        obtain ⟨r12, st12⟩ := u12
        rw [hc12] at hF
        refine zr_callV (rest := []) S zT_good (C_D_route hn hD l v1 v2 st3 (r12, st12) hc12) zn_D_route zx_14 ⟨rfl, rfl⟩ ⟨Nat.le_of_ble_eq_true rfl, Nat.le_of_ble_eq_true rfl⟩ ⟨Nat.zero_le _, Nat.zero_le _⟩ hK (zr_recv hK hP zk_0 rfl rfl) hP hl.1 (Nat.le_of_ble_eq_true rfl) hS (fun _ h => h) d_D_distance_12 rfl (fun o H locs hpo _ _ hS => ?_)
        obtain ⟨rfl, hP⟩ := hpo
        refine W.eq (g2 := F0 m 15 ls [.ref (ad (7, r12))]) rfl ?_
        have hk_r12 := zk_D_route hn hc12
        replace hF : F_D_distance_s2 n r12 st12 = some out := hF
        replace hP : zV (dC, dI) zcl (zKs n) ad (zcE n cI cZ cR cA ad) st12 H := hP
        unfold F_D_distance_s2 at hF
        refine zr_get (v := .int (st12 7 r12 0)) S zi_R hK hP hk_r12 rfl rfl 5 (by decide) zx_15 rfl d_D_distance_15 ?_
        refine lv_goto (tgt := 22) S.1 S.2.1 d_D_distance_18 (by decide) ?_
        cases hF
        exact zr_iret S hret hlk hS d_D_distance_22 ⟨rfl, hP⟩

theorem d_D_limit_0 : decode b_D_limit 0 = .ok (.aload_n 0, 1) := by decide +kernel
theorem d_D_limit_1 : decode b_D_limit 1 = .ok (.iload_n 1, 1) := by decide +kernel
theorem d_D_limit_2 : decode b_D_limit 2 = .ok (.iload_n 2, 1) := by decide +kernel
theorem d_D_limit_3 : decode b_D_limit 3 = .ok (.invokevirtual 82, 3) := by decide +kernel
theorem d_D_limit_6 : decode b_D_limit 6 = .ok (.ifCond .eq 15, 3) := by decide +kernel
theorem d_D_limit_9 : decode b_D_limit 9 = .ok (.aload_n 0, 1) := by decide +kernel
theorem d_D_limit_10 : decode b_D_limit 10 = .ok (.iload_n 1, 1) := by decide +kernel
theorem d_D_limit_11 : decode b_D_limit 11 = .ok (.iload_n 2, 1) := by decide +kernel
theorem d_D_limit_12 : decode b_D_limit 12 = .ok (.invokevirtual 85, 3) := by decide +kernel
theorem d_D_limit_15 : decode b_D_limit 15 = .ok (.getfield 92, 3) := by decide +kernel
theorem d_D_limit_18 : decode b_D_limit 18 = .ok (.goto 4, 3) := by decide +kernel
theorem d_D_limit_21 : decode b_D_limit 21 = .ok (.iconst (-1), 1) := by decide +kernel
theorem d_D_limit_22 : decode b_D_limit 22 = .ok (.ireturn, 1) := by decide +kernel
def F_D_limit_s2 (n : Nat) (u0 : Nat) (st : zS) : Option (Int32 × zS) :=
    some (st 7 u0 1, st)

def F_D_limit_s1 (n : Nat) (v1 : Int32) (v2 : Int32) (t0 : Int32) (st : zS) : Option (Int32 × zS) :=
    if t0 = 0 then (some ((-1), st)) else ((F_D_route n v1 v2 st).bind (fun u => F_D_limit_s2 n u.1 u.2))

def F_D_limit (n : Nat) (v1 : Int32) (v2 : Int32) (st : zS) : Option (Int32 × zS) :=
    (F_D_isRoute n v1 v2 st).bind (fun u => F_D_limit_s1 n v1 v2 u.1 u.2)

set_option maxHeartbeats 4000000 in
set_option maxRecDepth 100000 in
theorem C_D_limit {dC : Nat → ClassId} {dI : Nat → Nat → Nat} {cI cZ cR cA : ClassId} {n : Nat} {ad : zK → Nat} {A : Nat → Prop} (hn : 2 ≤ n ∧ n ≤ 6) (hD : zD A (zKs n) ad) (l : Launch) (v1 : Int32) (v2 : Int32) (st : zS) (out : Int32 × zS) (hF : F_D_limit n v1 v2 st = some out) : zC zT (dC, dI) zcl (zty cI cZ cR cA) A l y_D_limit b_D_limit 3 (some .int) rm_D_limit [.ref (ad (0, 0)), .int v1, .int v2] (fun H => zV (dC, dI) zcl (zKs n) ad (zcE n cI cZ cR cA ad) st H) (fun o H => o = some (.int out.1) ∧ zV (dC, dI) zcl (zKs n) ad (zcE n cI cZ cR cA ad) out.2 H) := by
  refine zC_of (by decide) (Nat.le_of_ble_eq_true rfl) (fun p e s m args below meth c ls S hret hlk hK hP hl => ?_)
  have hS : va_S A s.heap s.heap [] := va_S.rf
  have hl : lv_has ls 3 [(0, .ref (ad (0, 0))), (1, .int v1), (2, .int v2)] := hl
  have hP : zV (dC, dI) zcl (zKs n) ad (zcE n cI cZ cR cA ad) st s.heap := hP
  unfold F_D_limit at hF
  refine lv_aload_n S.1 S.2.1 d_D_limit_0 rfl (lv_at hl 0 rfl) ?_
  refine lv_iload_n S.1 S.2.1 d_D_limit_1 rfl (lv_at hl 1 rfl) ?_
  refine lv_iload_n S.1 S.2.1 d_D_limit_2 rfl (lv_at hl 2 rfl) ?_
  cases hc3 : F_D_isRoute n v1 v2 st with
  | none => rw [hc3] at hF; cases hF
  | some u3 =>
    obtain ⟨r3, st3⟩ := u3
    rw [hc3] at hF
    refine zr_callV (rest := []) S zT_good (C_D_isRoute hn hD l v1 v2 st (r3, st3) hc3) zn_D_isRoute zx_81 ⟨rfl, rfl⟩ ⟨Nat.le_of_ble_eq_true rfl, Nat.le_of_ble_eq_true rfl⟩ ⟨Nat.zero_le _, Nat.zero_le _⟩ hK (zr_recv hK hP zk_0 rfl rfl) hP hl.1 (Nat.le_of_ble_eq_true rfl) hS (fun _ h => h) d_D_limit_3 rfl (fun o H locs hpo _ _ hS => ?_)
    obtain ⟨rfl, hP⟩ := hpo
    refine W.eq (g2 := F0 m 6 ls [.int r3]) rfl ?_
    replace hF : F_D_limit_s1 n v1 v2 r3 st3 = some out := hF
    replace hP : zV (dC, dI) zcl (zKs n) ad (zcE n cI cZ cR cA ad) st3 H := hP
    unfold F_D_limit_s1 at hF
    refine lv_if_eq (tgt := 21) S.1 S.2.1 d_D_limit_6 (by decide) (fun h6 => ?_) (fun h6 => ?_)
    · rw [if_pos h6] at hF
      refine lv_iconst (v := (-1)) S.1 S.2.1 d_D_limit_21 (by decide) ?_
      cases hF
      exact zr_iret S hret hlk hS d_D_limit_22 ⟨rfl, hP⟩
    · rw [if_neg h6] at hF
      refine lv_aload_n S.1 S.2.1 d_D_limit_9 rfl (lv_at hl 0 rfl) ?_
      refine lv_iload_n S.1 S.2.1 d_D_limit_10 rfl (lv_at hl 1 rfl) ?_
      refine lv_iload_n S.1 S.2.1 d_D_limit_11 rfl (lv_at hl 2 rfl) ?_
      cases hc12 : F_D_route n v1 v2 st3 with
      | none => rw [hc12] at hF; cases hF
      | some u12 =>
        obtain ⟨r12, st12⟩ := u12
        rw [hc12] at hF
        refine zr_callV (rest := []) S zT_good (C_D_route hn hD l v1 v2 st3 (r12, st12) hc12) zn_D_route zx_14 ⟨rfl, rfl⟩ ⟨Nat.le_of_ble_eq_true rfl, Nat.le_of_ble_eq_true rfl⟩ ⟨Nat.zero_le _, Nat.zero_le _⟩ hK (zr_recv hK hP zk_0 rfl rfl) hP hl.1 (Nat.le_of_ble_eq_true rfl) hS (fun _ h => h) d_D_limit_12 rfl (fun o H locs hpo _ _ hS => ?_)
        obtain ⟨rfl, hP⟩ := hpo
        refine W.eq (g2 := F0 m 15 ls [.ref (ad (7, r12))]) rfl ?_
        have hk_r12 := zk_D_route hn hc12
        replace hF : F_D_limit_s2 n r12 st12 = some out := hF
        replace hP : zV (dC, dI) zcl (zKs n) ad (zcE n cI cZ cR cA ad) st12 H := hP
        unfold F_D_limit_s2 at hF
        refine zr_get (v := .int (st12 7 r12 1)) S zi_R hK hP hk_r12 rfl rfl 6 (by decide) zx_47 rfl d_D_limit_15 ?_
        refine lv_goto (tgt := 22) S.1 S.2.1 d_D_limit_18 (by decide) ?_
        cases hF
        exact zr_iret S hret hlk hS d_D_limit_22 ⟨rfl, hP⟩

theorem d_D_next_0 : decode b_D_next 0 = .ok (.aload_n 0, 1) := by decide +kernel
theorem d_D_next_1 : decode b_D_next 1 = .ok (.iload_n 1, 1) := by decide +kernel
theorem d_D_next_2 : decode b_D_next 2 = .ok (.iload_n 2, 1) := by decide +kernel
theorem d_D_next_3 : decode b_D_next 3 = .ok (.invokevirtual 82, 3) := by decide +kernel
theorem d_D_next_6 : decode b_D_next 6 = .ok (.ifCond .eq 15, 3) := by decide +kernel
theorem d_D_next_9 : decode b_D_next 9 = .ok (.aload_n 0, 1) := by decide +kernel
theorem d_D_next_10 : decode b_D_next 10 = .ok (.iload_n 1, 1) := by decide +kernel
theorem d_D_next_11 : decode b_D_next 11 = .ok (.iload_n 2, 1) := by decide +kernel
theorem d_D_next_12 : decode b_D_next 12 = .ok (.invokevirtual 85, 3) := by decide +kernel
theorem d_D_next_15 : decode b_D_next 15 = .ok (.getfield 95, 3) := by decide +kernel
theorem d_D_next_18 : decode b_D_next 18 = .ok (.goto 4, 3) := by decide +kernel
theorem d_D_next_21 : decode b_D_next 21 = .ok (.iconst (-1), 1) := by decide +kernel
theorem d_D_next_22 : decode b_D_next 22 = .ok (.ireturn, 1) := by decide +kernel
def F_D_next_s2 (n : Nat) (u0 : Nat) (st : zS) : Option (Int32 × zS) :=
    some (st 7 u0 2, st)

def F_D_next_s1 (n : Nat) (v1 : Int32) (v2 : Int32) (t0 : Int32) (st : zS) : Option (Int32 × zS) :=
    if t0 = 0 then (some ((-1), st)) else ((F_D_route n v1 v2 st).bind (fun u => F_D_next_s2 n u.1 u.2))

def F_D_next (n : Nat) (v1 : Int32) (v2 : Int32) (st : zS) : Option (Int32 × zS) :=
    (F_D_isRoute n v1 v2 st).bind (fun u => F_D_next_s1 n v1 v2 u.1 u.2)

set_option maxHeartbeats 4000000 in
set_option maxRecDepth 100000 in
theorem C_D_next {dC : Nat → ClassId} {dI : Nat → Nat → Nat} {cI cZ cR cA : ClassId} {n : Nat} {ad : zK → Nat} {A : Nat → Prop} (hn : 2 ≤ n ∧ n ≤ 6) (hD : zD A (zKs n) ad) (l : Launch) (v1 : Int32) (v2 : Int32) (st : zS) (out : Int32 × zS) (hF : F_D_next n v1 v2 st = some out) : zC zT (dC, dI) zcl (zty cI cZ cR cA) A l y_D_next b_D_next 3 (some .int) rm_D_next [.ref (ad (0, 0)), .int v1, .int v2] (fun H => zV (dC, dI) zcl (zKs n) ad (zcE n cI cZ cR cA ad) st H) (fun o H => o = some (.int out.1) ∧ zV (dC, dI) zcl (zKs n) ad (zcE n cI cZ cR cA ad) out.2 H) := by
  refine zC_of (by decide) (Nat.le_of_ble_eq_true rfl) (fun p e s m args below meth c ls S hret hlk hK hP hl => ?_)
  have hS : va_S A s.heap s.heap [] := va_S.rf
  have hl : lv_has ls 3 [(0, .ref (ad (0, 0))), (1, .int v1), (2, .int v2)] := hl
  have hP : zV (dC, dI) zcl (zKs n) ad (zcE n cI cZ cR cA ad) st s.heap := hP
  unfold F_D_next at hF
  refine lv_aload_n S.1 S.2.1 d_D_next_0 rfl (lv_at hl 0 rfl) ?_
  refine lv_iload_n S.1 S.2.1 d_D_next_1 rfl (lv_at hl 1 rfl) ?_
  refine lv_iload_n S.1 S.2.1 d_D_next_2 rfl (lv_at hl 2 rfl) ?_
  cases hc3 : F_D_isRoute n v1 v2 st with
  | none => rw [hc3] at hF; cases hF
  | some u3 =>
    obtain ⟨r3, st3⟩ := u3
    rw [hc3] at hF
    refine zr_callV (rest := []) S zT_good (C_D_isRoute hn hD l v1 v2 st (r3, st3) hc3) zn_D_isRoute zx_81 ⟨rfl, rfl⟩ ⟨Nat.le_of_ble_eq_true rfl, Nat.le_of_ble_eq_true rfl⟩ ⟨Nat.zero_le _, Nat.zero_le _⟩ hK (zr_recv hK hP zk_0 rfl rfl) hP hl.1 (Nat.le_of_ble_eq_true rfl) hS (fun _ h => h) d_D_next_3 rfl (fun o H locs hpo _ _ hS => ?_)
    obtain ⟨rfl, hP⟩ := hpo
    refine W.eq (g2 := F0 m 6 ls [.int r3]) rfl ?_
    replace hF : F_D_next_s1 n v1 v2 r3 st3 = some out := hF
    replace hP : zV (dC, dI) zcl (zKs n) ad (zcE n cI cZ cR cA ad) st3 H := hP
    unfold F_D_next_s1 at hF
    refine lv_if_eq (tgt := 21) S.1 S.2.1 d_D_next_6 (by decide) (fun h6 => ?_) (fun h6 => ?_)
    · rw [if_pos h6] at hF
      refine lv_iconst (v := (-1)) S.1 S.2.1 d_D_next_21 (by decide) ?_
      cases hF
      exact zr_iret S hret hlk hS d_D_next_22 ⟨rfl, hP⟩
    · rw [if_neg h6] at hF
      refine lv_aload_n S.1 S.2.1 d_D_next_9 rfl (lv_at hl 0 rfl) ?_
      refine lv_iload_n S.1 S.2.1 d_D_next_10 rfl (lv_at hl 1 rfl) ?_
      refine lv_iload_n S.1 S.2.1 d_D_next_11 rfl (lv_at hl 2 rfl) ?_
      cases hc12 : F_D_route n v1 v2 st3 with
      | none => rw [hc12] at hF; cases hF
      | some u12 =>
        obtain ⟨r12, st12⟩ := u12
        rw [hc12] at hF
        refine zr_callV (rest := []) S zT_good (C_D_route hn hD l v1 v2 st3 (r12, st12) hc12) zn_D_route zx_14 ⟨rfl, rfl⟩ ⟨Nat.le_of_ble_eq_true rfl, Nat.le_of_ble_eq_true rfl⟩ ⟨Nat.zero_le _, Nat.zero_le _⟩ hK (zr_recv hK hP zk_0 rfl rfl) hP hl.1 (Nat.le_of_ble_eq_true rfl) hS (fun _ h => h) d_D_next_12 rfl (fun o H locs hpo _ _ hS => ?_)
        obtain ⟨rfl, hP⟩ := hpo
        refine W.eq (g2 := F0 m 15 ls [.ref (ad (7, r12))]) rfl ?_
        have hk_r12 := zk_D_route hn hc12
        replace hF : F_D_next_s2 n r12 st12 = some out := hF
        replace hP : zV (dC, dI) zcl (zKs n) ad (zcE n cI cZ cR cA ad) st12 H := hP
        unfold F_D_next_s2 at hF
        refine zr_get (v := .int (st12 7 r12 2)) S zi_R hK hP hk_r12 rfl rfl 7 (by decide) zx_41 rfl d_D_next_15 ?_
        refine lv_goto (tgt := 22) S.1 S.2.1 d_D_next_18 (by decide) ?_
        cases hF
        exact zr_iret S hret hlk hS d_D_next_22 ⟨rfl, hP⟩

theorem d_D_state_0 : decode b_D_state 0 = .ok (.aload_n 0, 1) := by decide +kernel
theorem d_D_state_1 : decode b_D_state 1 = .ok (.iload_n 1, 1) := by decide +kernel
theorem d_D_state_2 : decode b_D_state 2 = .ok (.iload_n 2, 1) := by decide +kernel
theorem d_D_state_3 : decode b_D_state 3 = .ok (.invokevirtual 82, 3) := by decide +kernel
theorem d_D_state_6 : decode b_D_state 6 = .ok (.ifCond .ne 5, 3) := by decide +kernel
theorem d_D_state_9 : decode b_D_state 9 = .ok (.iconst (-1), 1) := by decide +kernel
theorem d_D_state_10 : decode b_D_state 10 = .ok (.ireturn, 1) := by decide +kernel
theorem d_D_state_11 : decode b_D_state 11 = .ok (.aload_n 0, 1) := by decide +kernel
theorem d_D_state_12 : decode b_D_state 12 = .ok (.iload_n 1, 1) := by decide +kernel
theorem d_D_state_13 : decode b_D_state 13 = .ok (.iload_n 2, 1) := by decide +kernel
theorem d_D_state_14 : decode b_D_state 14 = .ok (.invokevirtual 85, 3) := by decide +kernel
theorem d_D_state_17 : decode b_D_state 17 = .ok (.astore_n 3, 1) := by decide +kernel
theorem d_D_state_18 : decode b_D_state 18 = .ok (.aload_n 3, 1) := by decide +kernel
theorem d_D_state_19 : decode b_D_state 19 = .ok (.getfield 98, 3) := by decide +kernel
theorem d_D_state_22 : decode b_D_state 22 = .ok (.ifCond .ne 5, 3) := by decide +kernel
theorem d_D_state_25 : decode b_D_state 25 = .ok (.iconst 0, 1) := by decide +kernel
theorem d_D_state_26 : decode b_D_state 26 = .ok (.ireturn, 1) := by decide +kernel
theorem d_D_state_27 : decode b_D_state 27 = .ok (.iconst 1, 1) := by decide +kernel
theorem d_D_state_28 : decode b_D_state 28 = .ok (.aload_n 3, 1) := by decide +kernel
theorem d_D_state_29 : decode b_D_state 29 = .ok (.getfield 102, 3) := by decide +kernel
theorem d_D_state_32 : decode b_D_state 32 = .ok (.ifCond .eq 7, 3) := by decide +kernel
theorem d_D_state_35 : decode b_D_state 35 = .ok (.iconst 1, 1) := by decide +kernel
theorem d_D_state_36 : decode b_D_state 36 = .ok (.goto 4, 3) := by decide +kernel
theorem d_D_state_39 : decode b_D_state 39 = .ok (.iconst 0, 1) := by decide +kernel
theorem d_D_state_40 : decode b_D_state 40 = .ok (.iadd, 1) := by decide +kernel
theorem d_D_state_41 : decode b_D_state 41 = .ok (.aload_n 3, 1) := by decide +kernel
theorem d_D_state_42 : decode b_D_state 42 = .ok (.getfield 105, 3) := by decide +kernel
theorem d_D_state_45 : decode b_D_state 45 = .ok (.ifCond .eq 7, 3) := by decide +kernel
theorem d_D_state_48 : decode b_D_state 48 = .ok (.iconst 2, 1) := by decide +kernel
theorem d_D_state_49 : decode b_D_state 49 = .ok (.goto 4, 3) := by decide +kernel
theorem d_D_state_52 : decode b_D_state 52 = .ok (.iconst 0, 1) := by decide +kernel
theorem d_D_state_53 : decode b_D_state 53 = .ok (.iadd, 1) := by decide +kernel
theorem d_D_state_54 : decode b_D_state 54 = .ok (.ireturn, 1) := by decide +kernel
def F_D_state_L40 (n : Nat) (k3 : Nat) (t0 : Int32) (t1 : Int32) (st : zS) : Option (Int32 × zS) :=
    if (st 7 k3 4) = 0 then (some ((t0 + t1) + 0, st)) else (some ((t0 + t1) + 2, st))

def F_D_state_s2 (n : Nat) (u0 : Nat) (st : zS) : Option (Int32 × zS) :=
    if (st 7 u0 3) = 0 then (some (0, st)) else (if (st 7 u0 5) = 0 then (F_D_state_L40 n u0 1 0 st) else (F_D_state_L40 n u0 1 1 st))

def F_D_state_s1 (n : Nat) (v1 : Int32) (v2 : Int32) (t0 : Int32) (st : zS) : Option (Int32 × zS) :=
    if t0 = 0 then (some ((-1), st)) else ((F_D_route n v1 v2 st).bind (fun u => F_D_state_s2 n u.1 u.2))

def F_D_state (n : Nat) (v1 : Int32) (v2 : Int32) (st : zS) : Option (Int32 × zS) :=
    (F_D_isRoute n v1 v2 st).bind (fun u => F_D_state_s1 n v1 v2 u.1 u.2)

set_option maxHeartbeats 4000000 in
set_option maxRecDepth 100000 in
theorem T_D_state_L40 {dC : Nat → ClassId} {dI : Nat → Nat → Nat} {cI cZ cR cA : ClassId} {n : Nat} {ad : zK → Nat} {A : Nat → Prop} (hn : 2 ≤ n ∧ n ≤ 6) (hD : zD A (zKs n) ad) {p : Program} {l : Launch} {e : Env} {s : State} {m : MethodId} {args : Array Value} {below : List Frame} {meth : Method} {c : Code} (S : CallFix p m c b_D_state 4 s args zT N_D) (hret : meth.sig.returnType = some .int) (hlk : meth.locks = false) (hK : va_K (dC, dI) zcl (zty cI cZ cR cA) s) (out : Int32 × zS) (k3 : Nat) (t0 : Int32) (t1 : Int32) (hk3 : (7, k3) ∈ zKs n) (st : zS) (H : Heap) (locs : List Loc) (ls : Array Slot) (hP : zV (dC, dI) zcl (zKs n) ad (zcE n cI cZ cR cA ad) st H) (hS : va_S A s.heap H locs) (hl : lv_has ls 4 [(3, .ref (ad (7, k3)))]) (hF : F_D_state_L40 n k3 t0 t1 st = some out) : W p l e rm_D_state s m args below meth c H locs 0 0 (zQ below A (fun o H => o = some (.int out.1) ∧ zV (dC, dI) zcl (zKs n) ad (zcE n cI cZ cR cA ad) out.2 H) args s) (F0 m 40 ls [.int t1, .int t0]) := by
  unfold F_D_state_L40 at hF
  refine lv_iadd S.1 S.2.1 d_D_state_40 ?_
  refine lv_aload_n S.1 S.2.1 d_D_state_41 rfl (lv_at hl 0 rfl) ?_
  refine zr_get (v := .int (st 7 k3 4)) S zi_R hK hP hk3 rfl rfl 9 (by decide) zx_37 rfl d_D_state_42 ?_
  refine lv_if_eq (tgt := 52) S.1 S.2.1 d_D_state_45 (by decide) (fun h45 => ?_) (fun h45 => ?_)
  · rw [if_pos h45] at hF
    refine lv_iconst (v := 0) S.1 S.2.1 d_D_state_52 (by decide) ?_
    refine lv_iadd S.1 S.2.1 d_D_state_53 ?_
    cases hF
    exact zr_iret S hret hlk hS d_D_state_54 ⟨rfl, hP⟩
  · rw [if_neg h45] at hF
    refine lv_iconst (v := 2) S.1 S.2.1 d_D_state_48 (by decide) ?_
    refine lv_goto (tgt := 53) S.1 S.2.1 d_D_state_49 (by decide) ?_
    refine lv_iadd S.1 S.2.1 d_D_state_53 ?_
    cases hF
    exact zr_iret S hret hlk hS d_D_state_54 ⟨rfl, hP⟩

set_option maxHeartbeats 4000000 in
set_option maxRecDepth 100000 in
theorem C_D_state {dC : Nat → ClassId} {dI : Nat → Nat → Nat} {cI cZ cR cA : ClassId} {n : Nat} {ad : zK → Nat} {A : Nat → Prop} (hn : 2 ≤ n ∧ n ≤ 6) (hD : zD A (zKs n) ad) (l : Launch) (v1 : Int32) (v2 : Int32) (st : zS) (out : Int32 × zS) (hF : F_D_state n v1 v2 st = some out) : zC zT (dC, dI) zcl (zty cI cZ cR cA) A l y_D_state b_D_state 4 (some .int) rm_D_state [.ref (ad (0, 0)), .int v1, .int v2] (fun H => zV (dC, dI) zcl (zKs n) ad (zcE n cI cZ cR cA ad) st H) (fun o H => o = some (.int out.1) ∧ zV (dC, dI) zcl (zKs n) ad (zcE n cI cZ cR cA ad) out.2 H) := by
  refine zC_of (by decide) (Nat.le_of_ble_eq_true rfl) (fun p e s m args below meth c ls S hret hlk hK hP hl => ?_)
  have hS : va_S A s.heap s.heap [] := va_S.rf
  have hl : lv_has ls 4 [(0, .ref (ad (0, 0))), (1, .int v1), (2, .int v2)] := hl
  have hP : zV (dC, dI) zcl (zKs n) ad (zcE n cI cZ cR cA ad) st s.heap := hP
  unfold F_D_state at hF
  refine lv_aload_n S.1 S.2.1 d_D_state_0 rfl (lv_at hl 0 rfl) ?_
  refine lv_iload_n S.1 S.2.1 d_D_state_1 rfl (lv_at hl 1 rfl) ?_
  refine lv_iload_n S.1 S.2.1 d_D_state_2 rfl (lv_at hl 2 rfl) ?_
  cases hc3 : F_D_isRoute n v1 v2 st with
  | none => rw [hc3] at hF; cases hF
  | some u3 =>
    obtain ⟨r3, st3⟩ := u3
    rw [hc3] at hF
    refine zr_callV (rest := []) S zT_good (C_D_isRoute hn hD l v1 v2 st (r3, st3) hc3) zn_D_isRoute zx_81 ⟨rfl, rfl⟩ ⟨Nat.le_of_ble_eq_true rfl, Nat.le_of_ble_eq_true rfl⟩ ⟨Nat.zero_le _, Nat.zero_le _⟩ hK (zr_recv hK hP zk_0 rfl rfl) hP hl.1 (Nat.le_of_ble_eq_true rfl) hS (fun _ h => h) d_D_state_3 rfl (fun o H locs hpo _ _ hS => ?_)
    obtain ⟨rfl, hP⟩ := hpo
    refine W.eq (g2 := F0 m 6 ls [.int r3]) rfl ?_
    replace hF : F_D_state_s1 n v1 v2 r3 st3 = some out := hF
    replace hP : zV (dC, dI) zcl (zKs n) ad (zcE n cI cZ cR cA ad) st3 H := hP
    unfold F_D_state_s1 at hF
    refine lv_if_ne (tgt := 11) S.1 S.2.1 d_D_state_6 (by decide) (fun h6 => ?_) (fun h6 => ?_)
    · rw [if_neg h6] at hF
      refine lv_aload_n S.1 S.2.1 d_D_state_11 rfl (lv_at hl 0 rfl) ?_
      refine lv_iload_n S.1 S.2.1 d_D_state_12 rfl (lv_at hl 1 rfl) ?_
      refine lv_iload_n S.1 S.2.1 d_D_state_13 rfl (lv_at hl 2 rfl) ?_
      cases hc14 : F_D_route n v1 v2 st3 with
      | none => rw [hc14] at hF; cases hF
      | some u14 =>
        obtain ⟨r14, st14⟩ := u14
        rw [hc14] at hF
        refine zr_callV (rest := []) S zT_good (C_D_route hn hD l v1 v2 st3 (r14, st14) hc14) zn_D_route zx_14 ⟨rfl, rfl⟩ ⟨Nat.le_of_ble_eq_true rfl, Nat.le_of_ble_eq_true rfl⟩ ⟨Nat.zero_le _, Nat.zero_le _⟩ hK (zr_recv hK hP zk_0 rfl rfl) hP hl.1 (Nat.le_of_ble_eq_true rfl) hS (fun _ h => h) d_D_state_14 rfl (fun o H locs hpo _ _ hS => ?_)
        obtain ⟨rfl, hP⟩ := hpo
        refine W.eq (g2 := F0 m 17 ls [.ref (ad (7, r14))]) rfl ?_
        have hk_r14 := zk_D_route hn hc14
        replace hF : F_D_state_s2 n r14 st14 = some out := hF
        replace hP : zV (dC, dI) zcl (zKs n) ad (zcE n cI cZ cR cA ad) st14 H := hP
        unfold F_D_state_s2 at hF
        refine lv_astore_n S.1 S.2.1 d_D_state_17 rfl hl (by decide) rfl (fun ls hl => ?_)
        have hl : lv_has ls 4 [(3, .ref (ad (7, r14))), (0, .ref (ad (0, 0))), (1, .int v1), (2, .int v2)] := hl
        refine lv_aload_n S.1 S.2.1 d_D_state_18 rfl (lv_at hl 0 rfl) ?_
        refine zr_get (v := .int (st14 7 r14 3)) S zi_R hK hP hk_r14 rfl rfl 8 (by decide) zx_40 rfl d_D_state_19 ?_
        refine lv_if_ne (tgt := 27) S.1 S.2.1 d_D_state_22 (by decide) (fun h22 => ?_) (fun h22 => ?_)
        · rw [if_neg h22] at hF
          refine lv_iconst (v := 1) S.1 S.2.1 d_D_state_27 (by decide) ?_
          refine lv_aload_n S.1 S.2.1 d_D_state_28 rfl (lv_at hl 0 rfl) ?_
          refine zr_get (v := .int (st14 7 r14 5)) S zi_R hK hP hk_r14 rfl rfl 10 (by decide) zx_46 rfl d_D_state_29 ?_
          refine lv_if_eq (tgt := 39) S.1 S.2.1 d_D_state_32 (by decide) (fun h32 => ?_) (fun h32 => ?_)
          · rw [if_pos h32] at hF
            refine lv_iconst (v := 0) S.1 S.2.1 d_D_state_39 (by decide) ?_
            exact T_D_state_L40 hn hD S hret hlk hK out r14 1 0 hk_r14 st14 _ _ _ hP hS (lv_sub hl [0] rfl) hF
          · rw [if_neg h32] at hF
            refine lv_iconst (v := 1) S.1 S.2.1 d_D_state_35 (by decide) ?_
            refine lv_goto (tgt := 40) S.1 S.2.1 d_D_state_36 (by decide) ?_
            exact T_D_state_L40 hn hD S hret hlk hK out r14 1 1 hk_r14 st14 _ _ _ hP hS (lv_sub hl [0] rfl) hF
        · rw [if_pos h22] at hF
          refine lv_iconst (v := 0) S.1 S.2.1 d_D_state_25 (by decide) ?_
          cases hF
          exact zr_iret S hret hlk hS d_D_state_26 ⟨rfl, hP⟩
    · rw [if_pos h6] at hF
      refine lv_iconst (v := (-1)) S.1 S.2.1 d_D_state_9 (by decide) ?_
      cases hF
      exact zr_iret S hret hlk hS d_D_state_10 ⟨rfl, hP⟩

