theorem d_D_bring_0 : decode b_D_bring 0 = .ok (.aload_n 0, 1) := by decide +kernel
theorem d_D_bring_1 : decode b_D_bring 1 = .ok (.getfield 39, 3) := by decide +kernel
theorem d_D_bring_4 : decode b_D_bring 4 = .ok (.iload_n 1, 1) := by decide +kernel
theorem d_D_bring_5 : decode b_D_bring 5 = .ok (.invokevirtual 160, 3) := by decide +kernel
theorem d_D_bring_8 : decode b_D_bring 8 = .ok (.istore_n 2, 1) := by decide +kernel
theorem d_D_bring_9 : decode b_D_bring 9 = .ok (.iload_n 2, 1) := by decide +kernel
theorem d_D_bring_10 : decode b_D_bring 10 = .ok (.invokestatic 163, 3) := by decide +kernel
theorem d_D_bring_13 : decode b_D_bring 13 = .ok (.istore_n 3, 1) := by decide +kernel
theorem d_D_bring_14 : decode b_D_bring 14 = .ok (.iload_n 2, 1) := by decide +kernel
theorem d_D_bring_15 : decode b_D_bring 15 = .ok (.invokestatic 122, 3) := by decide +kernel
theorem d_D_bring_18 : decode b_D_bring 18 = .ok (.istore 4, 2) := by decide +kernel
theorem d_D_bring_20 : decode b_D_bring 20 = .ok (.aload_n 0, 1) := by decide +kernel
theorem d_D_bring_21 : decode b_D_bring 21 = .ok (.iload_n 2, 1) := by decide +kernel
theorem d_D_bring_22 : decode b_D_bring 22 = .ok (.invokestatic 166, 3) := by decide +kernel
theorem d_D_bring_25 : decode b_D_bring 25 = .ok (.iload_n 2, 1) := by decide +kernel
theorem d_D_bring_26 : decode b_D_bring 26 = .ok (.invokestatic 125, 3) := by decide +kernel
theorem d_D_bring_29 : decode b_D_bring 29 = .ok (.invokevirtual 85, 3) := by decide +kernel
theorem d_D_bring_32 : decode b_D_bring 32 = .ok (.astore 5, 2) := by decide +kernel
theorem d_D_bring_34 : decode b_D_bring 34 = .ok (.aload 5, 2) := by decide +kernel
theorem d_D_bring_36 : decode b_D_bring 36 = .ok (.invokevirtual 141, 3) := by decide +kernel
theorem d_D_bring_39 : decode b_D_bring 39 = .ok (.ifCond .ne 26, 3) := by decide +kernel
theorem d_D_bring_42 : decode b_D_bring 42 = .ok (.aload 5, 2) := by decide +kernel
theorem d_D_bring_44 : decode b_D_bring 44 = .ok (.getfield 108, 3) := by decide +kernel
theorem d_D_bring_47 : decode b_D_bring 47 = .ok (.iload_n 3, 1) := by decide +kernel
theorem d_D_bring_48 : decode b_D_bring 48 = .ok (.iload_n 2, 1) := by decide +kernel
theorem d_D_bring_49 : decode b_D_bring 49 = .ok (.invokestatic 128, 3) := by decide +kernel
theorem d_D_bring_52 : decode b_D_bring 52 = .ok (.iastore, 1) := by decide +kernel
theorem d_D_bring_53 : decode b_D_bring 53 = .ok (.aload_n 0, 1) := by decide +kernel
theorem d_D_bring_54 : decode b_D_bring 54 = .ok (.aload 5, 2) := by decide +kernel
theorem d_D_bring_56 : decode b_D_bring 56 = .ok (.iload_n 3, 1) := by decide +kernel
theorem d_D_bring_57 : decode b_D_bring 57 = .ok (.iload 4, 2) := by decide +kernel
theorem d_D_bring_59 : decode b_D_bring 59 = .ok (.invokevirtual 169, 3) := by decide +kernel
theorem d_D_bring_62 : decode b_D_bring 62 = .ok (.goto 20, 3) := by decide +kernel
theorem d_D_bring_65 : decode b_D_bring 65 = .ok (.iload 4, 2) := by decide +kernel
theorem d_D_bring_67 : decode b_D_bring 67 = .ok (.iconst 1, 1) := by decide +kernel
theorem d_D_bring_68 : decode b_D_bring 68 = .ok (.if_icmp .ne 14, 3) := by decide +kernel
theorem d_D_bring_71 : decode b_D_bring 71 = .ok (.aload_n 0, 1) := by decide +kernel
theorem d_D_bring_72 : decode b_D_bring 72 = .ok (.getfield 39, 3) := by decide +kernel
theorem d_D_bring_75 : decode b_D_bring 75 = .ok (.aload 5, 2) := by decide +kernel
theorem d_D_bring_77 : decode b_D_bring 77 = .ok (.iload_n 3, 1) := by decide +kernel
theorem d_D_bring_78 : decode b_D_bring 78 = .ok (.iconst 2, 1) := by decide +kernel
theorem d_D_bring_79 : decode b_D_bring 79 = .ok (.invokevirtual 137, 3) := by decide +kernel
theorem d_D_bring_82 : decode b_D_bring 82 = .ok (.iload 4, 2) := by decide +kernel
theorem d_D_bring_84 : decode b_D_bring 84 = .ok (.ireturn, 1) := by decide +kernel
def F_D_bring_s8 (n : Nat) (v4 : Int32) (st : zS) : Option (Int32 × zS) :=
    some (v4, st)

def F_D_bring_s11 (n : Nat) (v4 : Int32) (st : zS) : Option (Int32 × zS) :=
    some (v4, st)

def F_D_bring_s10 (n : Nat) (k5 : Nat) (v4 : Int32) (v3 : Int32) (st : zS) : Option (Int32 × zS) :=
    (F_D_hear n k5 v3 v4 st).bind (fun u => F_D_bring_s11 n v4 u.2)

def F_D_bring_s9 (n : Nat) (k5 : Nat) (v4 : Int32) (v3 : Int32) (u0 : Nat) (t1 : Int32) (t2 : Int32) (st : zS) : Option (Int32 × zS) :=
    if zOut t1 n then none else F_D_bring_s10 n k5 v4 v3 (zs st 8 u0 (Int32.toNatClampNeg t1) t2)

def F_D_bring_s7 (n : Nat) (k5 : Nat) (v4 : Int32) (v3 : Int32) (v2 : Int32) (t0 : Int32) (st : zS) : Option (Int32 × zS) :=
    if t0 = 0 then ((F_L_distanceOf n v2 st).bind (fun u => F_D_bring_s9 n k5 v4 v3 k5 v3 u.1 u.2)) else (if v4 = 1 then ((F_L_send n k5 v3 2 st).bind (fun u => F_D_bring_s8 n v4 u.2)) else (some (v4, st)))

def F_D_bring_s6 (n : Nat) (v4 : Int32) (v3 : Int32) (v2 : Int32) (u0 : Nat) (st : zS) : Option (Int32 × zS) :=
    (F_R_isOwn n u0 st).bind (fun u => F_D_bring_s7 n u0 v4 v3 v2 u.1 u.2)

def F_D_bring_s5 (n : Nat) (v4 : Int32) (v3 : Int32) (v2 : Int32) (t1 : Int32) (t2 : Int32) (st : zS) : Option (Int32 × zS) :=
    (F_D_route n t1 t2 st).bind (fun u => F_D_bring_s6 n v4 v3 v2 u.1 u.2)

def F_D_bring_s4 (n : Nat) (v4 : Int32) (v3 : Int32) (v2 : Int32) (t1 : Int32) (st : zS) : Option (Int32 × zS) :=
    (F_L_targetOf n v2 st).bind (fun u => F_D_bring_s5 n v4 v3 v2 t1 u.1 u.2)

def F_D_bring_s3 (n : Nat) (v3 : Int32) (v2 : Int32) (t0 : Int32) (st : zS) : Option (Int32 × zS) :=
    (F_L_receiverOf n v2 st).bind (fun u => F_D_bring_s4 n t0 v3 v2 u.1 u.2)

def F_D_bring_s2 (n : Nat) (v2 : Int32) (t0 : Int32) (st : zS) : Option (Int32 × zS) :=
    (F_L_kindOf n v2 st).bind (fun u => F_D_bring_s3 n t0 v2 u.1 u.2)

def F_D_bring_s1 (n : Nat) (t0 : Int32) (st : zS) : Option (Int32 × zS) :=
    (F_L_senderOf n t0 st).bind (fun u => F_D_bring_s2 n t0 u.1 u.2)

def F_D_bring (n : Nat) (v1 : Int32) (st : zS) : Option (Int32 × zS) :=
    (F_L_take n v1 st).bind (fun u => F_D_bring_s1 n u.1 u.2)

set_option maxHeartbeats 4000000 in
set_option maxRecDepth 1000000 in
theorem C_D_bring {dC : Nat → ClassId} {dI : Nat → Nat → Nat} {cI cZ cR cA : ClassId} {n : Nat} {ad : zK → Nat} {A : Nat → Prop} (hn : 2 ≤ n ∧ n ≤ 6) (hD : zD A (zKs n) ad) (l : Launch) (v1 : Int32) (st : zS) (out : Int32 × zS) (hF : F_D_bring n v1 st = some out) : zC zT (dC, dI) zcl (zty cI cZ cR cA) A l y_D_bring b_D_bring 6 (some .int) rm_D_bring [.ref (ad (0, 0)), .int v1] (fun H => zV (dC, dI) zcl (zKs n) ad (zcE n cI cZ cR cA ad) st H) (fun o H => o = some (.int out.1) ∧ zV (dC, dI) zcl (zKs n) ad (zcE n cI cZ cR cA ad) out.2 H) := by
  refine zC_of (by decide) (Nat.le_of_ble_eq_true rfl) (fun p e s m args below meth c ls S hret hlk hK hP hl => ?_)
  have hS : va_S A s.heap s.heap [] := va_S.rf
  have hl : lv_has ls 6 [(0, .ref (ad (0, 0))), (1, .int v1)] := hl
  have hP : zV (dC, dI) zcl (zKs n) ad (zcE n cI cZ cR cA ad) st s.heap := hP
  unfold F_D_bring at hF
  refine lv_aload_n S.1 S.2.1 d_D_bring_0 rfl (lv_at hl 0 rfl) ?_
  refine zr_get (v := .ref (ad (3, 0))) S zi_D hK hP zk_0 rfl rfl 3 (by decide) zx_11 rfl d_D_bring_1 ?_
  refine lv_iload_n S.1 S.2.1 d_D_bring_4 rfl (lv_at hl 1 rfl) ?_
  cases hc5 : F_L_take n v1 st with
  | none => rw [hc5] at hF; cases hF
  | some u5 =>
    obtain ⟨r5, st5⟩ := u5
    rw [hc5] at hF
    replace hF := zbind hF
    refine zr_callV (rest := []) S zT_good (C_L_take hn hD l v1 st (r5, st5) hc5) zn_L_take zx_67 ⟨rfl, rfl⟩ ⟨Nat.le_of_ble_eq_true rfl, Nat.le_of_ble_eq_true rfl⟩ ⟨Nat.zero_le _, Nat.zero_le _⟩ hK (zr_recv hK hP zk_3 rfl rfl) hP hl.1 (Nat.le_of_ble_eq_true rfl) hS (fun _ h => h) d_D_bring_5 rfl (fun o H locs hpo _ _ hS => ?_)
    obtain ⟨rfl, hP⟩ := hpo
    refine W.eq (g2 := F0 m 8 ls [.int r5]) rfl ?_
    replace hF : F_D_bring_s1 n r5 st5 = some out := hF
    replace hP : zV (dC, dI) zcl (zKs n) ad (zcE n cI cZ cR cA ad) st5 H := hP
    unfold F_D_bring_s1 at hF
    refine lv_istore_n S.1 S.2.1 d_D_bring_8 rfl hl (by decide) rfl (fun ls hl => ?_)
    have hl : lv_has ls 6 [(2, .int r5), (0, .ref (ad (0, 0))), (1, .int v1)] := hl
    refine lv_iload_n S.1 S.2.1 d_D_bring_9 rfl (lv_at hl 0 rfl) ?_
    cases hc10 : F_L_senderOf n r5 st5 with
    | none => rw [hc10] at hF; cases hF
    | some u10 =>
      obtain ⟨r10, st10⟩ := u10
      rw [hc10] at hF
      replace hF := zbind hF
      refine zr_callS (rest := []) S zT_good (C_L_senderOf hn hD l r5 st5 (r10, st10) hc10) zn_L_senderOf zx_68 ⟨rfl, rfl⟩ ⟨Nat.le_of_ble_eq_true rfl, Nat.le_of_ble_eq_true rfl⟩ ⟨Nat.zero_le _, Nat.zero_le _⟩ hK hP hl.1 (Nat.le_of_ble_eq_true rfl) hS (fun _ h => h) d_D_bring_10 rfl (fun o H locs hpo _ _ hS => ?_)
      obtain ⟨rfl, hP⟩ := hpo
      refine W.eq (g2 := F0 m 13 ls [.int r10]) rfl ?_
      replace hF : F_D_bring_s2 n r5 r10 st10 = some out := hF
      replace hP : zV (dC, dI) zcl (zKs n) ad (zcE n cI cZ cR cA ad) st10 H := hP
      unfold F_D_bring_s2 at hF
      refine lv_istore_n S.1 S.2.1 d_D_bring_13 rfl hl (by decide) rfl (fun ls hl => ?_)
      have hl : lv_has ls 6 [(3, .int r10), (2, .int r5), (0, .ref (ad (0, 0))), (1, .int v1)] := hl
      refine lv_iload_n S.1 S.2.1 d_D_bring_14 rfl (lv_at hl 1 rfl) ?_
      cases hc15 : F_L_kindOf n r5 st10 with
      | none => rw [hc15] at hF; cases hF
      | some u15 =>
        obtain ⟨r15, st15⟩ := u15
        rw [hc15] at hF
        replace hF := zbind hF
        refine zr_callS (rest := []) S zT_good (C_L_kindOf hn hD l r5 st10 (r15, st15) hc15) zn_L_kindOf zx_56 ⟨rfl, rfl⟩ ⟨Nat.le_of_ble_eq_true rfl, Nat.le_of_ble_eq_true rfl⟩ ⟨Nat.zero_le _, Nat.zero_le _⟩ hK hP hl.1 (Nat.le_of_ble_eq_true rfl) hS (fun _ h => h) d_D_bring_15 rfl (fun o H locs hpo _ _ hS => ?_)
        obtain ⟨rfl, hP⟩ := hpo
        refine W.eq (g2 := F0 m 18 ls [.int r15]) rfl ?_
        replace hF : F_D_bring_s3 n r10 r5 r15 st15 = some out := hF
        replace hP : zV (dC, dI) zcl (zKs n) ad (zcE n cI cZ cR cA ad) st15 H := hP
        unfold F_D_bring_s3 at hF
        refine lv_istore S.1 S.2.1 d_D_bring_18 hl (by decide) rfl (fun ls hl => ?_)
        have hl : lv_has ls 6 [(4, .int r15), (3, .int r10), (2, .int r5), (0, .ref (ad (0, 0))), (1, .int v1)] := hl
        refine lv_aload_n S.1 S.2.1 d_D_bring_20 rfl (lv_at hl 3 rfl) ?_
        refine lv_iload_n S.1 S.2.1 d_D_bring_21 rfl (lv_at hl 2 rfl) ?_
        cases hc22 : F_L_receiverOf n r5 st15 with
        | none => rw [hc22] at hF; cases hF
        | some u22 =>
          obtain ⟨r22, st22⟩ := u22
          rw [hc22] at hF
          replace hF := zbind hF
          refine zr_callS (rest := [.ref (ad (0, 0))]) S zT_good (C_L_receiverOf hn hD l r5 st15 (r22, st22) hc22) zn_L_receiverOf zx_69 ⟨rfl, rfl⟩ ⟨Nat.le_of_ble_eq_true rfl, Nat.le_of_ble_eq_true rfl⟩ ⟨Nat.zero_le _, Nat.zero_le _⟩ hK hP hl.1 (Nat.le_of_ble_eq_true rfl) hS (fun _ h => h) d_D_bring_22 rfl (fun o H locs hpo _ _ hS => ?_)
          obtain ⟨rfl, hP⟩ := hpo
          refine W.eq (g2 := F0 m 25 ls [.int r22, .ref (ad (0, 0))]) rfl ?_
          replace hF : F_D_bring_s4 n r15 r10 r5 r22 st22 = some out := hF
          replace hP : zV (dC, dI) zcl (zKs n) ad (zcE n cI cZ cR cA ad) st22 H := hP
          unfold F_D_bring_s4 at hF
          refine lv_iload_n S.1 S.2.1 d_D_bring_25 rfl (lv_at hl 2 rfl) ?_
          cases hc26 : F_L_targetOf n r5 st22 with
          | none => rw [hc26] at hF; cases hF
          | some u26 =>
            obtain ⟨r26, st26⟩ := u26
            rw [hc26] at hF
            replace hF := zbind hF
            refine zr_callS (rest := [.int r22, .ref (ad (0, 0))]) S zT_good (C_L_targetOf hn hD l r5 st22 (r26, st26) hc26) zn_L_targetOf zx_57 ⟨rfl, rfl⟩ ⟨Nat.le_of_ble_eq_true rfl, Nat.le_of_ble_eq_true rfl⟩ ⟨Nat.zero_le _, Nat.zero_le _⟩ hK hP hl.1 (Nat.le_of_ble_eq_true rfl) hS (fun _ h => h) d_D_bring_26 rfl (fun o H locs hpo _ _ hS => ?_)
            obtain ⟨rfl, hP⟩ := hpo
            refine W.eq (g2 := F0 m 29 ls [.int r26, .int r22, .ref (ad (0, 0))]) rfl ?_
            replace hF : F_D_bring_s5 n r15 r10 r5 r22 r26 st26 = some out := hF
            replace hP : zV (dC, dI) zcl (zKs n) ad (zcE n cI cZ cR cA ad) st26 H := hP
            unfold F_D_bring_s5 at hF
            cases hc29 : F_D_route n r22 r26 st26 with
            | none => rw [hc29] at hF; cases hF
            | some u29 =>
              obtain ⟨r29, st29⟩ := u29
              rw [hc29] at hF
              replace hF := zbind hF
              refine zr_callV (rest := []) S zT_good (C_D_route hn hD l r22 r26 st26 (r29, st29) hc29) zn_D_route zx_88 ⟨rfl, rfl⟩ ⟨Nat.le_of_ble_eq_true rfl, Nat.le_of_ble_eq_true rfl⟩ ⟨Nat.zero_le _, Nat.zero_le _⟩ hK (zr_recv hK hP zk_0 rfl rfl) hP hl.1 (Nat.le_of_ble_eq_true rfl) hS (fun _ h => h) d_D_bring_29 rfl (fun o H locs hpo _ _ hS => ?_)
              obtain ⟨rfl, hP⟩ := hpo
              refine W.eq (g2 := F0 m 32 ls [.ref (ad (7, r29))]) rfl ?_
              have hk_r29 := zk_D_route hn hc29
              replace hF : F_D_bring_s6 n r15 r10 r5 r29 st29 = some out := hF
              replace hP : zV (dC, dI) zcl (zKs n) ad (zcE n cI cZ cR cA ad) st29 H := hP
              unfold F_D_bring_s6 at hF
              refine lv_astore S.1 S.2.1 d_D_bring_32 hl (by decide) rfl (fun ls hl => ?_)
              have hl : lv_has ls 6 [(5, .ref (ad (7, r29))), (4, .int r15), (3, .int r10), (2, .int r5), (0, .ref (ad (0, 0))), (1, .int v1)] := hl
              refine lv_aload S.1 S.2.1 d_D_bring_34 (lv_at hl 0 rfl) ?_
              cases hc36 : F_R_isOwn n r29 st29 with
              | none => rw [hc36] at hF; cases hF
              | some u36 =>
                obtain ⟨r36, st36⟩ := u36
                rw [hc36] at hF
                replace hF := zbind hF
                refine zr_callV (rest := []) S zT_good (C_R_isOwn hn hD l r29 hk_r29 st29 (r36, st36) hc36) zn_R_isOwn zx_61 ⟨rfl, rfl⟩ ⟨Nat.le_of_ble_eq_true rfl, Nat.le_of_ble_eq_true rfl⟩ ⟨Nat.zero_le _, Nat.zero_le _⟩ hK (zr_recv hK hP hk_r29 rfl rfl) hP hl.1 (Nat.le_of_ble_eq_true rfl) hS (fun _ h => h) d_D_bring_36 rfl (fun o H locs hpo _ _ hS => ?_)
                obtain ⟨rfl, hP⟩ := hpo
                refine W.eq (g2 := F0 m 39 ls [.int r36]) rfl ?_
                replace hF : F_D_bring_s7 n r29 r15 r10 r5 r36 st36 = some out := hF
                replace hP : zV (dC, dI) zcl (zKs n) ad (zcE n cI cZ cR cA ad) st36 H := hP
                unfold F_D_bring_s7 at hF
                refine lv_if_ne (tgt := 65) S.1 S.2.1 d_D_bring_39 (by decide) (fun h39 => ?_) (fun h39 => ?_)
                · rw [if_neg h39] at hF
                  refine lv_iload S.1 S.2.1 d_D_bring_65 (lv_at hl 1 rfl) ?_
                  refine lv_iconst (v := 1) S.1 S.2.1 d_D_bring_67 (by decide) ?_
                  refine lv_icmp_ne (tgt := 82) S.1 S.2.1 d_D_bring_68 (by decide) (fun h68 => ?_) (fun h68 => ?_)
                  · rw [if_neg h68] at hF
                    refine lv_iload S.1 S.2.1 d_D_bring_82 (lv_at hl 1 rfl) ?_
                    cases hF
                    exact zr_iret S hret hlk hS d_D_bring_84 ⟨rfl, hP⟩
                  · rw [if_pos h68] at hF
                    refine lv_aload_n S.1 S.2.1 d_D_bring_71 rfl (lv_at hl 4 rfl) ?_
                    refine zr_get (v := .ref (ad (3, 0))) S zi_D hK hP zk_0 rfl rfl 3 (by decide) zx_11 rfl d_D_bring_72 ?_
                    refine lv_aload S.1 S.2.1 d_D_bring_75 (lv_at hl 0 rfl) ?_
                    refine lv_iload_n S.1 S.2.1 d_D_bring_77 rfl (lv_at hl 2 rfl) ?_
                    refine lv_iconst (v := 2) S.1 S.2.1 d_D_bring_78 (by decide) ?_
                    cases hc79 : F_L_send n r29 r10 2 st36 with
                    | none => rw [hc79] at hF; cases hF
                    | some u79 =>
                      obtain ⟨r79, st79⟩ := u79
                      rw [hc79] at hF
                      replace hF := zbind hF
                      refine zr_callV (rest := []) S zT_good (C_L_send hn hD l r29 r10 2 hk_r29 st36 (r79, st79) hc79) zn_L_send zx_60 ⟨rfl, rfl⟩ ⟨Nat.le_of_ble_eq_true rfl, Nat.le_of_ble_eq_true rfl⟩ ⟨Nat.zero_le _, Nat.zero_le _⟩ hK (zr_recv hK hP zk_3 rfl rfl) hP hl.1 (Nat.le_of_ble_eq_true rfl) hS (fun _ h => h) d_D_bring_79 rfl (fun o H locs hpo _ _ hS => ?_)
                      obtain ⟨rfl, hP⟩ := hpo
                      refine W.eq (g2 := F0 m 82 ls []) rfl ?_
                      replace hF : F_D_bring_s8 n r15 st79 = some out := hF
                      replace hP : zV (dC, dI) zcl (zKs n) ad (zcE n cI cZ cR cA ad) st79 H := hP
                      unfold F_D_bring_s8 at hF
                      refine lv_iload S.1 S.2.1 d_D_bring_82 (lv_at hl 1 rfl) ?_
                      cases hF
                      exact zr_iret S hret hlk hS d_D_bring_84 ⟨rfl, hP⟩
                · rw [if_pos h39] at hF
                  refine lv_aload S.1 S.2.1 d_D_bring_42 (lv_at hl 0 rfl) ?_
                  refine zr_get (v := .ref (ad (8, r29))) S zi_R hK hP hk_r29 rfl rfl 3 (by decide) zx_4 rfl d_D_bring_44 ?_
                  refine lv_iload_n S.1 S.2.1 d_D_bring_47 rfl (lv_at hl 2 rfl) ?_
                  refine lv_iload_n S.1 S.2.1 d_D_bring_48 rfl (lv_at hl 3 rfl) ?_
                  cases hc49 : F_L_distanceOf n r5 st36 with
                  | none => rw [hc49] at hF; cases hF
                  | some u49 =>
                    obtain ⟨r49, st49⟩ := u49
                    rw [hc49] at hF
                    replace hF := zbind hF
                    refine zr_callS (rest := [.int r10, .ref (ad (8, r29))]) S zT_good (C_L_distanceOf hn hD l r5 st36 (r49, st49) hc49) zn_L_distanceOf zx_58 ⟨rfl, rfl⟩ ⟨Nat.le_of_ble_eq_true rfl, Nat.le_of_ble_eq_true rfl⟩ ⟨Nat.zero_le _, Nat.zero_le _⟩ hK hP hl.1 (Nat.le_of_ble_eq_true rfl) hS (fun _ h => h) d_D_bring_49 rfl (fun o H locs hpo _ _ hS => ?_)
                    obtain ⟨rfl, hP⟩ := hpo
                    refine W.eq (g2 := F0 m 52 ls [.int r49, .int r10, .ref (ad (8, r29))]) rfl ?_
                    replace hF : F_D_bring_s9 n r29 r15 r10 r29 r10 r49 st49 = some out := hF
                    replace hP : zV (dC, dI) zcl (zKs n) ad (zcE n cI cZ cR cA ad) st49 H := hP
                    unfold F_D_bring_s9 at hF
                    by_cases g52 : zOut r10 n
                    · rw [if_pos g52] at hF; cases hF
                    rw [if_neg g52] at hF
                    refine zr_iast S hK hP hD hS (zk_87 hk_r29) (fun _ => rfl) 0 rfl g52 d_D_bring_52 (fun H locs hP hS => ?_)
                    replace hF : F_D_bring_s10 n r29 r15 r10 (zs st49 8 r29 (Int32.toNatClampNeg r10) r49) = some out := hF
                    generalize zs st49 8 r29 (Int32.toNatClampNeg r10) r49 = st53 at hP hF
                    unfold F_D_bring_s10 at hF
                    refine lv_aload_n S.1 S.2.1 d_D_bring_53 rfl (lv_at hl 4 rfl) ?_
                    refine lv_aload S.1 S.2.1 d_D_bring_54 (lv_at hl 0 rfl) ?_
                    refine lv_iload_n S.1 S.2.1 d_D_bring_56 rfl (lv_at hl 2 rfl) ?_
                    refine lv_iload S.1 S.2.1 d_D_bring_57 (lv_at hl 1 rfl) ?_
                    cases hc59 : F_D_hear n r29 r10 r15 st53 with
                    | none => rw [hc59] at hF; cases hF
                    | some u59 =>
                      obtain ⟨r59, st59⟩ := u59
                      rw [hc59] at hF
                      replace hF := zbind hF
                      refine zr_callV (rest := []) S zT_good (C_D_hear hn hD l r29 r10 r15 hk_r29 st53 (r59, st59) hc59) zn_D_hear zx_70 ⟨rfl, rfl⟩ ⟨Nat.le_of_ble_eq_true rfl, Nat.le_of_ble_eq_true rfl⟩ ⟨Nat.zero_le _, Nat.zero_le _⟩ hK (zr_recv hK hP zk_0 rfl rfl) hP hl.1 (Nat.le_of_ble_eq_true rfl) hS (fun _ h => h) d_D_bring_59 rfl (fun o H locs hpo _ _ hS => ?_)
                      obtain ⟨rfl, hP⟩ := hpo
                      refine W.eq (g2 := F0 m 62 ls []) rfl ?_
                      replace hF : F_D_bring_s11 n r15 st59 = some out := hF
                      replace hP : zV (dC, dI) zcl (zKs n) ad (zcE n cI cZ cR cA ad) st59 H := hP
                      unfold F_D_bring_s11 at hF
                      refine lv_goto (tgt := 82) S.1 S.2.1 d_D_bring_62 (by decide) ?_
                      refine lv_iload S.1 S.2.1 d_D_bring_82 (lv_at hl 1 rfl) ?_
                      cases hF
                      exact zr_iret S hret hlk hS d_D_bring_84 ⟨rfl, hP⟩

theorem d_D_deliver_0 : decode b_D_deliver 0 = .ok (.aload_n 0, 1) := by decide +kernel
theorem d_D_deliver_1 : decode b_D_deliver 1 = .ok (.iload_n 1, 1) := by decide +kernel
theorem d_D_deliver_2 : decode b_D_deliver 2 = .ok (.iload_n 2, 1) := by decide +kernel
theorem d_D_deliver_3 : decode b_D_deliver 3 = .ok (.invokevirtual 61, 3) := by decide +kernel
theorem d_D_deliver_6 : decode b_D_deliver 6 = .ok (.ifCond .ne 5, 3) := by decide +kernel
theorem d_D_deliver_9 : decode b_D_deliver 9 = .ok (.iconst (-1), 1) := by decide +kernel
theorem d_D_deliver_10 : decode b_D_deliver 10 = .ok (.ireturn, 1) := by decide +kernel
theorem d_D_deliver_11 : decode b_D_deliver 11 = .ok (.aload_n 0, 1) := by decide +kernel
theorem d_D_deliver_12 : decode b_D_deliver 12 = .ok (.getfield 39, 3) := by decide +kernel
theorem d_D_deliver_15 : decode b_D_deliver 15 = .ok (.invokevirtual 47, 3) := by decide +kernel
theorem d_D_deliver_18 : decode b_D_deliver 18 = .ok (.sipush 400, 3) := by decide +kernel
theorem d_D_deliver_21 : decode b_D_deliver 21 = .ok (.if_icmp .le 6, 3) := by decide +kernel
theorem d_D_deliver_24 : decode b_D_deliver 24 = .ok (.bipush (-2), 2) := by decide +kernel
theorem d_D_deliver_26 : decode b_D_deliver 26 = .ok (.ireturn, 1) := by decide +kernel
theorem d_D_deliver_27 : decode b_D_deliver 27 = .ok (.aload_n 0, 1) := by decide +kernel
theorem d_D_deliver_28 : decode b_D_deliver 28 = .ok (.getfield 39, 3) := by decide +kernel
theorem d_D_deliver_31 : decode b_D_deliver 31 = .ok (.iload_n 1, 1) := by decide +kernel
theorem d_D_deliver_32 : decode b_D_deliver 32 = .ok (.iload_n 2, 1) := by decide +kernel
theorem d_D_deliver_33 : decode b_D_deliver 33 = .ok (.iconst 0, 1) := by decide +kernel
theorem d_D_deliver_34 : decode b_D_deliver 34 = .ok (.invokevirtual 71, 3) := by decide +kernel
theorem d_D_deliver_37 : decode b_D_deliver 37 = .ok (.istore_n 3, 1) := by decide +kernel
theorem d_D_deliver_38 : decode b_D_deliver 38 = .ok (.iload_n 3, 1) := by decide +kernel
theorem d_D_deliver_39 : decode b_D_deliver 39 = .ok (.iconst (-1), 1) := by decide +kernel
theorem d_D_deliver_40 : decode b_D_deliver 40 = .ok (.if_icmp .ne 7, 3) := by decide +kernel
theorem d_D_deliver_43 : decode b_D_deliver 43 = .ok (.iconst 0, 1) := by decide +kernel
theorem d_D_deliver_44 : decode b_D_deliver 44 = .ok (.goto 10, 3) := by decide +kernel
theorem d_D_deliver_47 : decode b_D_deliver 47 = .ok (.aload_n 0, 1) := by decide +kernel
theorem d_D_deliver_48 : decode b_D_deliver 48 = .ok (.iload_n 3, 1) := by decide +kernel
theorem d_D_deliver_49 : decode b_D_deliver 49 = .ok (.invokevirtual 75, 3) := by decide +kernel
theorem d_D_deliver_52 : decode b_D_deliver 52 = .ok (.iconst 1, 1) := by decide +kernel
theorem d_D_deliver_53 : decode b_D_deliver 53 = .ok (.iadd, 1) := by decide +kernel
theorem d_D_deliver_54 : decode b_D_deliver 54 = .ok (.ireturn, 1) := by decide +kernel
def F_D_deliver_s4 (n : Nat) (t0 : Int32) (st : zS) : Option (Int32 × zS) :=
    some (t0 + 1, st)

def F_D_deliver_s3 (n : Nat) (t0 : Int32) (st : zS) : Option (Int32 × zS) :=
    if t0 = (-1) then (some (0, st)) else ((F_D_bring n t0 st).bind (fun u => F_D_deliver_s4 n u.1 u.2))

def F_D_deliver_s2 (n : Nat) (v1 : Int32) (v2 : Int32) (t0 : Int32) (st : zS) : Option (Int32 × zS) :=
    if t0 ≤ 400 then ((F_L_find n v1 v2 0 st).bind (fun u => F_D_deliver_s3 n u.1 u.2)) else (some ((-2), st))

def F_D_deliver_s1 (n : Nat) (v1 : Int32) (v2 : Int32) (t0 : Int32) (st : zS) : Option (Int32 × zS) :=
    if t0 = 0 then (some ((-1), st)) else ((F_L_size n st).bind (fun u => F_D_deliver_s2 n v1 v2 u.1 u.2))

def F_D_deliver (n : Nat) (v1 : Int32) (v2 : Int32) (st : zS) : Option (Int32 × zS) :=
    (F_D_isLink n v1 v2 st).bind (fun u => F_D_deliver_s1 n v1 v2 u.1 u.2)

set_option maxHeartbeats 4000000 in
set_option maxRecDepth 1000000 in
theorem C_D_deliver {dC : Nat → ClassId} {dI : Nat → Nat → Nat} {cI cZ cR cA : ClassId} {n : Nat} {ad : zK → Nat} {A : Nat → Prop} (hn : 2 ≤ n ∧ n ≤ 6) (hD : zD A (zKs n) ad) (l : Launch) (v1 : Int32) (v2 : Int32) (st : zS) (out : Int32 × zS) (hF : F_D_deliver n v1 v2 st = some out) : zC zT (dC, dI) zcl (zty cI cZ cR cA) A l y_D_deliver b_D_deliver 4 (some .int) rm_D_deliver [.ref (ad (0, 0)), .int v1, .int v2] (fun H => zV (dC, dI) zcl (zKs n) ad (zcE n cI cZ cR cA ad) st H) (fun o H => o = some (.int out.1) ∧ zV (dC, dI) zcl (zKs n) ad (zcE n cI cZ cR cA ad) out.2 H) := by
  refine zC_of (by decide) (Nat.le_of_ble_eq_true rfl) (fun p e s m args below meth c ls S hret hlk hK hP hl => ?_)
  have hS : va_S A s.heap s.heap [] := va_S.rf
  have hl : lv_has ls 4 [(0, .ref (ad (0, 0))), (1, .int v1), (2, .int v2)] := hl
  have hP : zV (dC, dI) zcl (zKs n) ad (zcE n cI cZ cR cA ad) st s.heap := hP
  unfold F_D_deliver at hF
  refine lv_aload_n S.1 S.2.1 d_D_deliver_0 rfl (lv_at hl 0 rfl) ?_
  refine lv_iload_n S.1 S.2.1 d_D_deliver_1 rfl (lv_at hl 1 rfl) ?_
  refine lv_iload_n S.1 S.2.1 d_D_deliver_2 rfl (lv_at hl 2 rfl) ?_
  cases hc3 : F_D_isLink n v1 v2 st with
  | none => rw [hc3] at hF; cases hF
  | some u3 =>
    obtain ⟨r3, st3⟩ := u3
    rw [hc3] at hF
    replace hF := zbind hF
    refine zr_callV (rest := []) S zT_good (C_D_isLink hn hD l v1 v2 st (r3, st3) hc3) zn_D_isLink zx_82 ⟨rfl, rfl⟩ ⟨Nat.le_of_ble_eq_true rfl, Nat.le_of_ble_eq_true rfl⟩ ⟨Nat.zero_le _, Nat.zero_le _⟩ hK (zr_recv hK hP zk_0 rfl rfl) hP hl.1 (Nat.le_of_ble_eq_true rfl) hS (fun _ h => h) d_D_deliver_3 rfl (fun o H locs hpo _ _ hS => ?_)
    obtain ⟨rfl, hP⟩ := hpo
    refine W.eq (g2 := F0 m 6 ls [.int r3]) rfl ?_
    replace hF : F_D_deliver_s1 n v1 v2 r3 st3 = some out := hF
    replace hP : zV (dC, dI) zcl (zKs n) ad (zcE n cI cZ cR cA ad) st3 H := hP
    unfold F_D_deliver_s1 at hF
    refine lv_if_ne (tgt := 11) S.1 S.2.1 d_D_deliver_6 (by decide) (fun h6 => ?_) (fun h6 => ?_)
    · rw [if_neg h6] at hF
      refine lv_aload_n S.1 S.2.1 d_D_deliver_11 rfl (lv_at hl 0 rfl) ?_
      refine zr_get (v := .ref (ad (3, 0))) S zi_D hK hP zk_0 rfl rfl 3 (by decide) zx_11 rfl d_D_deliver_12 ?_
      cases hc15 : F_L_size n st3 with
      | none => rw [hc15] at hF; cases hF
      | some u15 =>
        obtain ⟨r15, st15⟩ := u15
        rw [hc15] at hF
        replace hF := zbind hF
        refine zr_callV (rest := []) S zT_good (C_L_size hn hD l st3 (r15, st15) hc15) zn_L_size zx_79 ⟨rfl, rfl⟩ ⟨Nat.le_of_ble_eq_true rfl, Nat.le_of_ble_eq_true rfl⟩ ⟨Nat.zero_le _, Nat.zero_le _⟩ hK (zr_recv hK hP zk_3 rfl rfl) hP hl.1 (Nat.le_of_ble_eq_true rfl) hS (fun _ h => h) d_D_deliver_15 rfl (fun o H locs hpo _ _ hS => ?_)
        obtain ⟨rfl, hP⟩ := hpo
        refine W.eq (g2 := F0 m 18 ls [.int r15]) rfl ?_
        replace hF : F_D_deliver_s2 n v1 v2 r15 st15 = some out := hF
        replace hP : zV (dC, dI) zcl (zKs n) ad (zcE n cI cZ cR cA ad) st15 H := hP
        unfold F_D_deliver_s2 at hF
        refine lv_sipush (v := 400) S.1 S.2.1 d_D_deliver_18 (by decide) ?_
        refine lv_icmp_le (tgt := 27) S.1 S.2.1 d_D_deliver_21 (by decide) (fun h21 => ?_) (fun h21 => ?_)
        · rw [if_pos h21] at hF
          refine lv_aload_n S.1 S.2.1 d_D_deliver_27 rfl (lv_at hl 0 rfl) ?_
          refine zr_get (v := .ref (ad (3, 0))) S zi_D hK hP zk_0 rfl rfl 3 (by decide) zx_11 rfl d_D_deliver_28 ?_
          refine lv_iload_n S.1 S.2.1 d_D_deliver_31 rfl (lv_at hl 1 rfl) ?_
          refine lv_iload_n S.1 S.2.1 d_D_deliver_32 rfl (lv_at hl 2 rfl) ?_
          refine lv_iconst (v := 0) S.1 S.2.1 d_D_deliver_33 (by decide) ?_
          cases hc34 : F_L_find n v1 v2 0 st15 with
          | none => rw [hc34] at hF; cases hF
          | some u34 =>
            obtain ⟨r34, st34⟩ := u34
            rw [hc34] at hF
            replace hF := zbind hF
            refine zr_callV (rest := []) S zT_good (C_L_find hn hD l v1 v2 0 st15 (r34, st34) hc34) zn_L_find zx_85 ⟨rfl, rfl⟩ ⟨Nat.le_of_ble_eq_true rfl, Nat.le_of_ble_eq_true rfl⟩ ⟨Nat.zero_le _, Nat.zero_le _⟩ hK (zr_recv hK hP zk_3 rfl rfl) hP hl.1 (Nat.le_of_ble_eq_true rfl) hS (fun _ h => h) d_D_deliver_34 rfl (fun o H locs hpo _ _ hS => ?_)
            obtain ⟨rfl, hP⟩ := hpo
            refine W.eq (g2 := F0 m 37 ls [.int r34]) rfl ?_
            replace hF : F_D_deliver_s3 n r34 st34 = some out := hF
            replace hP : zV (dC, dI) zcl (zKs n) ad (zcE n cI cZ cR cA ad) st34 H := hP
            unfold F_D_deliver_s3 at hF
            refine lv_istore_n S.1 S.2.1 d_D_deliver_37 rfl hl (by decide) rfl (fun ls hl => ?_)
            have hl : lv_has ls 4 [(3, .int r34), (0, .ref (ad (0, 0))), (1, .int v1), (2, .int v2)] := hl
            refine lv_iload_n S.1 S.2.1 d_D_deliver_38 rfl (lv_at hl 0 rfl) ?_
            refine lv_iconst (v := (-1)) S.1 S.2.1 d_D_deliver_39 (by decide) ?_
            refine lv_icmp_ne (tgt := 47) S.1 S.2.1 d_D_deliver_40 (by decide) (fun h40 => ?_) (fun h40 => ?_)
            · rw [if_neg h40] at hF
              refine lv_aload_n S.1 S.2.1 d_D_deliver_47 rfl (lv_at hl 1 rfl) ?_
              refine lv_iload_n S.1 S.2.1 d_D_deliver_48 rfl (lv_at hl 0 rfl) ?_
              cases hc49 : F_D_bring n r34 st34 with
              | none => rw [hc49] at hF; cases hF
              | some u49 =>
                obtain ⟨r49, st49⟩ := u49
                rw [hc49] at hF
                replace hF := zbind hF
                refine zr_callV (rest := []) S zT_good (C_D_bring hn hD l r34 st34 (r49, st49) hc49) zn_D_bring zx_86 ⟨rfl, rfl⟩ ⟨Nat.le_of_ble_eq_true rfl, Nat.le_of_ble_eq_true rfl⟩ ⟨Nat.zero_le _, Nat.zero_le _⟩ hK (zr_recv hK hP zk_0 rfl rfl) hP hl.1 (Nat.le_of_ble_eq_true rfl) hS (fun _ h => h) d_D_deliver_49 rfl (fun o H locs hpo _ _ hS => ?_)
                obtain ⟨rfl, hP⟩ := hpo
                refine W.eq (g2 := F0 m 52 ls [.int r49]) rfl ?_
                replace hF : F_D_deliver_s4 n r49 st49 = some out := hF
                replace hP : zV (dC, dI) zcl (zKs n) ad (zcE n cI cZ cR cA ad) st49 H := hP
                unfold F_D_deliver_s4 at hF
                refine lv_iconst (v := 1) S.1 S.2.1 d_D_deliver_52 (by decide) ?_
                refine lv_iadd S.1 S.2.1 d_D_deliver_53 ?_
                cases hF
                exact zr_iret S hret hlk hS d_D_deliver_54 ⟨rfl, hP⟩
            · rw [if_pos h40] at hF
              refine lv_iconst (v := 0) S.1 S.2.1 d_D_deliver_43 (by decide) ?_
              refine lv_goto (tgt := 54) S.1 S.2.1 d_D_deliver_44 (by decide) ?_
              cases hF
              exact zr_iret S hret hlk hS d_D_deliver_54 ⟨rfl, hP⟩
        · rw [if_neg h21] at hF
          refine lv_bipush (v := (-2)) S.1 S.2.1 d_D_deliver_24 (by decide) ?_
          cases hF
          exact zr_iret S hret hlk hS d_D_deliver_26 ⟨rfl, hP⟩
    · rw [if_pos h6] at hF
      refine lv_iconst (v := (-1)) S.1 S.2.1 d_D_deliver_9 (by decide) ?_
      cases hF
      exact zr_iret S hret hlk hS d_D_deliver_10 ⟨rfl, hP⟩

theorem d_D_run_0 : decode b_D_run 0 = .ok (.iload_n 1, 1) := by decide +kernel
theorem d_D_run_1 : decode b_D_run 1 = .ok (.ifCond .lt 10, 3) := by decide +kernel
theorem d_D_run_4 : decode b_D_run 4 = .ok (.iload_n 1, 1) := by decide +kernel
theorem d_D_run_5 : decode b_D_run 5 = .ok (.sipush 200, 3) := by decide +kernel
theorem d_D_run_8 : decode b_D_run 8 = .ok (.if_icmp .le 5, 3) := by decide +kernel
theorem d_D_run_11 : decode b_D_run 11 = .ok (.iconst (-1), 1) := by decide +kernel
theorem d_D_run_12 : decode b_D_run 12 = .ok (.ireturn, 1) := by decide +kernel
theorem d_D_run_13 : decode b_D_run 13 = .ok (.iconst 0, 1) := by decide +kernel
theorem d_D_run_14 : decode b_D_run 14 = .ok (.istore_n 2, 1) := by decide +kernel
theorem d_D_run_15 : decode b_D_run 15 = .ok (.iload_n 2, 1) := by decide +kernel
theorem d_D_run_16 : decode b_D_run 16 = .ok (.iload_n 1, 1) := by decide +kernel
theorem d_D_run_17 : decode b_D_run 17 = .ok (.if_icmp .ge 44, 3) := by decide +kernel
theorem d_D_run_20 : decode b_D_run 20 = .ok (.aload_n 0, 1) := by decide +kernel
theorem d_D_run_21 : decode b_D_run 21 = .ok (.getfield 39, 3) := by decide +kernel
theorem d_D_run_24 : decode b_D_run 24 = .ok (.invokevirtual 47, 3) := by decide +kernel
theorem d_D_run_27 : decode b_D_run 27 = .ok (.ifCond .le 34, 3) := by decide +kernel
theorem d_D_run_30 : decode b_D_run 30 = .ok (.aload_n 0, 1) := by decide +kernel
theorem d_D_run_31 : decode b_D_run 31 = .ok (.getfield 39, 3) := by decide +kernel
theorem d_D_run_34 : decode b_D_run 34 = .ok (.invokevirtual 47, 3) := by decide +kernel
theorem d_D_run_37 : decode b_D_run 37 = .ok (.sipush 400, 3) := by decide +kernel
theorem d_D_run_40 : decode b_D_run 40 = .ok (.if_icmp .gt 21, 3) := by decide +kernel
theorem d_D_run_43 : decode b_D_run 43 = .ok (.aload_n 0, 1) := by decide +kernel
theorem d_D_run_44 : decode b_D_run 44 = .ok (.aload_n 0, 1) := by decide +kernel
theorem d_D_run_45 : decode b_D_run 45 = .ok (.getfield 39, 3) := by decide +kernel
theorem d_D_run_48 : decode b_D_run 48 = .ok (.getfield 79, 3) := by decide +kernel
theorem d_D_run_51 : decode b_D_run 51 = .ok (.invokevirtual 75, 3) := by decide +kernel
theorem d_D_run_54 : decode b_D_run 54 = .ok (.pop, 1) := by decide +kernel
theorem d_D_run_55 : decode b_D_run 55 = .ok (.iinc 2 1, 3) := by decide +kernel
theorem d_D_run_58 : decode b_D_run 58 = .ok (.goto (-43), 3) := by decide +kernel
theorem d_D_run_61 : decode b_D_run 61 = .ok (.iload_n 2, 1) := by decide +kernel
theorem d_D_run_62 : decode b_D_run 62 = .ok (.ireturn, 1) := by decide +kernel
def F_D_run_L15_s3 (n : Nat) (c15 : Int32 → Int32 → zS → Option (Int32 × zS)) (v1 : Int32) (v2 : Int32) (t0 : Int32) (st : zS) : Option (Int32 × zS) :=
    c15 v1 (v2 + 1) st

def F_D_run_L15_s2 (n : Nat) (c15 : Int32 → Int32 → zS → Option (Int32 × zS)) (v1 : Int32) (v2 : Int32) (t0 : Int32) (st : zS) : Option (Int32 × zS) :=
    if 400 < t0 then (some (v2, st)) else ((F_D_bring n (st 3 0 0) st).bind (fun u => F_D_run_L15_s3 n c15 v1 v2 u.1 u.2))

def F_D_run_L15_s1 (n : Nat) (c15 : Int32 → Int32 → zS → Option (Int32 × zS)) (v1 : Int32) (v2 : Int32) (t0 : Int32) (st : zS) : Option (Int32 × zS) :=
    if t0 ≤ 0 then (some (v2, st)) else ((F_L_size n st).bind (fun u => F_D_run_L15_s2 n c15 v1 v2 u.1 u.2))

def F_D_run_L15 (n : Nat) : Nat → Int32 → Int32 → zS → Option (Int32 × zS)
  | 0, _, _, _ => none
  | f + 1, v1, v2, st =>
    if v1 ≤ v2 then (some (v2, st)) else ((F_L_size n st).bind (fun u => F_D_run_L15_s1 n (F_D_run_L15 n f) v1 v2 u.1 u.2))

def F_D_run (n : Nat) (v1 : Int32) (st : zS) : Option (Int32 × zS) :=
    if v1 < 0 then (some ((-1), st)) else (if v1 ≤ 200 then (F_D_run_L15 n zFuel v1 0 st) else (some ((-1), st)))

set_option maxHeartbeats 4000000 in
set_option maxRecDepth 1000000 in
theorem T_D_run_L15 {dC : Nat → ClassId} {dI : Nat → Nat → Nat} {cI cZ cR cA : ClassId} {n : Nat} {ad : zK → Nat} {A : Nat → Prop} (hn : 2 ≤ n ∧ n ≤ 6) (hD : zD A (zKs n) ad) {p : Program} {l : Launch} {e : Env} {s : State} {m : MethodId} {args : Array Value} {below : List Frame} {meth : Method} {c : Code} (S : CallFix p m c b_D_run 3 s args zT N_D) (hret : meth.sig.returnType = some .int) (hlk : meth.locks = false) (hK : va_K (dC, dI) zcl (zty cI cZ cR cA) s) (out : Int32 × zS) : ∀ (fu : Nat) (v1 : Int32) (v2 : Int32) (st : zS) (H : Heap) (locs : List Loc) (ls : Array Slot) (hP : zV (dC, dI) zcl (zKs n) ad (zcE n cI cZ cR cA ad) st H) (hS : va_S A s.heap H locs) (hl : lv_has ls 3 [(0, .ref (ad (0, 0))), (1, .int v1), (2, .int v2)]) (hF : F_D_run_L15 n fu v1 v2 st = some out), W p l e rm_D_run s m args below meth c H locs 0 0 (zQ below A (fun o H => o = some (.int out.1) ∧ zV (dC, dI) zcl (zKs n) ad (zcE n cI cZ cR cA ad) out.2 H) args s) (F0 m 15 ls []) := by
  intro fu
  induction fu with
  | zero => intro v1 v2 st H locs ls hP hS hl hF; rw [F_D_run_L15] at hF; cases hF
  | succ f ih =>
    intro v1 v2 st H locs ls hP hS hl hF
    rw [F_D_run_L15] at hF
    refine lv_iload_n S.1 S.2.1 d_D_run_15 rfl (lv_at hl 2 rfl) ?_
    refine lv_iload_n S.1 S.2.1 d_D_run_16 rfl (lv_at hl 1 rfl) ?_
    refine lv_icmp_ge (tgt := 61) S.1 S.2.1 d_D_run_17 (by decide) (fun h17 => ?_) (fun h17 => ?_)
    · rw [if_pos h17] at hF
      refine lv_iload_n S.1 S.2.1 d_D_run_61 rfl (lv_at hl 2 rfl) ?_
      cases hF
      exact zr_iret S hret hlk hS d_D_run_62 ⟨rfl, hP⟩
    · rw [if_neg h17] at hF
      refine lv_aload_n S.1 S.2.1 d_D_run_20 rfl (lv_at hl 0 rfl) ?_
      refine zr_get (v := .ref (ad (3, 0))) S zi_D hK hP zk_0 rfl rfl 3 (by decide) zx_11 rfl d_D_run_21 ?_
      cases hc24 : F_L_size n st with
      | none => rw [hc24] at hF; cases hF
      | some u24 =>
        obtain ⟨r24, st24⟩ := u24
        rw [hc24] at hF
        replace hF := zbind hF
        refine zr_callV (rest := []) S zT_good (C_L_size hn hD l st (r24, st24) hc24) zn_L_size zx_79 ⟨rfl, rfl⟩ ⟨Nat.le_of_ble_eq_true rfl, Nat.le_of_ble_eq_true rfl⟩ ⟨Nat.zero_le _, Nat.zero_le _⟩ hK (zr_recv hK hP zk_3 rfl rfl) hP hl.1 (Nat.le_of_ble_eq_true rfl) hS (fun _ h => h) d_D_run_24 rfl (fun o H locs hpo _ _ hS => ?_)
        obtain ⟨rfl, hP⟩ := hpo
        refine W.eq (g2 := F0 m 27 ls [.int r24]) rfl ?_
        replace hF : F_D_run_L15_s1 n (F_D_run_L15 n f) v1 v2 r24 st24 = some out := hF
        replace hP : zV (dC, dI) zcl (zKs n) ad (zcE n cI cZ cR cA ad) st24 H := hP
        unfold F_D_run_L15_s1 at hF
        refine lv_if_le (tgt := 61) S.1 S.2.1 d_D_run_27 (by decide) (fun h27 => ?_) (fun h27 => ?_)
        · rw [if_pos h27] at hF
          refine lv_iload_n S.1 S.2.1 d_D_run_61 rfl (lv_at hl 2 rfl) ?_
          cases hF
          exact zr_iret S hret hlk hS d_D_run_62 ⟨rfl, hP⟩
        · rw [if_neg h27] at hF
          refine lv_aload_n S.1 S.2.1 d_D_run_30 rfl (lv_at hl 0 rfl) ?_
          refine zr_get (v := .ref (ad (3, 0))) S zi_D hK hP zk_0 rfl rfl 3 (by decide) zx_11 rfl d_D_run_31 ?_
          cases hc34 : F_L_size n st24 with
          | none => rw [hc34] at hF; cases hF
          | some u34 =>
            obtain ⟨r34, st34⟩ := u34
            rw [hc34] at hF
            replace hF := zbind hF
            refine zr_callV (rest := []) S zT_good (C_L_size hn hD l st24 (r34, st34) hc34) zn_L_size zx_79 ⟨rfl, rfl⟩ ⟨Nat.le_of_ble_eq_true rfl, Nat.le_of_ble_eq_true rfl⟩ ⟨Nat.zero_le _, Nat.zero_le _⟩ hK (zr_recv hK hP zk_3 rfl rfl) hP hl.1 (Nat.le_of_ble_eq_true rfl) hS (fun _ h => h) d_D_run_34 rfl (fun o H locs hpo _ _ hS => ?_)
            obtain ⟨rfl, hP⟩ := hpo
            refine W.eq (g2 := F0 m 37 ls [.int r34]) rfl ?_
            replace hF : F_D_run_L15_s2 n (F_D_run_L15 n f) v1 v2 r34 st34 = some out := hF
            replace hP : zV (dC, dI) zcl (zKs n) ad (zcE n cI cZ cR cA ad) st34 H := hP
            unfold F_D_run_L15_s2 at hF
            refine lv_sipush (v := 400) S.1 S.2.1 d_D_run_37 (by decide) ?_
            refine lv_icmp_gt (tgt := 61) S.1 S.2.1 d_D_run_40 (by decide) (fun h40 => ?_) (fun h40 => ?_)
            · rw [if_pos h40] at hF
              refine lv_iload_n S.1 S.2.1 d_D_run_61 rfl (lv_at hl 2 rfl) ?_
              cases hF
              exact zr_iret S hret hlk hS d_D_run_62 ⟨rfl, hP⟩
            · rw [if_neg h40] at hF
              refine lv_aload_n S.1 S.2.1 d_D_run_43 rfl (lv_at hl 0 rfl) ?_
              refine lv_aload_n S.1 S.2.1 d_D_run_44 rfl (lv_at hl 0 rfl) ?_
              refine zr_get (v := .ref (ad (3, 0))) S zi_D hK hP zk_0 rfl rfl 3 (by decide) zx_11 rfl d_D_run_45 ?_
              refine zr_get (v := .int (st34 3 0 0)) S zi_L hK hP zk_3 rfl rfl 2 (by decide) zx_13 rfl d_D_run_48 ?_
              cases hc51 : F_D_bring n (st34 3 0 0) st34 with
              | none => rw [hc51] at hF; cases hF
              | some u51 =>
                obtain ⟨r51, st51⟩ := u51
                rw [hc51] at hF
                replace hF := zbind hF
                refine zr_callV (rest := []) S zT_good (C_D_bring hn hD l (st34 3 0 0) st34 (r51, st51) hc51) zn_D_bring zx_86 ⟨rfl, rfl⟩ ⟨Nat.le_of_ble_eq_true rfl, Nat.le_of_ble_eq_true rfl⟩ ⟨Nat.zero_le _, Nat.zero_le _⟩ hK (zr_recv hK hP zk_0 rfl rfl) hP hl.1 (Nat.le_of_ble_eq_true rfl) hS (fun _ h => h) d_D_run_51 rfl (fun o H locs hpo _ _ hS => ?_)
                obtain ⟨rfl, hP⟩ := hpo
                refine W.eq (g2 := F0 m 54 ls [.int r51]) rfl ?_
                replace hF : F_D_run_L15_s3 n (F_D_run_L15 n f) v1 v2 r51 st51 = some out := hF
                replace hP : zV (dC, dI) zcl (zKs n) ad (zcE n cI cZ cR cA ad) st51 H := hP
                unfold F_D_run_L15_s3 at hF
                refine lv_pop S.1 S.2.1 d_D_run_54 rfl ?_
                refine lv_iinc (k := 2) (v := v2 + 1) S.1 S.2.1 d_D_run_55 hl rfl rfl (by decide) rfl (fun ls hl => ?_)
                have hl : lv_has ls 3 [(2, .int (v2 + 1)), (0, .ref (ad (0, 0))), (1, .int v1)] := hl
                refine lv_goto (tgt := 15) S.1 S.2.1 d_D_run_58 (by decide) ?_
                exact ih v1 (v2 + 1) st51 _ _ _ hP hS (lv_sub hl [1, 2, 0] rfl) hF

set_option maxHeartbeats 4000000 in
set_option maxRecDepth 1000000 in
theorem C_D_run {dC : Nat → ClassId} {dI : Nat → Nat → Nat} {cI cZ cR cA : ClassId} {n : Nat} {ad : zK → Nat} {A : Nat → Prop} (hn : 2 ≤ n ∧ n ≤ 6) (hD : zD A (zKs n) ad) (l : Launch) (v1 : Int32) (st : zS) (out : Int32 × zS) (hF : F_D_run n v1 st = some out) : zC zT (dC, dI) zcl (zty cI cZ cR cA) A l y_D_run b_D_run 3 (some .int) rm_D_run [.ref (ad (0, 0)), .int v1] (fun H => zV (dC, dI) zcl (zKs n) ad (zcE n cI cZ cR cA ad) st H) (fun o H => o = some (.int out.1) ∧ zV (dC, dI) zcl (zKs n) ad (zcE n cI cZ cR cA ad) out.2 H) := by
  refine zC_of (by decide) (Nat.le_of_ble_eq_true rfl) (fun p e s m args below meth c ls S hret hlk hK hP hl => ?_)
  have hS : va_S A s.heap s.heap [] := va_S.rf
  have hl : lv_has ls 3 [(0, .ref (ad (0, 0))), (1, .int v1)] := hl
  have hP : zV (dC, dI) zcl (zKs n) ad (zcE n cI cZ cR cA ad) st s.heap := hP
  unfold F_D_run at hF
  refine lv_iload_n S.1 S.2.1 d_D_run_0 rfl (lv_at hl 1 rfl) ?_
  refine lv_if_lt (tgt := 11) S.1 S.2.1 d_D_run_1 (by decide) (fun h1 => ?_) (fun h1 => ?_)
  · rw [if_pos h1] at hF
    refine lv_iconst (v := (-1)) S.1 S.2.1 d_D_run_11 (by decide) ?_
    cases hF
    exact zr_iret S hret hlk hS d_D_run_12 ⟨rfl, hP⟩
  · rw [if_neg h1] at hF
    refine lv_iload_n S.1 S.2.1 d_D_run_4 rfl (lv_at hl 1 rfl) ?_
    refine lv_sipush (v := 200) S.1 S.2.1 d_D_run_5 (by decide) ?_
    refine lv_icmp_le (tgt := 13) S.1 S.2.1 d_D_run_8 (by decide) (fun h8 => ?_) (fun h8 => ?_)
    · rw [if_pos h8] at hF
      refine lv_iconst (v := 0) S.1 S.2.1 d_D_run_13 (by decide) ?_
      refine lv_istore_n S.1 S.2.1 d_D_run_14 rfl hl (by decide) rfl (fun ls hl => ?_)
      have hl : lv_has ls 3 [(2, .int 0), (0, .ref (ad (0, 0))), (1, .int v1)] := hl
      exact T_D_run_L15 hn hD S hret hlk hK out zFuel v1 0 st _ _ _ hP hS (lv_sub hl [1, 2, 0] rfl) hF
    · rw [if_neg h8] at hF
      refine lv_iconst (v := (-1)) S.1 S.2.1 d_D_run_11 (by decide) ?_
      cases hF
      exact zr_iret S hret hlk hS d_D_run_12 ⟨rfl, hP⟩

