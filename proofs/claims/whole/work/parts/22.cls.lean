theorem d_D_look_0 : decode b_D_look 0 = .ok (.aload_n 1, 1) := by decide +kernel
theorem d_D_look_1 : decode b_D_look 1 = .ok (.getfield 89, 3) := by decide +kernel
theorem d_D_look_4 : decode b_D_look 4 = .ok (.istore_n 3, 1) := by decide +kernel
theorem d_D_look_5 : decode b_D_look 5 = .ok (.aload_n 1, 1) := by decide +kernel
theorem d_D_look_6 : decode b_D_look 6 = .ok (.invokevirtual 172, 3) := by decide +kernel
theorem d_D_look_9 : decode b_D_look 9 = .ok (.ifCond .eq 33, 3) := by decide +kernel
theorem d_D_look_12 : decode b_D_look 12 = .ok (.iload_n 2, 1) := by decide +kernel
theorem d_D_look_13 : decode b_D_look 13 = .ok (.iconst (-1), 1) := by decide +kernel
theorem d_D_look_14 : decode b_D_look 14 = .ok (.if_icmp .eq 13, 3) := by decide +kernel
theorem d_D_look_17 : decode b_D_look 17 = .ok (.aload_n 0, 1) := by decide +kernel
theorem d_D_look_18 : decode b_D_look 18 = .ok (.getfield 39, 3) := by decide +kernel
theorem d_D_look_21 : decode b_D_look 21 = .ok (.aload_n 1, 1) := by decide +kernel
theorem d_D_look_22 : decode b_D_look 22 = .ok (.iload_n 2, 1) := by decide +kernel
theorem d_D_look_23 : decode b_D_look 23 = .ok (.iconst 2, 1) := by decide +kernel
theorem d_D_look_24 : decode b_D_look 24 = .ok (.invokevirtual 137, 3) := by decide +kernel
theorem d_D_look_27 : decode b_D_look 27 = .ok (.aload_n 1, 1) := by decide +kernel
theorem d_D_look_28 : decode b_D_look 28 = .ok (.getfield 89, 3) := by decide +kernel
theorem d_D_look_31 : decode b_D_look 31 = .ok (.iload_n 3, 1) := by decide +kernel
theorem d_D_look_32 : decode b_D_look 32 = .ok (.if_icmp .eq 9, 3) := by decide +kernel
theorem d_D_look_35 : decode b_D_look 35 = .ok (.aload_n 0, 1) := by decide +kernel
theorem d_D_look_36 : decode b_D_look 36 = .ok (.aload_n 1, 1) := by decide +kernel
theorem d_D_look_37 : decode b_D_look 37 = .ok (.iload_n 2, 1) := by decide +kernel
theorem d_D_look_38 : decode b_D_look 38 = .ok (.invokevirtual 175, 3) := by decide +kernel
theorem d_D_look_41 : decode b_D_look 41 = .ok (.return_, 1) := by decide +kernel
theorem d_D_look_42 : decode b_D_look 42 = .ok (.aload_n 1, 1) := by decide +kernel
theorem d_D_look_43 : decode b_D_look 43 = .ok (.iconst 1, 1) := by decide +kernel
theorem d_D_look_44 : decode b_D_look 44 = .ok (.putfield 98, 3) := by decide +kernel
theorem d_D_look_47 : decode b_D_look 47 = .ok (.aload_n 1, 1) := by decide +kernel
theorem d_D_look_48 : decode b_D_look 48 = .ok (.iload_n 2, 1) := by decide +kernel
theorem d_D_look_49 : decode b_D_look 49 = .ok (.iconst (-1), 1) := by decide +kernel
theorem d_D_look_50 : decode b_D_look 50 = .ok (.if_icmp .eq 15, 3) := by decide +kernel
theorem d_D_look_53 : decode b_D_look 53 = .ok (.iload_n 2, 1) := by decide +kernel
theorem d_D_look_54 : decode b_D_look 54 = .ok (.aload_n 1, 1) := by decide +kernel
theorem d_D_look_55 : decode b_D_look 55 = .ok (.getfield 95, 3) := by decide +kernel
theorem d_D_look_58 : decode b_D_look 58 = .ok (.if_icmp .ne 7, 3) := by decide +kernel
theorem d_D_look_61 : decode b_D_look 61 = .ok (.iconst 1, 1) := by decide +kernel
theorem d_D_look_62 : decode b_D_look 62 = .ok (.goto 4, 3) := by decide +kernel
theorem d_D_look_65 : decode b_D_look 65 = .ok (.iconst 0, 1) := by decide +kernel
theorem d_D_look_66 : decode b_D_look 66 = .ok (.putfield 105, 3) := by decide +kernel
theorem d_D_look_69 : decode b_D_look 69 = .ok (.aload_n 1, 1) := by decide +kernel
theorem d_D_look_70 : decode b_D_look 70 = .ok (.invokevirtual 178, 3) := by decide +kernel
theorem d_D_look_73 : decode b_D_look 73 = .ok (.iload_n 2, 1) := by decide +kernel
theorem d_D_look_74 : decode b_D_look 74 = .ok (.iconst (-1), 1) := by decide +kernel
theorem d_D_look_75 : decode b_D_look 75 = .ok (.if_icmp .eq 20, 3) := by decide +kernel
theorem d_D_look_78 : decode b_D_look 78 = .ok (.aload_n 1, 1) := by decide +kernel
theorem d_D_look_79 : decode b_D_look 79 = .ok (.getfield 105, 3) := by decide +kernel
theorem d_D_look_82 : decode b_D_look 82 = .ok (.ifCond .ne 13, 3) := by decide +kernel
theorem d_D_look_85 : decode b_D_look 85 = .ok (.aload_n 0, 1) := by decide +kernel
theorem d_D_look_86 : decode b_D_look 86 = .ok (.getfield 39, 3) := by decide +kernel
theorem d_D_look_89 : decode b_D_look 89 = .ok (.aload_n 1, 1) := by decide +kernel
theorem d_D_look_90 : decode b_D_look 90 = .ok (.iload_n 2, 1) := by decide +kernel
theorem d_D_look_91 : decode b_D_look 91 = .ok (.iconst 2, 1) := by decide +kernel
theorem d_D_look_92 : decode b_D_look 92 = .ok (.invokevirtual 137, 3) := by decide +kernel
theorem d_D_look_95 : decode b_D_look 95 = .ok (.aload_n 0, 1) := by decide +kernel
theorem d_D_look_96 : decode b_D_look 96 = .ok (.aload_n 1, 1) := by decide +kernel
theorem d_D_look_97 : decode b_D_look 97 = .ok (.invokevirtual 181, 3) := by decide +kernel
theorem d_D_look_100 : decode b_D_look 100 = .ok (.return_, 1) := by decide +kernel
def F_D_look_L27_s1 (n : Nat) (st : zS) : Option (Int32 × zS) :=
    some (0, st)

def F_D_look_L27 (n : Nat) (k1 : Nat) (v2 : Int32) (v3 : Int32) (st : zS) : Option (Int32 × zS) :=
    if (st 7 k1 0) = v3 then (some (0, st)) else ((F_D_updateAllBut n k1 v2 st).bind (fun u => F_D_look_L27_s1 n u.2))

def F_D_look_L95_s1 (n : Nat) (st : zS) : Option (Int32 × zS) :=
    some (0, st)

def F_D_look_L95 (n : Nat) (k1 : Nat) (st : zS) : Option (Int32 × zS) :=
    (F_D_askAll n k1 st).bind (fun u => F_D_look_L95_s1 n u.2)

def F_D_look_L66_s3 (n : Nat) (k1 : Nat) (st : zS) : Option (Int32 × zS) :=
    F_D_look_L95 n k1 st

def F_D_look_L66_s2 (n : Nat) (k1 : Nat) (v2 : Int32) (st : zS) : Option (Int32 × zS) :=
    if v2 = (-1) then (F_D_look_L95 n k1 st) else (if (st 7 k1 4) = 0 then ((F_L_send n k1 v2 2 st).bind (fun u => F_D_look_L66_s3 n k1 u.2)) else (F_D_look_L95 n k1 st))

def F_D_look_L66_s1 (n : Nat) (k1 : Nat) (v2 : Int32) (st : zS) : Option (Int32 × zS) :=
    (F_R_measureAnew n k1 st).bind (fun u => F_D_look_L66_s2 n k1 v2 u.2)

def F_D_look_L66 (n : Nat) (k1 : Nat) (v2 : Int32) (u0 : Nat) (t1 : Int32) (st : zS) : Option (Int32 × zS) :=
    if ¬ (t1 = 0 ∨ t1 = 1) then none else F_D_look_L66_s1 n k1 v2 (zs st 7 u0 4 t1)

def F_D_look_L65 (n : Nat) (k1 : Nat) (v2 : Int32) (u0 : Nat) (st : zS) : Option (Int32 × zS) :=
    F_D_look_L66 n k1 v2 u0 0 st

def F_D_look_s2 (n : Nat) (k1 : Nat) (v2 : Int32) (st : zS) : Option (Int32 × zS) :=
    if v2 = (-1) then (F_D_look_L65 n k1 v2 k1 st) else (if v2 = (st 7 k1 2) then (F_D_look_L66 n k1 v2 k1 1 st) else (F_D_look_L65 n k1 v2 k1 st))

def F_D_look_s3 (n : Nat) (v3 : Int32) (k1 : Nat) (v2 : Int32) (st : zS) : Option (Int32 × zS) :=
    F_D_look_L27 n k1 v2 v3 st

def F_D_look_s1 (n : Nat) (v3 : Int32) (k1 : Nat) (v2 : Int32) (t0 : Int32) (st : zS) : Option (Int32 × zS) :=
    if t0 = 0 then (F_D_look_s2 n k1 v2 (zs st 7 k1 3 1)) else (if v2 = (-1) then (F_D_look_L27 n k1 v2 v3 st) else ((F_L_send n k1 v2 2 st).bind (fun u => F_D_look_s3 n v3 k1 v2 u.2)))

def F_D_look (n : Nat) (k1 : Nat) (v2 : Int32) (st : zS) : Option (Int32 × zS) :=
    (F_R_takeBest n k1 st).bind (fun u => F_D_look_s1 n (st 7 k1 0) k1 v2 u.1 u.2)

set_option maxHeartbeats 4000000 in
set_option maxRecDepth 1000000 in
theorem T_D_look_L27 {dC : Nat → ClassId} {dI : Nat → Nat → Nat} {cI cZ cR cA : ClassId} {n : Nat} {ad : zK → Nat} {A : Nat → Prop} (hn : 2 ≤ n ∧ n ≤ 6) (hD : zD A (zKs n) ad) {p : Program} {l : Launch} {e : Env} {s : State} {m : MethodId} {args : Array Value} {below : List Frame} {meth : Method} {c : Code} (S : CallFix p m c b_D_look 4 s args zT N_D) (hret : meth.sig.returnType = none) (hlk : meth.locks = false) (hK : va_K (dC, dI) zcl (zty cI cZ cR cA) s) (out : Int32 × zS) (k1 : Nat) (v2 : Int32) (v3 : Int32) (hk1 : (7, k1) ∈ zKs n) (st : zS) (H : Heap) (locs : List Loc) (ls : Array Slot) (hP : zV (dC, dI) zcl (zKs n) ad (zcE n cI cZ cR cA ad) st H) (hS : va_S A s.heap H locs) (hl : lv_has ls 4 [(0, .ref (ad (0, 0))), (1, .ref (ad (7, k1))), (2, .int v2), (3, .int v3)]) (hF : F_D_look_L27 n k1 v2 v3 st = some out) : W p l e rm_D_look s m args below meth c H locs 0 0 (zQ below A (fun o H => o = none ∧ zV (dC, dI) zcl (zKs n) ad (zcE n cI cZ cR cA ad) out.2 H) args s) (F0 m 27 ls []) := by
  unfold F_D_look_L27 at hF
  refine lv_aload_n S.1 S.2.1 d_D_look_27 rfl (lv_at hl 1 rfl) ?_
  refine zr_get (v := .int (st 7 k1 0)) S zi_R hK hP hk1 rfl rfl 5 (by decide) zx_14 rfl d_D_look_28 ?_
  refine lv_iload_n S.1 S.2.1 d_D_look_31 rfl (lv_at hl 3 rfl) ?_
  refine lv_icmp_eq (tgt := 41) S.1 S.2.1 d_D_look_32 (by decide) (fun h32 => ?_) (fun h32 => ?_)
  · rw [if_pos h32] at hF
    cases hF
    exact zr_vret S hret hlk hS d_D_look_41 ⟨rfl, hP⟩
  · rw [if_neg h32] at hF
    refine lv_aload_n S.1 S.2.1 d_D_look_35 rfl (lv_at hl 0 rfl) ?_
    refine lv_aload_n S.1 S.2.1 d_D_look_36 rfl (lv_at hl 1 rfl) ?_
    refine lv_iload_n S.1 S.2.1 d_D_look_37 rfl (lv_at hl 2 rfl) ?_
    cases hc38 : F_D_updateAllBut n k1 v2 st with
    | none => rw [hc38] at hF; cases hF
    | some u38 =>
      obtain ⟨r38, st38⟩ := u38
      rw [hc38] at hF
      replace hF := zbind hF
      refine zr_callV (rest := []) S zT_good (C_D_updateAllBut hn hD l k1 v2 hk1 st (r38, st38) hc38) zn_D_updateAllBut zx_72 ⟨rfl, rfl⟩ ⟨Nat.le_of_ble_eq_true rfl, Nat.le_of_ble_eq_true rfl⟩ ⟨Nat.zero_le _, Nat.zero_le _⟩ hK (zr_recv hK hP zk_0 rfl rfl) hP hl.1 (Nat.le_of_ble_eq_true rfl) hS (fun _ h => h) d_D_look_38 rfl (fun o H locs hpo _ _ hS => ?_)
      obtain ⟨rfl, hP⟩ := hpo
      refine W.eq (g2 := F0 m 41 ls []) rfl ?_
      replace hF : F_D_look_L27_s1 n st38 = some out := hF
      replace hP : zV (dC, dI) zcl (zKs n) ad (zcE n cI cZ cR cA ad) st38 H := hP
      unfold F_D_look_L27_s1 at hF
      cases hF
      exact zr_vret S hret hlk hS d_D_look_41 ⟨rfl, hP⟩

set_option maxHeartbeats 4000000 in
set_option maxRecDepth 1000000 in
theorem T_D_look_L95 {dC : Nat → ClassId} {dI : Nat → Nat → Nat} {cI cZ cR cA : ClassId} {n : Nat} {ad : zK → Nat} {A : Nat → Prop} (hn : 2 ≤ n ∧ n ≤ 6) (hD : zD A (zKs n) ad) {p : Program} {l : Launch} {e : Env} {s : State} {m : MethodId} {args : Array Value} {below : List Frame} {meth : Method} {c : Code} (S : CallFix p m c b_D_look 4 s args zT N_D) (hret : meth.sig.returnType = none) (hlk : meth.locks = false) (hK : va_K (dC, dI) zcl (zty cI cZ cR cA) s) (out : Int32 × zS) (k1 : Nat) (hk1 : (7, k1) ∈ zKs n) (st : zS) (H : Heap) (locs : List Loc) (ls : Array Slot) (hP : zV (dC, dI) zcl (zKs n) ad (zcE n cI cZ cR cA ad) st H) (hS : va_S A s.heap H locs) (hl : lv_has ls 4 [(0, .ref (ad (0, 0))), (1, .ref (ad (7, k1)))]) (hF : F_D_look_L95 n k1 st = some out) : W p l e rm_D_look s m args below meth c H locs 0 0 (zQ below A (fun o H => o = none ∧ zV (dC, dI) zcl (zKs n) ad (zcE n cI cZ cR cA ad) out.2 H) args s) (F0 m 95 ls []) := by
  unfold F_D_look_L95 at hF
  refine lv_aload_n S.1 S.2.1 d_D_look_95 rfl (lv_at hl 0 rfl) ?_
  refine lv_aload_n S.1 S.2.1 d_D_look_96 rfl (lv_at hl 1 rfl) ?_
  cases hc97 : F_D_askAll n k1 st with
  | none => rw [hc97] at hF; cases hF
  | some u97 =>
    obtain ⟨r97, st97⟩ := u97
    rw [hc97] at hF
    replace hF := zbind hF
    refine zr_callV (rest := []) S zT_good (C_D_askAll hn hD l k1 hk1 st (r97, st97) hc97) zn_D_askAll zx_74 ⟨rfl, rfl⟩ ⟨Nat.le_of_ble_eq_true rfl, Nat.le_of_ble_eq_true rfl⟩ ⟨Nat.zero_le _, Nat.zero_le _⟩ hK (zr_recv hK hP zk_0 rfl rfl) hP hl.1 (Nat.le_of_ble_eq_true rfl) hS (fun _ h => h) d_D_look_97 rfl (fun o H locs hpo _ _ hS => ?_)
    obtain ⟨rfl, hP⟩ := hpo
    refine W.eq (g2 := F0 m 100 ls []) rfl ?_
    replace hF : F_D_look_L95_s1 n st97 = some out := hF
    replace hP : zV (dC, dI) zcl (zKs n) ad (zcE n cI cZ cR cA ad) st97 H := hP
    unfold F_D_look_L95_s1 at hF
    cases hF
    exact zr_vret S hret hlk hS d_D_look_100 ⟨rfl, hP⟩

set_option maxHeartbeats 4000000 in
set_option maxRecDepth 1000000 in
theorem T_D_look_L66 {dC : Nat → ClassId} {dI : Nat → Nat → Nat} {cI cZ cR cA : ClassId} {n : Nat} {ad : zK → Nat} {A : Nat → Prop} (hn : 2 ≤ n ∧ n ≤ 6) (hD : zD A (zKs n) ad) {p : Program} {l : Launch} {e : Env} {s : State} {m : MethodId} {args : Array Value} {below : List Frame} {meth : Method} {c : Code} (S : CallFix p m c b_D_look 4 s args zT N_D) (hret : meth.sig.returnType = none) (hlk : meth.locks = false) (hK : va_K (dC, dI) zcl (zty cI cZ cR cA) s) (out : Int32 × zS) (k1 : Nat) (v2 : Int32) (u0 : Nat) (t1 : Int32) (hk1 : (7, k1) ∈ zKs n) (hu0 : (7, u0) ∈ zKs n) (st : zS) (H : Heap) (locs : List Loc) (ls : Array Slot) (hP : zV (dC, dI) zcl (zKs n) ad (zcE n cI cZ cR cA ad) st H) (hS : va_S A s.heap H locs) (hl : lv_has ls 4 [(0, .ref (ad (0, 0))), (1, .ref (ad (7, k1))), (2, .int v2)]) (hF : F_D_look_L66 n k1 v2 u0 t1 st = some out) : W p l e rm_D_look s m args below meth c H locs 0 0 (zQ below A (fun o H => o = none ∧ zV (dC, dI) zcl (zKs n) ad (zcE n cI cZ cR cA ad) out.2 H) args s) (F0 m 66 ls [.int t1, .ref (ad (7, u0))]) := by
  unfold F_D_look_L66 at hF
  by_cases g66 : ¬ (t1 = 0 ∨ t1 = 1)
  · rw [if_pos g66] at hF; cases hF
  rw [if_neg g66] at hF
  refine zr_put (v := t1) S zi_R t_R t_R_ok n_R hK hP hD hS hu0 rfl rfl 9 (by decide) zx_3 rfl (zb_n (Decidable.not_not.mp g66)) (zb_f (Decidable.not_not.mp g66)) (Nat.le_of_ble_eq_true rfl) 4 rfl d_D_look_66 (fun H locs hP hS => ?_)
  replace hF : F_D_look_L66_s1 n k1 v2 (zs st 7 u0 4 t1) = some out := hF
  generalize zs st 7 u0 4 t1 = st69 at hP hF
  unfold F_D_look_L66_s1 at hF
  refine lv_aload_n S.1 S.2.1 d_D_look_69 rfl (lv_at hl 1 rfl) ?_
  cases hc70 : F_R_measureAnew n k1 st69 with
  | none => rw [hc70] at hF; cases hF
  | some u70 =>
    obtain ⟨r70, st70⟩ := u70
    rw [hc70] at hF
    replace hF := zbind hF
    refine zr_callV (rest := []) S zT_good (C_R_measureAnew hn hD l k1 hk1 st69 (r70, st70) hc70) zn_R_measureAnew zx_73 ⟨rfl, rfl⟩ ⟨Nat.le_of_ble_eq_true rfl, Nat.le_of_ble_eq_true rfl⟩ ⟨Nat.zero_le _, Nat.zero_le _⟩ hK (zr_recv hK hP hk1 rfl rfl) hP hl.1 (Nat.le_of_ble_eq_true rfl) hS (fun _ h => h) d_D_look_70 rfl (fun o H locs hpo _ _ hS => ?_)
    obtain ⟨rfl, hP⟩ := hpo
    refine W.eq (g2 := F0 m 73 ls []) rfl ?_
    replace hF : F_D_look_L66_s2 n k1 v2 st70 = some out := hF
    replace hP : zV (dC, dI) zcl (zKs n) ad (zcE n cI cZ cR cA ad) st70 H := hP
    unfold F_D_look_L66_s2 at hF
    refine lv_iload_n S.1 S.2.1 d_D_look_73 rfl (lv_at hl 2 rfl) ?_
    refine lv_iconst (v := (-1)) S.1 S.2.1 d_D_look_74 (by decide) ?_
    refine lv_icmp_eq (tgt := 95) S.1 S.2.1 d_D_look_75 (by decide) (fun h75 => ?_) (fun h75 => ?_)
    · rw [if_pos h75] at hF
      exact T_D_look_L95 hn hD S hret hlk hK out k1 hk1 st70 _ _ _ hP hS (lv_sub hl [0, 1] rfl) hF
    · rw [if_neg h75] at hF
      refine lv_aload_n S.1 S.2.1 d_D_look_78 rfl (lv_at hl 1 rfl) ?_
      refine zr_get (v := .int (st70 7 k1 4)) S zi_R hK hP hk1 rfl rfl 9 (by decide) zx_3 rfl d_D_look_79 ?_
      refine lv_if_ne (tgt := 95) S.1 S.2.1 d_D_look_82 (by decide) (fun h82 => ?_) (fun h82 => ?_)
      · rw [if_neg h82] at hF
        exact T_D_look_L95 hn hD S hret hlk hK out k1 hk1 st70 _ _ _ hP hS (lv_sub hl [0, 1] rfl) hF
      · rw [if_pos h82] at hF
        refine lv_aload_n S.1 S.2.1 d_D_look_85 rfl (lv_at hl 0 rfl) ?_
        refine zr_get (v := .ref (ad (3, 0))) S zi_D hK hP zk_0 rfl rfl 3 (by decide) zx_11 rfl d_D_look_86 ?_
        refine lv_aload_n S.1 S.2.1 d_D_look_89 rfl (lv_at hl 1 rfl) ?_
        refine lv_iload_n S.1 S.2.1 d_D_look_90 rfl (lv_at hl 2 rfl) ?_
        refine lv_iconst (v := 2) S.1 S.2.1 d_D_look_91 (by decide) ?_
        cases hc92 : F_L_send n k1 v2 2 st70 with
        | none => rw [hc92] at hF; cases hF
        | some u92 =>
          obtain ⟨r92, st92⟩ := u92
          rw [hc92] at hF
          replace hF := zbind hF
          refine zr_callV (rest := []) S zT_good (C_L_send hn hD l k1 v2 2 hk1 st70 (r92, st92) hc92) zn_L_send zx_60 ⟨rfl, rfl⟩ ⟨Nat.le_of_ble_eq_true rfl, Nat.le_of_ble_eq_true rfl⟩ ⟨Nat.zero_le _, Nat.zero_le _⟩ hK (zr_recv hK hP zk_3 rfl rfl) hP hl.1 (Nat.le_of_ble_eq_true rfl) hS (fun _ h => h) d_D_look_92 rfl (fun o H locs hpo _ _ hS => ?_)
          obtain ⟨rfl, hP⟩ := hpo
          refine W.eq (g2 := F0 m 95 ls []) rfl ?_
          replace hF : F_D_look_L66_s3 n k1 st92 = some out := hF
          replace hP : zV (dC, dI) zcl (zKs n) ad (zcE n cI cZ cR cA ad) st92 H := hP
          unfold F_D_look_L66_s3 at hF
          exact T_D_look_L95 hn hD S hret hlk hK out k1 hk1 st92 _ _ _ hP hS (lv_sub hl [0, 1] rfl) hF

set_option maxHeartbeats 4000000 in
set_option maxRecDepth 1000000 in
theorem T_D_look_L65 {dC : Nat → ClassId} {dI : Nat → Nat → Nat} {cI cZ cR cA : ClassId} {n : Nat} {ad : zK → Nat} {A : Nat → Prop} (hn : 2 ≤ n ∧ n ≤ 6) (hD : zD A (zKs n) ad) {p : Program} {l : Launch} {e : Env} {s : State} {m : MethodId} {args : Array Value} {below : List Frame} {meth : Method} {c : Code} (S : CallFix p m c b_D_look 4 s args zT N_D) (hret : meth.sig.returnType = none) (hlk : meth.locks = false) (hK : va_K (dC, dI) zcl (zty cI cZ cR cA) s) (out : Int32 × zS) (k1 : Nat) (v2 : Int32) (u0 : Nat) (hk1 : (7, k1) ∈ zKs n) (hu0 : (7, u0) ∈ zKs n) (st : zS) (H : Heap) (locs : List Loc) (ls : Array Slot) (hP : zV (dC, dI) zcl (zKs n) ad (zcE n cI cZ cR cA ad) st H) (hS : va_S A s.heap H locs) (hl : lv_has ls 4 [(0, .ref (ad (0, 0))), (1, .ref (ad (7, k1))), (2, .int v2)]) (hF : F_D_look_L65 n k1 v2 u0 st = some out) : W p l e rm_D_look s m args below meth c H locs 0 0 (zQ below A (fun o H => o = none ∧ zV (dC, dI) zcl (zKs n) ad (zcE n cI cZ cR cA ad) out.2 H) args s) (F0 m 65 ls [.ref (ad (7, u0))]) := by
  unfold F_D_look_L65 at hF
  refine lv_iconst (v := 0) S.1 S.2.1 d_D_look_65 (by decide) ?_
  exact T_D_look_L66 hn hD S hret hlk hK out k1 v2 u0 0 hk1 hu0 st _ _ _ hP hS (lv_sub hl [0, 1, 2] rfl) hF

set_option maxHeartbeats 4000000 in
set_option maxRecDepth 1000000 in
theorem C_D_look {dC : Nat → ClassId} {dI : Nat → Nat → Nat} {cI cZ cR cA : ClassId} {n : Nat} {ad : zK → Nat} {A : Nat → Prop} (hn : 2 ≤ n ∧ n ≤ 6) (hD : zD A (zKs n) ad) (l : Launch) (k1 : Nat) (v2 : Int32) (hk1 : (7, k1) ∈ zKs n) (st : zS) (out : Int32 × zS) (hF : F_D_look n k1 v2 st = some out) : zC zT (dC, dI) zcl (zty cI cZ cR cA) A l y_D_look b_D_look 4 (none) rm_D_look [.ref (ad (0, 0)), .ref (ad (7, k1)), .int v2] (fun H => zV (dC, dI) zcl (zKs n) ad (zcE n cI cZ cR cA ad) st H) (fun o H => o = none ∧ zV (dC, dI) zcl (zKs n) ad (zcE n cI cZ cR cA ad) out.2 H) := by
  refine zC_of (by decide) (Nat.le_of_ble_eq_true rfl) (fun p e s m args below meth c ls S hret hlk hK hP hl => ?_)
  have hS : va_S A s.heap s.heap [] := va_S.rf
  have hl : lv_has ls 4 [(0, .ref (ad (0, 0))), (1, .ref (ad (7, k1))), (2, .int v2)] := hl
  have hP : zV (dC, dI) zcl (zKs n) ad (zcE n cI cZ cR cA ad) st s.heap := hP
  unfold F_D_look at hF
  refine lv_aload_n S.1 S.2.1 d_D_look_0 rfl (lv_at hl 1 rfl) ?_
  refine zr_get (v := .int (st 7 k1 0)) S zi_R hK hP hk1 rfl rfl 5 (by decide) zx_14 rfl d_D_look_1 ?_
  refine lv_istore_n S.1 S.2.1 d_D_look_4 rfl hl (by decide) rfl (fun ls hl => ?_)
  have hl : lv_has ls 4 [(3, .int (st 7 k1 0)), (0, .ref (ad (0, 0))), (1, .ref (ad (7, k1))), (2, .int v2)] := hl
  refine lv_aload_n S.1 S.2.1 d_D_look_5 rfl (lv_at hl 2 rfl) ?_
  cases hc6 : F_R_takeBest n k1 st with
  | none => rw [hc6] at hF; cases hF
  | some u6 =>
    obtain ⟨r6, st6⟩ := u6
    rw [hc6] at hF
    replace hF := zbind hF
    refine zr_callV (rest := []) S zT_good (C_R_takeBest hn hD l k1 hk1 st (r6, st6) hc6) zn_R_takeBest zx_71 ⟨rfl, rfl⟩ ⟨Nat.le_of_ble_eq_true rfl, Nat.le_of_ble_eq_true rfl⟩ ⟨Nat.zero_le _, Nat.zero_le _⟩ hK (zr_recv hK hP hk1 rfl rfl) hP hl.1 (Nat.le_of_ble_eq_true rfl) hS (fun _ h => h) d_D_look_6 rfl (fun o H locs hpo _ _ hS => ?_)
    obtain ⟨rfl, hP⟩ := hpo
    refine W.eq (g2 := F0 m 9 ls [.int r6]) rfl ?_
    replace hF : F_D_look_s1 n (st 7 k1 0) k1 v2 r6 st6 = some out := hF
    replace hP : zV (dC, dI) zcl (zKs n) ad (zcE n cI cZ cR cA ad) st6 H := hP
    unfold F_D_look_s1 at hF
    refine lv_if_eq (tgt := 42) S.1 S.2.1 d_D_look_9 (by decide) (fun h9 => ?_) (fun h9 => ?_)
    · rw [if_pos h9] at hF
      refine lv_aload_n S.1 S.2.1 d_D_look_42 rfl (lv_at hl 2 rfl) ?_
      refine lv_iconst (v := 1) S.1 S.2.1 d_D_look_43 (by decide) ?_
      refine zr_put (v := 1) S zi_R t_R t_R_ok n_R hK hP hD hS hk1 rfl rfl 8 (by decide) zx_17 rfl rfl rfl (Nat.le_of_ble_eq_true rfl) 3 rfl d_D_look_44 (fun H locs hP hS => ?_)
      replace hF : F_D_look_s2 n k1 v2 (zs st6 7 k1 3 1) = some out := hF
      generalize zs st6 7 k1 3 1 = st47 at hP hF
      unfold F_D_look_s2 at hF
      refine lv_aload_n S.1 S.2.1 d_D_look_47 rfl (lv_at hl 2 rfl) ?_
      refine lv_iload_n S.1 S.2.1 d_D_look_48 rfl (lv_at hl 3 rfl) ?_
      refine lv_iconst (v := (-1)) S.1 S.2.1 d_D_look_49 (by decide) ?_
      refine lv_icmp_eq (tgt := 65) S.1 S.2.1 d_D_look_50 (by decide) (fun h50 => ?_) (fun h50 => ?_)
      · rw [if_pos h50] at hF
        exact T_D_look_L65 hn hD S hret hlk hK out k1 v2 k1 hk1 hk1 st47 _ _ _ hP hS (lv_sub hl [1, 2, 3] rfl) hF
      · rw [if_neg h50] at hF
        refine lv_iload_n S.1 S.2.1 d_D_look_53 rfl (lv_at hl 3 rfl) ?_
        refine lv_aload_n S.1 S.2.1 d_D_look_54 rfl (lv_at hl 2 rfl) ?_
        refine zr_get (v := .int (st47 7 k1 2)) S zi_R hK hP hk1 rfl rfl 7 (by decide) zx_16 rfl d_D_look_55 ?_
        refine lv_icmp_ne (tgt := 65) S.1 S.2.1 d_D_look_58 (by decide) (fun h58 => ?_) (fun h58 => ?_)
        · rw [if_neg h58] at hF
          exact T_D_look_L65 hn hD S hret hlk hK out k1 v2 k1 hk1 hk1 st47 _ _ _ hP hS (lv_sub hl [1, 2, 3] rfl) hF
        · rw [if_pos h58] at hF
          refine lv_iconst (v := 1) S.1 S.2.1 d_D_look_61 (by decide) ?_
          refine lv_goto (tgt := 66) S.1 S.2.1 d_D_look_62 (by decide) ?_
          exact T_D_look_L66 hn hD S hret hlk hK out k1 v2 k1 1 hk1 hk1 st47 _ _ _ hP hS (lv_sub hl [1, 2, 3] rfl) hF
    · rw [if_neg h9] at hF
      refine lv_iload_n S.1 S.2.1 d_D_look_12 rfl (lv_at hl 3 rfl) ?_
      refine lv_iconst (v := (-1)) S.1 S.2.1 d_D_look_13 (by decide) ?_
      refine lv_icmp_eq (tgt := 27) S.1 S.2.1 d_D_look_14 (by decide) (fun h14 => ?_) (fun h14 => ?_)
      · rw [if_pos h14] at hF
        exact T_D_look_L27 hn hD S hret hlk hK out k1 v2 (st 7 k1 0) hk1 st6 _ _ _ hP hS (lv_sub hl [1, 2, 3, 0] rfl) hF
      · rw [if_neg h14] at hF
        refine lv_aload_n S.1 S.2.1 d_D_look_17 rfl (lv_at hl 1 rfl) ?_
        refine zr_get (v := .ref (ad (3, 0))) S zi_D hK hP zk_0 rfl rfl 3 (by decide) zx_11 rfl d_D_look_18 ?_
        refine lv_aload_n S.1 S.2.1 d_D_look_21 rfl (lv_at hl 2 rfl) ?_
        refine lv_iload_n S.1 S.2.1 d_D_look_22 rfl (lv_at hl 3 rfl) ?_
        refine lv_iconst (v := 2) S.1 S.2.1 d_D_look_23 (by decide) ?_
        cases hc24 : F_L_send n k1 v2 2 st6 with
        | none => rw [hc24] at hF; cases hF
        | some u24 =>
          obtain ⟨r24, st24⟩ := u24
          rw [hc24] at hF
          replace hF := zbind hF
          refine zr_callV (rest := []) S zT_good (C_L_send hn hD l k1 v2 2 hk1 st6 (r24, st24) hc24) zn_L_send zx_60 ⟨rfl, rfl⟩ ⟨Nat.le_of_ble_eq_true rfl, Nat.le_of_ble_eq_true rfl⟩ ⟨Nat.zero_le _, Nat.zero_le _⟩ hK (zr_recv hK hP zk_3 rfl rfl) hP hl.1 (Nat.le_of_ble_eq_true rfl) hS (fun _ h => h) d_D_look_24 rfl (fun o H locs hpo _ _ hS => ?_)
          obtain ⟨rfl, hP⟩ := hpo
          refine W.eq (g2 := F0 m 27 ls []) rfl ?_
          replace hF : F_D_look_s3 n (st 7 k1 0) k1 v2 st24 = some out := hF
          replace hP : zV (dC, dI) zcl (zKs n) ad (zcE n cI cZ cR cA ad) st24 H := hP
          unfold F_D_look_s3 at hF
          exact T_D_look_L27 hn hD S hret hlk hK out k1 v2 (st 7 k1 0) hk1 st24 _ _ _ hP hS (lv_sub hl [1, 2, 3, 0] rfl) hF

theorem d_R_isWaiting_0 : decode b_R_isWaiting 0 = .ok (.aload_n 0, 1) := by decide +kernel
theorem d_R_isWaiting_1 : decode b_R_isWaiting 1 = .ok (.getfield 31, 3) := by decide +kernel
theorem d_R_isWaiting_4 : decode b_R_isWaiting 4 = .ok (.astore_n 1, 1) := by decide +kernel
theorem d_R_isWaiting_5 : decode b_R_isWaiting 5 = .ok (.aload_n 1, 1) := by decide +kernel
theorem d_R_isWaiting_6 : decode b_R_isWaiting 6 = .ok (.arraylength, 1) := by decide +kernel
theorem d_R_isWaiting_7 : decode b_R_isWaiting 7 = .ok (.istore_n 2, 1) := by decide +kernel
theorem d_R_isWaiting_8 : decode b_R_isWaiting 8 = .ok (.iconst 0, 1) := by decide +kernel
theorem d_R_isWaiting_9 : decode b_R_isWaiting 9 = .ok (.istore_n 3, 1) := by decide +kernel
theorem d_R_isWaiting_10 : decode b_R_isWaiting 10 = .ok (.iload_n 3, 1) := by decide +kernel
theorem d_R_isWaiting_11 : decode b_R_isWaiting 11 = .ok (.iload_n 2, 1) := by decide +kernel
theorem d_R_isWaiting_12 : decode b_R_isWaiting 12 = .ok (.if_icmp .ge 21, 3) := by decide +kernel
theorem d_R_isWaiting_15 : decode b_R_isWaiting 15 = .ok (.aload_n 1, 1) := by decide +kernel
theorem d_R_isWaiting_16 : decode b_R_isWaiting 16 = .ok (.iload_n 3, 1) := by decide +kernel
theorem d_R_isWaiting_17 : decode b_R_isWaiting 17 = .ok (.baload, 1) := by decide +kernel
theorem d_R_isWaiting_18 : decode b_R_isWaiting 18 = .ok (.istore 4, 2) := by decide +kernel
theorem d_R_isWaiting_20 : decode b_R_isWaiting 20 = .ok (.iload 4, 2) := by decide +kernel
theorem d_R_isWaiting_22 : decode b_R_isWaiting 22 = .ok (.ifCond .eq 5, 3) := by decide +kernel
theorem d_R_isWaiting_25 : decode b_R_isWaiting 25 = .ok (.iconst 1, 1) := by decide +kernel
theorem d_R_isWaiting_26 : decode b_R_isWaiting 26 = .ok (.ireturn, 1) := by decide +kernel
theorem d_R_isWaiting_27 : decode b_R_isWaiting 27 = .ok (.iinc 3 1, 3) := by decide +kernel
theorem d_R_isWaiting_30 : decode b_R_isWaiting 30 = .ok (.goto (-20), 3) := by decide +kernel
theorem d_R_isWaiting_33 : decode b_R_isWaiting 33 = .ok (.iconst 0, 1) := by decide +kernel
theorem d_R_isWaiting_34 : decode b_R_isWaiting 34 = .ok (.ireturn, 1) := by decide +kernel
def F_R_isWaiting_L10 (n : Nat) : Nat → Nat → Int32 → Int32 → zS → Option (Int32 × zS)
  | 0, _, _, _, _ => none
  | f + 1, k1, v2, v3, st =>
    if v2 ≤ v3 then (some (0, st)) else (if zOut v3 n then none else if (st 9 k1 (Int32.toNatClampNeg v3)) = 0 then (F_R_isWaiting_L10 n f k1 v2 (v3 + 1) st) else (some (1, st)))

def F_R_isWaiting (n : Nat) (k0 : Nat) (st : zS) : Option (Int32 × zS) :=
    F_R_isWaiting_L10 n zFuel k0 (nI n) 0 st

set_option maxHeartbeats 4000000 in
set_option maxRecDepth 1000000 in
theorem T_R_isWaiting_L10 {dC : Nat → ClassId} {dI : Nat → Nat → Nat} {cI cZ cR cA : ClassId} {n : Nat} {ad : zK → Nat} {A : Nat → Prop} (hn : 2 ≤ n ∧ n ≤ 6) (hD : zD A (zKs n) ad) {p : Program} {l : Launch} {e : Env} {s : State} {m : MethodId} {args : Array Value} {below : List Frame} {meth : Method} {c : Code} (S : CallFix p m c b_R_isWaiting 5 s args zT N_R) (hret : meth.sig.returnType = some .boolean) (hlk : meth.locks = false) (hK : va_K (dC, dI) zcl (zty cI cZ cR cA) s) (out : Int32 × zS) : ∀ (fu : Nat) (k1 : Nat) (v2 : Int32) (v3 : Int32) (hk1 : (9, k1) ∈ zKs n) (st : zS) (H : Heap) (locs : List Loc) (ls : Array Slot) (hP : zV (dC, dI) zcl (zKs n) ad (zcE n cI cZ cR cA ad) st H) (hS : va_S A s.heap H locs) (hl : lv_has ls 5 [(1, .ref (ad (9, k1))), (2, .int v2), (3, .int v3)]) (hF : F_R_isWaiting_L10 n fu k1 v2 v3 st = some out), W p l e rm_R_isWaiting s m args below meth c H locs 0 0 (zQ below A (fun o H => o = some (.int out.1) ∧ zV (dC, dI) zcl (zKs n) ad (zcE n cI cZ cR cA ad) out.2 H) args s) (F0 m 10 ls []) := by
  intro fu
  induction fu with
  | zero => intro k1 v2 v3 hk1 st H locs ls hP hS hl hF; rw [F_R_isWaiting_L10] at hF; cases hF
  | succ f ih =>
    intro k1 v2 v3 hk1 st H locs ls hP hS hl hF
    rw [F_R_isWaiting_L10] at hF
    refine lv_iload_n S.1 S.2.1 d_R_isWaiting_10 rfl (lv_at hl 2 rfl) ?_
    refine lv_iload_n S.1 S.2.1 d_R_isWaiting_11 rfl (lv_at hl 1 rfl) ?_
    refine lv_icmp_ge (tgt := 33) S.1 S.2.1 d_R_isWaiting_12 (by decide) (fun h12 => ?_) (fun h12 => ?_)
    · rw [if_pos h12] at hF
      refine lv_iconst (v := 0) S.1 S.2.1 d_R_isWaiting_33 (by decide) ?_
      cases hF
      exact zr_zret S hret hlk (by decide) hS d_R_isWaiting_34 ⟨rfl, hP⟩
    · rw [if_neg h12] at hF
      refine lv_aload_n S.1 S.2.1 d_R_isWaiting_15 rfl (lv_at hl 0 rfl) ?_
      refine lv_iload_n S.1 S.2.1 d_R_isWaiting_16 rfl (lv_at hl 2 rfl) ?_
      by_cases g17 : zOut v3 n
      · rw [if_pos g17] at hF; cases hF
      rw [if_neg g17] at hF
      refine zr_zald S hK hP hk1 rfl 1 rfl g17 d_R_isWaiting_17 ?_
      refine lv_istore S.1 S.2.1 d_R_isWaiting_18 hl (by decide) rfl (fun ls hl => ?_)
      have hl : lv_has ls 5 [(4, .int (st 9 k1 (Int32.toNatClampNeg v3))), (1, .ref (ad (9, k1))), (2, .int v2), (3, .int v3)] := hl
      refine lv_iload S.1 S.2.1 d_R_isWaiting_20 (lv_at hl 0 rfl) ?_
      refine lv_if_eq (tgt := 27) S.1 S.2.1 d_R_isWaiting_22 (by decide) (fun h22 => ?_) (fun h22 => ?_)
      · rw [if_pos h22] at hF
        refine lv_iinc (k := 3) (v := v3 + 1) S.1 S.2.1 d_R_isWaiting_27 hl rfl rfl (by decide) rfl (fun ls hl => ?_)
        have hl : lv_has ls 5 [(3, .int (v3 + 1)), (4, .int (st 9 k1 (Int32.toNatClampNeg v3))), (1, .ref (ad (9, k1))), (2, .int v2)] := hl
        refine lv_goto (tgt := 10) S.1 S.2.1 d_R_isWaiting_30 (by decide) ?_
        exact ih k1 v2 (v3 + 1) hk1 st _ _ _ hP hS (lv_sub hl [2, 3, 0] rfl) hF
      · rw [if_neg h22] at hF
        refine lv_iconst (v := 1) S.1 S.2.1 d_R_isWaiting_25 (by decide) ?_
        cases hF
        exact zr_zret S hret hlk (by decide) hS d_R_isWaiting_26 ⟨rfl, hP⟩

set_option maxHeartbeats 4000000 in
set_option maxRecDepth 1000000 in
theorem C_R_isWaiting {dC : Nat → ClassId} {dI : Nat → Nat → Nat} {cI cZ cR cA : ClassId} {n : Nat} {ad : zK → Nat} {A : Nat → Prop} (hn : 2 ≤ n ∧ n ≤ 6) (hD : zD A (zKs n) ad) (l : Launch) (k0 : Nat) (hk0 : (7, k0) ∈ zKs n) (st : zS) (out : Int32 × zS) (hF : F_R_isWaiting n k0 st = some out) : zC zT (dC, dI) zcl (zty cI cZ cR cA) A l y_R_isWaiting b_R_isWaiting 5 (some .boolean) rm_R_isWaiting [.ref (ad (7, k0))] (fun H => zV (dC, dI) zcl (zKs n) ad (zcE n cI cZ cR cA ad) st H) (fun o H => o = some (.int out.1) ∧ zV (dC, dI) zcl (zKs n) ad (zcE n cI cZ cR cA ad) out.2 H) := by
  refine zC_of (by decide) (Nat.le_of_ble_eq_true rfl) (fun p e s m args below meth c ls S hret hlk hK hP hl => ?_)
  have hS : va_S A s.heap s.heap [] := va_S.rf
  have hl : lv_has ls 5 [(0, .ref (ad (7, k0)))] := hl
  have hP : zV (dC, dI) zcl (zKs n) ad (zcE n cI cZ cR cA ad) st s.heap := hP
  unfold F_R_isWaiting at hF
  refine lv_aload_n S.1 S.2.1 d_R_isWaiting_0 rfl (lv_at hl 0 rfl) ?_
  refine zr_get (v := .ref (ad (9, k0))) S zi_R hK hP hk0 rfl rfl 4 (by decide) zx_45 rfl d_R_isWaiting_1 ?_
  refine lv_astore_n S.1 S.2.1 d_R_isWaiting_4 rfl hl (by decide) rfl (fun ls hl => ?_)
  have hl : lv_has ls 5 [(1, .ref (ad (9, k0))), (0, .ref (ad (7, k0)))] := hl
  refine lv_aload_n S.1 S.2.1 d_R_isWaiting_5 rfl (lv_at hl 0 rfl) ?_
  refine zr_alen (n := n) S hK hP (zk_97 hk0) rfl 1 rfl rfl d_R_isWaiting_6 ?_
  refine lv_istore_n S.1 S.2.1 d_R_isWaiting_7 rfl hl (by decide) rfl (fun ls hl => ?_)
  have hl : lv_has ls 5 [(2, .int (nI n)), (1, .ref (ad (9, k0))), (0, .ref (ad (7, k0)))] := hl
  refine lv_iconst (v := 0) S.1 S.2.1 d_R_isWaiting_8 (by decide) ?_
  refine lv_istore_n S.1 S.2.1 d_R_isWaiting_9 rfl hl (by decide) rfl (fun ls hl => ?_)
  have hl : lv_has ls 5 [(3, .int 0), (2, .int (nI n)), (1, .ref (ad (9, k0))), (0, .ref (ad (7, k0)))] := hl
  exact T_R_isWaiting_L10 hn hD S hret hlk hK out zFuel k0 (nI n) 0 (zk_97 hk0) st _ _ _ hP hS (lv_sub hl [2, 1, 0] rfl) hF

theorem d_R_calmDown_0 : decode b_R_calmDown 0 = .ok (.aload_n 0, 1) := by decide +kernel
theorem d_R_calmDown_1 : decode b_R_calmDown 1 = .ok (.iconst 0, 1) := by decide +kernel
theorem d_R_calmDown_2 : decode b_R_calmDown 2 = .ok (.putfield 65, 3) := by decide +kernel
theorem d_R_calmDown_5 : decode b_R_calmDown 5 = .ok (.aload_n 0, 1) := by decide +kernel
theorem d_R_calmDown_6 : decode b_R_calmDown 6 = .ok (.iconst 0, 1) := by decide +kernel
theorem d_R_calmDown_7 : decode b_R_calmDown 7 = .ok (.putfield 68, 3) := by decide +kernel
theorem d_R_calmDown_10 : decode b_R_calmDown 10 = .ok (.aload_n 0, 1) := by decide +kernel
theorem d_R_calmDown_11 : decode b_R_calmDown 11 = .ok (.iconst 0, 1) := by decide +kernel
theorem d_R_calmDown_12 : decode b_R_calmDown 12 = .ok (.putfield 61, 3) := by decide +kernel
theorem d_R_calmDown_15 : decode b_R_calmDown 15 = .ok (.return_, 1) := by decide +kernel
def F_R_calmDown_s3 (n : Nat) (st : zS) : Option (Int32 × zS) :=
    some (0, st)

def F_R_calmDown_s2 (n : Nat) (k0 : Nat) (st : zS) : Option (Int32 × zS) :=
    F_R_calmDown_s3 n (zs st 7 k0 5 0)

def F_R_calmDown_s1 (n : Nat) (k0 : Nat) (st : zS) : Option (Int32 × zS) :=
    F_R_calmDown_s2 n k0 (zs st 7 k0 4 0)

def F_R_calmDown (n : Nat) (k0 : Nat) (st : zS) : Option (Int32 × zS) :=
    F_R_calmDown_s1 n k0 (zs st 7 k0 3 0)

set_option maxHeartbeats 4000000 in
set_option maxRecDepth 1000000 in
theorem C_R_calmDown {dC : Nat → ClassId} {dI : Nat → Nat → Nat} {cI cZ cR cA : ClassId} {n : Nat} {ad : zK → Nat} {A : Nat → Prop} (hn : 2 ≤ n ∧ n ≤ 6) (hD : zD A (zKs n) ad) (l : Launch) (k0 : Nat) (hk0 : (7, k0) ∈ zKs n) (st : zS) (out : Int32 × zS) (hF : F_R_calmDown n k0 st = some out) : zC zT (dC, dI) zcl (zty cI cZ cR cA) A l y_R_calmDown b_R_calmDown 1 (none) rm_R_calmDown [.ref (ad (7, k0))] (fun H => zV (dC, dI) zcl (zKs n) ad (zcE n cI cZ cR cA ad) st H) (fun o H => o = none ∧ zV (dC, dI) zcl (zKs n) ad (zcE n cI cZ cR cA ad) out.2 H) := by
  refine zC_of (by decide) (Nat.le_of_ble_eq_true rfl) (fun p e s m args below meth c ls S hret hlk hK hP hl => ?_)
  have hS : va_S A s.heap s.heap [] := va_S.rf
  have hl : lv_has ls 1 [(0, .ref (ad (7, k0)))] := hl
  have hP : zV (dC, dI) zcl (zKs n) ad (zcE n cI cZ cR cA ad) st s.heap := hP
  unfold F_R_calmDown at hF
  refine lv_aload_n S.1 S.2.1 d_R_calmDown_0 rfl (lv_at hl 0 rfl) ?_
  refine lv_iconst (v := 0) S.1 S.2.1 d_R_calmDown_1 (by decide) ?_
  refine zr_put (v := 0) S zi_R t_R t_R_ok n_R hK hP hD hS hk0 rfl rfl 8 (by decide) zx_50 rfl rfl rfl (Nat.le_of_ble_eq_true rfl) 3 rfl d_R_calmDown_2 (fun H locs hP hS => ?_)
  replace hF : F_R_calmDown_s1 n k0 (zs st 7 k0 3 0) = some out := hF
  generalize zs st 7 k0 3 0 = st5 at hP hF
  unfold F_R_calmDown_s1 at hF
  refine lv_aload_n S.1 S.2.1 d_R_calmDown_5 rfl (lv_at hl 0 rfl) ?_
  refine lv_iconst (v := 0) S.1 S.2.1 d_R_calmDown_6 (by decide) ?_
  refine zr_put (v := 0) S zi_R t_R t_R_ok n_R hK hP hD hS hk0 rfl rfl 9 (by decide) zx_51 rfl rfl rfl (Nat.le_of_ble_eq_true rfl) 4 rfl d_R_calmDown_7 (fun H locs hP hS => ?_)
  replace hF : F_R_calmDown_s2 n k0 (zs st5 7 k0 4 0) = some out := hF
  generalize zs st5 7 k0 4 0 = st10 at hP hF
  unfold F_R_calmDown_s2 at hF
  refine lv_aload_n S.1 S.2.1 d_R_calmDown_10 rfl (lv_at hl 0 rfl) ?_
  refine lv_iconst (v := 0) S.1 S.2.1 d_R_calmDown_11 (by decide) ?_
  refine zr_put (v := 0) S zi_R t_R t_R_ok n_R hK hP hD hS hk0 rfl rfl 10 (by decide) zx_49 rfl rfl rfl (Nat.le_of_ble_eq_true rfl) 5 rfl d_R_calmDown_12 (fun H locs hP hS => ?_)
  replace hF : F_R_calmDown_s3 n (zs st10 7 k0 5 0) = some out := hF
  generalize zs st10 7 k0 5 0 = st15 at hP hF
  unfold F_R_calmDown_s3 at hF
  cases hF
  exact zr_vret S hret hlk hS d_R_calmDown_15 ⟨rfl, hP⟩

theorem d_D_endIfDone_0 : decode b_D_endIfDone 0 = .ok (.iconst 0, 1) := by decide +kernel
theorem d_D_endIfDone_1 : decode b_D_endIfDone 1 = .ok (.istore_n 2, 1) := by decide +kernel
theorem d_D_endIfDone_2 : decode b_D_endIfDone 2 = .ok (.iload_n 2, 1) := by decide +kernel
theorem d_D_endIfDone_3 : decode b_D_endIfDone 3 = .ok (.iconst 2, 1) := by decide +kernel
theorem d_D_endIfDone_4 : decode b_D_endIfDone 4 = .ok (.if_icmp .ge 97, 3) := by decide +kernel
theorem d_D_endIfDone_7 : decode b_D_endIfDone 7 = .ok (.aload_n 1, 1) := by decide +kernel
theorem d_D_endIfDone_8 : decode b_D_endIfDone 8 = .ok (.getfield 98, 3) := by decide +kernel
theorem d_D_endIfDone_11 : decode b_D_endIfDone 11 = .ok (.ifCond .eq 90, 3) := by decide +kernel
theorem d_D_endIfDone_14 : decode b_D_endIfDone 14 = .ok (.aload_n 1, 1) := by decide +kernel
theorem d_D_endIfDone_15 : decode b_D_endIfDone 15 = .ok (.invokevirtual 184, 3) := by decide +kernel
theorem d_D_endIfDone_18 : decode b_D_endIfDone 18 = .ok (.ifCond .ne 83, 3) := by decide +kernel
theorem d_D_endIfDone_21 : decode b_D_endIfDone 21 = .ok (.aload_n 1, 1) := by decide +kernel
theorem d_D_endIfDone_22 : decode b_D_endIfDone 22 = .ok (.getfield 105, 3) := by decide +kernel
theorem d_D_endIfDone_25 : decode b_D_endIfDone 25 = .ok (.ifCond .eq 10, 3) := by decide +kernel
theorem d_D_endIfDone_28 : decode b_D_endIfDone 28 = .ok (.aload_n 1, 1) := by decide +kernel
theorem d_D_endIfDone_29 : decode b_D_endIfDone 29 = .ok (.getfield 95, 3) := by decide +kernel
theorem d_D_endIfDone_32 : decode b_D_endIfDone 32 = .ok (.goto 4, 3) := by decide +kernel
theorem d_D_endIfDone_35 : decode b_D_endIfDone 35 = .ok (.iconst (-1), 1) := by decide +kernel
theorem d_D_endIfDone_36 : decode b_D_endIfDone 36 = .ok (.istore_n 3, 1) := by decide +kernel
theorem d_D_endIfDone_37 : decode b_D_endIfDone 37 = .ok (.aload_n 1, 1) := by decide +kernel
theorem d_D_endIfDone_38 : decode b_D_endIfDone 38 = .ok (.getfield 102, 3) := by decide +kernel
theorem d_D_endIfDone_41 : decode b_D_endIfDone 41 = .ok (.ifCond .ne 10, 3) := by decide +kernel
theorem d_D_endIfDone_44 : decode b_D_endIfDone 44 = .ok (.aload_n 1, 1) := by decide +kernel
theorem d_D_endIfDone_45 : decode b_D_endIfDone 45 = .ok (.sipush 10000, 3) := by decide +kernel
theorem d_D_endIfDone_48 : decode b_D_endIfDone 48 = .ok (.putfield 92, 3) := by decide +kernel
theorem d_D_endIfDone_51 : decode b_D_endIfDone 51 = .ok (.aload_n 1, 1) := by decide +kernel
theorem d_D_endIfDone_52 : decode b_D_endIfDone 52 = .ok (.invokevirtual 172, 3) := by decide +kernel
theorem d_D_endIfDone_55 : decode b_D_endIfDone 55 = .ok (.ifCond .eq 31, 3) := by decide +kernel
theorem d_D_endIfDone_58 : decode b_D_endIfDone 58 = .ok (.aload_n 1, 1) := by decide +kernel
theorem d_D_endIfDone_59 : decode b_D_endIfDone 59 = .ok (.invokevirtual 187, 3) := by decide +kernel
theorem d_D_endIfDone_62 : decode b_D_endIfDone 62 = .ok (.iload_n 3, 1) := by decide +kernel
theorem d_D_endIfDone_63 : decode b_D_endIfDone 63 = .ok (.iconst (-1), 1) := by decide +kernel
theorem d_D_endIfDone_64 : decode b_D_endIfDone 64 = .ok (.if_icmp .eq 13, 3) := by decide +kernel
theorem d_D_endIfDone_67 : decode b_D_endIfDone 67 = .ok (.aload_n 0, 1) := by decide +kernel
theorem d_D_endIfDone_68 : decode b_D_endIfDone 68 = .ok (.getfield 39, 3) := by decide +kernel
theorem d_D_endIfDone_71 : decode b_D_endIfDone 71 = .ok (.aload_n 1, 1) := by decide +kernel
theorem d_D_endIfDone_72 : decode b_D_endIfDone 72 = .ok (.iload_n 3, 1) := by decide +kernel
theorem d_D_endIfDone_73 : decode b_D_endIfDone 73 = .ok (.iconst 2, 1) := by decide +kernel
theorem d_D_endIfDone_74 : decode b_D_endIfDone 74 = .ok (.invokevirtual 137, 3) := by decide +kernel
theorem d_D_endIfDone_77 : decode b_D_endIfDone 77 = .ok (.aload_n 0, 1) := by decide +kernel
theorem d_D_endIfDone_78 : decode b_D_endIfDone 78 = .ok (.aload_n 1, 1) := by decide +kernel
theorem d_D_endIfDone_79 : decode b_D_endIfDone 79 = .ok (.iload_n 3, 1) := by decide +kernel
theorem d_D_endIfDone_80 : decode b_D_endIfDone 80 = .ok (.invokevirtual 175, 3) := by decide +kernel
theorem d_D_endIfDone_83 : decode b_D_endIfDone 83 = .ok (.goto 12, 3) := by decide +kernel
theorem d_D_endIfDone_86 : decode b_D_endIfDone 86 = .ok (.aload_n 1, 1) := by decide +kernel
theorem d_D_endIfDone_87 : decode b_D_endIfDone 87 = .ok (.invokevirtual 178, 3) := by decide +kernel
theorem d_D_endIfDone_90 : decode b_D_endIfDone 90 = .ok (.aload_n 0, 1) := by decide +kernel
theorem d_D_endIfDone_91 : decode b_D_endIfDone 91 = .ok (.aload_n 1, 1) := by decide +kernel
theorem d_D_endIfDone_92 : decode b_D_endIfDone 92 = .ok (.invokevirtual 181, 3) := by decide +kernel
theorem d_D_endIfDone_95 : decode b_D_endIfDone 95 = .ok (.iinc 2 1, 3) := by decide +kernel
theorem d_D_endIfDone_98 : decode b_D_endIfDone 98 = .ok (.goto (-96), 3) := by decide +kernel
theorem d_D_endIfDone_101 : decode b_D_endIfDone 101 = .ok (.return_, 1) := by decide +kernel
def F_D_endIfDone_L95 (n : Nat) (c2 : Nat → Int32 → zS → Option (Int32 × zS)) (k1 : Nat) (v2 : Int32) (st : zS) : Option (Int32 × zS) :=
    c2 k1 (v2 + 1) st

def F_D_endIfDone_L77_s1 (n : Nat) (c2 : Nat → Int32 → zS → Option (Int32 × zS)) (k1 : Nat) (v2 : Int32) (st : zS) : Option (Int32 × zS) :=
    F_D_endIfDone_L95 n c2 k1 v2 st

def F_D_endIfDone_L77 (n : Nat) (c2 : Nat → Int32 → zS → Option (Int32 × zS)) (k1 : Nat) (v2 : Int32) (v3 : Int32) (st : zS) : Option (Int32 × zS) :=
    (F_D_updateAllBut n k1 v3 st).bind (fun u => F_D_endIfDone_L77_s1 n c2 k1 v2 u.2)

def F_D_endIfDone_L51_s3 (n : Nat) (c2 : Nat → Int32 → zS → Option (Int32 × zS)) (k1 : Nat) (v2 : Int32) (st : zS) : Option (Int32 × zS) :=
    F_D_endIfDone_L95 n c2 k1 v2 st

def F_D_endIfDone_L51_s2 (n : Nat) (c2 : Nat → Int32 → zS → Option (Int32 × zS)) (k1 : Nat) (v2 : Int32) (st : zS) : Option (Int32 × zS) :=
    (F_D_askAll n k1 st).bind (fun u => F_D_endIfDone_L51_s3 n c2 k1 v2 u.2)

def F_D_endIfDone_L51_s5 (n : Nat) (c2 : Nat → Int32 → zS → Option (Int32 × zS)) (k1 : Nat) (v2 : Int32) (v3 : Int32) (st : zS) : Option (Int32 × zS) :=
    F_D_endIfDone_L77 n c2 k1 v2 v3 st

def F_D_endIfDone_L51_s4 (n : Nat) (c2 : Nat → Int32 → zS → Option (Int32 × zS)) (k1 : Nat) (v2 : Int32) (v3 : Int32) (st : zS) : Option (Int32 × zS) :=
    if v3 = (-1) then (F_D_endIfDone_L77 n c2 k1 v2 v3 st) else ((F_L_send n k1 v3 2 st).bind (fun u => F_D_endIfDone_L51_s5 n c2 k1 v2 v3 u.2))

def F_D_endIfDone_L51_s1 (n : Nat) (c2 : Nat → Int32 → zS → Option (Int32 × zS)) (k1 : Nat) (v2 : Int32) (v3 : Int32) (t0 : Int32) (st : zS) : Option (Int32 × zS) :=
    if t0 = 0 then ((F_R_measureAnew n k1 st).bind (fun u => F_D_endIfDone_L51_s2 n c2 k1 v2 u.2)) else ((F_R_calmDown n k1 st).bind (fun u => F_D_endIfDone_L51_s4 n c2 k1 v2 v3 u.2))

def F_D_endIfDone_L51 (n : Nat) (c2 : Nat → Int32 → zS → Option (Int32 × zS)) (k1 : Nat) (v2 : Int32) (v3 : Int32) (st : zS) : Option (Int32 × zS) :=
    (F_R_takeBest n k1 st).bind (fun u => F_D_endIfDone_L51_s1 n c2 k1 v2 v3 u.1 u.2)

def F_D_endIfDone_L36_s1 (n : Nat) (c2 : Nat → Int32 → zS → Option (Int32 × zS)) (v3 : Int32) (k1 : Nat) (v2 : Int32) (st : zS) : Option (Int32 × zS) :=
    F_D_endIfDone_L51 n c2 k1 v2 v3 st

def F_D_endIfDone_L36 (n : Nat) (c2 : Nat → Int32 → zS → Option (Int32 × zS)) (k1 : Nat) (v2 : Int32) (t0 : Int32) (st : zS) : Option (Int32 × zS) :=
    if (st 7 k1 5) = 0 then (F_D_endIfDone_L36_s1 n c2 t0 k1 v2 (zs st 7 k1 1 10000)) else (F_D_endIfDone_L51 n c2 k1 v2 t0 st)

def F_D_endIfDone_L2_s1 (n : Nat) (c2 : Nat → Int32 → zS → Option (Int32 × zS)) (k1 : Nat) (v2 : Int32) (t0 : Int32) (st : zS) : Option (Int32 × zS) :=
    if t0 = 0 then (if (st 7 k1 4) = 0 then (F_D_endIfDone_L36 n c2 k1 v2 (-1) st) else (F_D_endIfDone_L36 n c2 k1 v2 (st 7 k1 2) st)) else (some (0, st))

def F_D_endIfDone_L2 (n : Nat) : Nat → Nat → Int32 → zS → Option (Int32 × zS)
  | 0, _, _, _ => none
  | f + 1, k1, v2, st =>
    if 2 ≤ v2 then (some (0, st)) else (if (st 7 k1 3) = 0 then (some (0, st)) else ((F_R_isWaiting n k1 st).bind (fun u => F_D_endIfDone_L2_s1 n (F_D_endIfDone_L2 n f) k1 v2 u.1 u.2)))

def F_D_endIfDone (n : Nat) (k1 : Nat) (st : zS) : Option (Int32 × zS) :=
    F_D_endIfDone_L2 n zFuel k1 0 st

set_option maxHeartbeats 4000000 in
set_option maxRecDepth 1000000 in
theorem T_D_endIfDone_L95 {dC : Nat → ClassId} {dI : Nat → Nat → Nat} {cI cZ cR cA : ClassId} {n : Nat} {ad : zK → Nat} {A : Nat → Prop} (hn : 2 ≤ n ∧ n ≤ 6) (hD : zD A (zKs n) ad) {p : Program} {l : Launch} {e : Env} {s : State} {m : MethodId} {args : Array Value} {below : List Frame} {meth : Method} {c : Code} (S : CallFix p m c b_D_endIfDone 4 s args zT N_D) (hret : meth.sig.returnType = none) (hlk : meth.locks = false) (hK : va_K (dC, dI) zcl (zty cI cZ cR cA) s) (out : Int32 × zS) (c2 : Nat → Int32 → zS → Option (Int32 × zS)) (hc2 : ∀ (k1 : Nat) (v2 : Int32) (hk1 : (7, k1) ∈ zKs n) (st : zS) (H : Heap) (locs : List Loc) (ls : Array Slot), zV (dC, dI) zcl (zKs n) ad (zcE n cI cZ cR cA ad) st H → va_S A s.heap H locs → lv_has ls 4 [(0, .ref (ad (0, 0))), (1, .ref (ad (7, k1))), (2, .int v2)] → c2 k1 v2 st = some out → W p l e rm_D_endIfDone s m args below meth c H locs 0 0 (zQ below A (fun o H => o = none ∧ zV (dC, dI) zcl (zKs n) ad (zcE n cI cZ cR cA ad) out.2 H) args s) (F0 m 2 ls [])) (k1 : Nat) (v2 : Int32) (hk1 : (7, k1) ∈ zKs n) (st : zS) (H : Heap) (locs : List Loc) (ls : Array Slot) (hP : zV (dC, dI) zcl (zKs n) ad (zcE n cI cZ cR cA ad) st H) (hS : va_S A s.heap H locs) (hl : lv_has ls 4 [(0, .ref (ad (0, 0))), (1, .ref (ad (7, k1))), (2, .int v2)]) (hF : F_D_endIfDone_L95 n c2 k1 v2 st = some out) : W p l e rm_D_endIfDone s m args below meth c H locs 0 0 (zQ below A (fun o H => o = none ∧ zV (dC, dI) zcl (zKs n) ad (zcE n cI cZ cR cA ad) out.2 H) args s) (F0 m 95 ls []) := by
  unfold F_D_endIfDone_L95 at hF
  refine lv_iinc (k := 2) (v := v2 + 1) S.1 S.2.1 d_D_endIfDone_95 hl rfl rfl (by decide) rfl (fun ls hl => ?_)
  have hl : lv_has ls 4 [(2, .int (v2 + 1)), (0, .ref (ad (0, 0))), (1, .ref (ad (7, k1)))] := hl
  refine lv_goto (tgt := 2) S.1 S.2.1 d_D_endIfDone_98 (by decide) ?_
  exact hc2 k1 (v2 + 1) hk1 st _ _ _ hP hS (lv_sub hl [1, 2, 0] rfl) hF

set_option maxHeartbeats 4000000 in
set_option maxRecDepth 1000000 in
theorem T_D_endIfDone_L77 {dC : Nat → ClassId} {dI : Nat → Nat → Nat} {cI cZ cR cA : ClassId} {n : Nat} {ad : zK → Nat} {A : Nat → Prop} (hn : 2 ≤ n ∧ n ≤ 6) (hD : zD A (zKs n) ad) {p : Program} {l : Launch} {e : Env} {s : State} {m : MethodId} {args : Array Value} {below : List Frame} {meth : Method} {c : Code} (S : CallFix p m c b_D_endIfDone 4 s args zT N_D) (hret : meth.sig.returnType = none) (hlk : meth.locks = false) (hK : va_K (dC, dI) zcl (zty cI cZ cR cA) s) (out : Int32 × zS) (c2 : Nat → Int32 → zS → Option (Int32 × zS)) (hc2 : ∀ (k1 : Nat) (v2 : Int32) (hk1 : (7, k1) ∈ zKs n) (st : zS) (H : Heap) (locs : List Loc) (ls : Array Slot), zV (dC, dI) zcl (zKs n) ad (zcE n cI cZ cR cA ad) st H → va_S A s.heap H locs → lv_has ls 4 [(0, .ref (ad (0, 0))), (1, .ref (ad (7, k1))), (2, .int v2)] → c2 k1 v2 st = some out → W p l e rm_D_endIfDone s m args below meth c H locs 0 0 (zQ below A (fun o H => o = none ∧ zV (dC, dI) zcl (zKs n) ad (zcE n cI cZ cR cA ad) out.2 H) args s) (F0 m 2 ls [])) (k1 : Nat) (v2 : Int32) (v3 : Int32) (hk1 : (7, k1) ∈ zKs n) (st : zS) (H : Heap) (locs : List Loc) (ls : Array Slot) (hP : zV (dC, dI) zcl (zKs n) ad (zcE n cI cZ cR cA ad) st H) (hS : va_S A s.heap H locs) (hl : lv_has ls 4 [(0, .ref (ad (0, 0))), (1, .ref (ad (7, k1))), (2, .int v2), (3, .int v3)]) (hF : F_D_endIfDone_L77 n c2 k1 v2 v3 st = some out) : W p l e rm_D_endIfDone s m args below meth c H locs 0 0 (zQ below A (fun o H => o = none ∧ zV (dC, dI) zcl (zKs n) ad (zcE n cI cZ cR cA ad) out.2 H) args s) (F0 m 77 ls []) := by
  unfold F_D_endIfDone_L77 at hF
  refine lv_aload_n S.1 S.2.1 d_D_endIfDone_77 rfl (lv_at hl 0 rfl) ?_
  refine lv_aload_n S.1 S.2.1 d_D_endIfDone_78 rfl (lv_at hl 1 rfl) ?_
  refine lv_iload_n S.1 S.2.1 d_D_endIfDone_79 rfl (lv_at hl 3 rfl) ?_
  cases hc80 : F_D_updateAllBut n k1 v3 st with
  | none => rw [hc80] at hF; cases hF
  | some u80 =>
    obtain ⟨r80, st80⟩ := u80
    rw [hc80] at hF
    replace hF := zbind hF
    refine zr_callV (rest := []) S zT_good (C_D_updateAllBut hn hD l k1 v3 hk1 st (r80, st80) hc80) zn_D_updateAllBut zx_72 ⟨rfl, rfl⟩ ⟨Nat.le_of_ble_eq_true rfl, Nat.le_of_ble_eq_true rfl⟩ ⟨Nat.zero_le _, Nat.zero_le _⟩ hK (zr_recv hK hP zk_0 rfl rfl) hP hl.1 (Nat.le_of_ble_eq_true rfl) hS (fun _ h => h) d_D_endIfDone_80 rfl (fun o H locs hpo _ _ hS => ?_)
    obtain ⟨rfl, hP⟩ := hpo
    refine W.eq (g2 := F0 m 83 ls []) rfl ?_
    replace hF : F_D_endIfDone_L77_s1 n c2 k1 v2 st80 = some out := hF
    replace hP : zV (dC, dI) zcl (zKs n) ad (zcE n cI cZ cR cA ad) st80 H := hP
    unfold F_D_endIfDone_L77_s1 at hF
    refine lv_goto (tgt := 95) S.1 S.2.1 d_D_endIfDone_83 (by decide) ?_
    exact T_D_endIfDone_L95 hn hD S hret hlk hK out c2 hc2 k1 v2 hk1 st80 _ _ _ hP hS (lv_sub hl [0, 1, 2] rfl) hF

set_option maxHeartbeats 4000000 in
set_option maxRecDepth 1000000 in
theorem T_D_endIfDone_L51 {dC : Nat → ClassId} {dI : Nat → Nat → Nat} {cI cZ cR cA : ClassId} {n : Nat} {ad : zK → Nat} {A : Nat → Prop} (hn : 2 ≤ n ∧ n ≤ 6) (hD : zD A (zKs n) ad) {p : Program} {l : Launch} {e : Env} {s : State} {m : MethodId} {args : Array Value} {below : List Frame} {meth : Method} {c : Code} (S : CallFix p m c b_D_endIfDone 4 s args zT N_D) (hret : meth.sig.returnType = none) (hlk : meth.locks = false) (hK : va_K (dC, dI) zcl (zty cI cZ cR cA) s) (out : Int32 × zS) (c2 : Nat → Int32 → zS → Option (Int32 × zS)) (hc2 : ∀ (k1 : Nat) (v2 : Int32) (hk1 : (7, k1) ∈ zKs n) (st : zS) (H : Heap) (locs : List Loc) (ls : Array Slot), zV (dC, dI) zcl (zKs n) ad (zcE n cI cZ cR cA ad) st H → va_S A s.heap H locs → lv_has ls 4 [(0, .ref (ad (0, 0))), (1, .ref (ad (7, k1))), (2, .int v2)] → c2 k1 v2 st = some out → W p l e rm_D_endIfDone s m args below meth c H locs 0 0 (zQ below A (fun o H => o = none ∧ zV (dC, dI) zcl (zKs n) ad (zcE n cI cZ cR cA ad) out.2 H) args s) (F0 m 2 ls [])) (k1 : Nat) (v2 : Int32) (v3 : Int32) (hk1 : (7, k1) ∈ zKs n) (st : zS) (H : Heap) (locs : List Loc) (ls : Array Slot) (hP : zV (dC, dI) zcl (zKs n) ad (zcE n cI cZ cR cA ad) st H) (hS : va_S A s.heap H locs) (hl : lv_has ls 4 [(0, .ref (ad (0, 0))), (1, .ref (ad (7, k1))), (2, .int v2), (3, .int v3)]) (hF : F_D_endIfDone_L51 n c2 k1 v2 v3 st = some out) : W p l e rm_D_endIfDone s m args below meth c H locs 0 0 (zQ below A (fun o H => o = none ∧ zV (dC, dI) zcl (zKs n) ad (zcE n cI cZ cR cA ad) out.2 H) args s) (F0 m 51 ls []) := by
  unfold F_D_endIfDone_L51 at hF
  refine lv_aload_n S.1 S.2.1 d_D_endIfDone_51 rfl (lv_at hl 1 rfl) ?_
  cases hc52 : F_R_takeBest n k1 st with
  | none => rw [hc52] at hF; cases hF
  | some u52 =>
    obtain ⟨r52, st52⟩ := u52
    rw [hc52] at hF
    replace hF := zbind hF
    refine zr_callV (rest := []) S zT_good (C_R_takeBest hn hD l k1 hk1 st (r52, st52) hc52) zn_R_takeBest zx_71 ⟨rfl, rfl⟩ ⟨Nat.le_of_ble_eq_true rfl, Nat.le_of_ble_eq_true rfl⟩ ⟨Nat.zero_le _, Nat.zero_le _⟩ hK (zr_recv hK hP hk1 rfl rfl) hP hl.1 (Nat.le_of_ble_eq_true rfl) hS (fun _ h => h) d_D_endIfDone_52 rfl (fun o H locs hpo _ _ hS => ?_)
    obtain ⟨rfl, hP⟩ := hpo
    refine W.eq (g2 := F0 m 55 ls [.int r52]) rfl ?_
    replace hF : F_D_endIfDone_L51_s1 n c2 k1 v2 v3 r52 st52 = some out := hF
    replace hP : zV (dC, dI) zcl (zKs n) ad (zcE n cI cZ cR cA ad) st52 H := hP
    unfold F_D_endIfDone_L51_s1 at hF
    refine lv_if_eq (tgt := 86) S.1 S.2.1 d_D_endIfDone_55 (by decide) (fun h55 => ?_) (fun h55 => ?_)
    · rw [if_pos h55] at hF
      refine lv_aload_n S.1 S.2.1 d_D_endIfDone_86 rfl (lv_at hl 1 rfl) ?_
      cases hc87 : F_R_measureAnew n k1 st52 with
      | none => rw [hc87] at hF; cases hF
      | some u87 =>
        obtain ⟨r87, st87⟩ := u87
        rw [hc87] at hF
        replace hF := zbind hF
        refine zr_callV (rest := []) S zT_good (C_R_measureAnew hn hD l k1 hk1 st52 (r87, st87) hc87) zn_R_measureAnew zx_73 ⟨rfl, rfl⟩ ⟨Nat.le_of_ble_eq_true rfl, Nat.le_of_ble_eq_true rfl⟩ ⟨Nat.zero_le _, Nat.zero_le _⟩ hK (zr_recv hK hP hk1 rfl rfl) hP hl.1 (Nat.le_of_ble_eq_true rfl) hS (fun _ h => h) d_D_endIfDone_87 rfl (fun o H locs hpo _ _ hS => ?_)
        obtain ⟨rfl, hP⟩ := hpo
        refine W.eq (g2 := F0 m 90 ls []) rfl ?_
        replace hF : F_D_endIfDone_L51_s2 n c2 k1 v2 st87 = some out := hF
        replace hP : zV (dC, dI) zcl (zKs n) ad (zcE n cI cZ cR cA ad) st87 H := hP
        unfold F_D_endIfDone_L51_s2 at hF
        refine lv_aload_n S.1 S.2.1 d_D_endIfDone_90 rfl (lv_at hl 0 rfl) ?_
        refine lv_aload_n S.1 S.2.1 d_D_endIfDone_91 rfl (lv_at hl 1 rfl) ?_
        cases hc92 : F_D_askAll n k1 st87 with
        | none => rw [hc92] at hF; cases hF
        | some u92 =>
          obtain ⟨r92, st92⟩ := u92
          rw [hc92] at hF
          replace hF := zbind hF
          refine zr_callV (rest := []) S zT_good (C_D_askAll hn hD l k1 hk1 st87 (r92, st92) hc92) zn_D_askAll zx_74 ⟨rfl, rfl⟩ ⟨Nat.le_of_ble_eq_true rfl, Nat.le_of_ble_eq_true rfl⟩ ⟨Nat.zero_le _, Nat.zero_le _⟩ hK (zr_recv hK hP zk_0 rfl rfl) hP hl.1 (Nat.le_of_ble_eq_true rfl) hS (fun _ h => h) d_D_endIfDone_92 rfl (fun o H locs hpo _ _ hS => ?_)
          obtain ⟨rfl, hP⟩ := hpo
          refine W.eq (g2 := F0 m 95 ls []) rfl ?_
          replace hF : F_D_endIfDone_L51_s3 n c2 k1 v2 st92 = some out := hF
          replace hP : zV (dC, dI) zcl (zKs n) ad (zcE n cI cZ cR cA ad) st92 H := hP
          unfold F_D_endIfDone_L51_s3 at hF
          exact T_D_endIfDone_L95 hn hD S hret hlk hK out c2 hc2 k1 v2 hk1 st92 _ _ _ hP hS (lv_sub hl [0, 1, 2] rfl) hF
    · rw [if_neg h55] at hF
      refine lv_aload_n S.1 S.2.1 d_D_endIfDone_58 rfl (lv_at hl 1 rfl) ?_
      cases hc59 : F_R_calmDown n k1 st52 with
      | none => rw [hc59] at hF; cases hF
      | some u59 =>
        obtain ⟨r59, st59⟩ := u59
        rw [hc59] at hF
        replace hF := zbind hF
        refine zr_callV (rest := []) S zT_good (C_R_calmDown hn hD l k1 hk1 st52 (r59, st59) hc59) zn_R_calmDown zx_76 ⟨rfl, rfl⟩ ⟨Nat.le_of_ble_eq_true rfl, Nat.le_of_ble_eq_true rfl⟩ ⟨Nat.zero_le _, Nat.zero_le _⟩ hK (zr_recv hK hP hk1 rfl rfl) hP hl.1 (Nat.le_of_ble_eq_true rfl) hS (fun _ h => h) d_D_endIfDone_59 rfl (fun o H locs hpo _ _ hS => ?_)
        obtain ⟨rfl, hP⟩ := hpo
        refine W.eq (g2 := F0 m 62 ls []) rfl ?_
        replace hF : F_D_endIfDone_L51_s4 n c2 k1 v2 v3 st59 = some out := hF
        replace hP : zV (dC, dI) zcl (zKs n) ad (zcE n cI cZ cR cA ad) st59 H := hP
        unfold F_D_endIfDone_L51_s4 at hF
        refine lv_iload_n S.1 S.2.1 d_D_endIfDone_62 rfl (lv_at hl 3 rfl) ?_
        refine lv_iconst (v := (-1)) S.1 S.2.1 d_D_endIfDone_63 (by decide) ?_
        refine lv_icmp_eq (tgt := 77) S.1 S.2.1 d_D_endIfDone_64 (by decide) (fun h64 => ?_) (fun h64 => ?_)
        · rw [if_pos h64] at hF
          exact T_D_endIfDone_L77 hn hD S hret hlk hK out c2 hc2 k1 v2 v3 hk1 st59 _ _ _ hP hS (lv_sub hl [0, 1, 2, 3] rfl) hF
        · rw [if_neg h64] at hF
          refine lv_aload_n S.1 S.2.1 d_D_endIfDone_67 rfl (lv_at hl 0 rfl) ?_
          refine zr_get (v := .ref (ad (3, 0))) S zi_D hK hP zk_0 rfl rfl 3 (by decide) zx_11 rfl d_D_endIfDone_68 ?_
          refine lv_aload_n S.1 S.2.1 d_D_endIfDone_71 rfl (lv_at hl 1 rfl) ?_
          refine lv_iload_n S.1 S.2.1 d_D_endIfDone_72 rfl (lv_at hl 3 rfl) ?_
          refine lv_iconst (v := 2) S.1 S.2.1 d_D_endIfDone_73 (by decide) ?_
          cases hc74 : F_L_send n k1 v3 2 st59 with
          | none => rw [hc74] at hF; cases hF
          | some u74 =>
            obtain ⟨r74, st74⟩ := u74
            rw [hc74] at hF
            replace hF := zbind hF
            refine zr_callV (rest := []) S zT_good (C_L_send hn hD l k1 v3 2 hk1 st59 (r74, st74) hc74) zn_L_send zx_60 ⟨rfl, rfl⟩ ⟨Nat.le_of_ble_eq_true rfl, Nat.le_of_ble_eq_true rfl⟩ ⟨Nat.zero_le _, Nat.zero_le _⟩ hK (zr_recv hK hP zk_3 rfl rfl) hP hl.1 (Nat.le_of_ble_eq_true rfl) hS (fun _ h => h) d_D_endIfDone_74 rfl (fun o H locs hpo _ _ hS => ?_)
            obtain ⟨rfl, hP⟩ := hpo
            refine W.eq (g2 := F0 m 77 ls []) rfl ?_
            replace hF : F_D_endIfDone_L51_s5 n c2 k1 v2 v3 st74 = some out := hF
            replace hP : zV (dC, dI) zcl (zKs n) ad (zcE n cI cZ cR cA ad) st74 H := hP
            unfold F_D_endIfDone_L51_s5 at hF
            exact T_D_endIfDone_L77 hn hD S hret hlk hK out c2 hc2 k1 v2 v3 hk1 st74 _ _ _ hP hS (lv_sub hl [0, 1, 2, 3] rfl) hF

set_option maxHeartbeats 4000000 in
set_option maxRecDepth 1000000 in
theorem T_D_endIfDone_L36 {dC : Nat → ClassId} {dI : Nat → Nat → Nat} {cI cZ cR cA : ClassId} {n : Nat} {ad : zK → Nat} {A : Nat → Prop} (hn : 2 ≤ n ∧ n ≤ 6) (hD : zD A (zKs n) ad) {p : Program} {l : Launch} {e : Env} {s : State} {m : MethodId} {args : Array Value} {below : List Frame} {meth : Method} {c : Code} (S : CallFix p m c b_D_endIfDone 4 s args zT N_D) (hret : meth.sig.returnType = none) (hlk : meth.locks = false) (hK : va_K (dC, dI) zcl (zty cI cZ cR cA) s) (out : Int32 × zS) (c2 : Nat → Int32 → zS → Option (Int32 × zS)) (hc2 : ∀ (k1 : Nat) (v2 : Int32) (hk1 : (7, k1) ∈ zKs n) (st : zS) (H : Heap) (locs : List Loc) (ls : Array Slot), zV (dC, dI) zcl (zKs n) ad (zcE n cI cZ cR cA ad) st H → va_S A s.heap H locs → lv_has ls 4 [(0, .ref (ad (0, 0))), (1, .ref (ad (7, k1))), (2, .int v2)] → c2 k1 v2 st = some out → W p l e rm_D_endIfDone s m args below meth c H locs 0 0 (zQ below A (fun o H => o = none ∧ zV (dC, dI) zcl (zKs n) ad (zcE n cI cZ cR cA ad) out.2 H) args s) (F0 m 2 ls [])) (k1 : Nat) (v2 : Int32) (t0 : Int32) (hk1 : (7, k1) ∈ zKs n) (st : zS) (H : Heap) (locs : List Loc) (ls : Array Slot) (hP : zV (dC, dI) zcl (zKs n) ad (zcE n cI cZ cR cA ad) st H) (hS : va_S A s.heap H locs) (hl : lv_has ls 4 [(0, .ref (ad (0, 0))), (1, .ref (ad (7, k1))), (2, .int v2)]) (hF : F_D_endIfDone_L36 n c2 k1 v2 t0 st = some out) : W p l e rm_D_endIfDone s m args below meth c H locs 0 0 (zQ below A (fun o H => o = none ∧ zV (dC, dI) zcl (zKs n) ad (zcE n cI cZ cR cA ad) out.2 H) args s) (F0 m 36 ls [.int t0]) := by
  unfold F_D_endIfDone_L36 at hF
  refine lv_istore_n S.1 S.2.1 d_D_endIfDone_36 rfl hl (by decide) rfl (fun ls hl => ?_)
  have hl : lv_has ls 4 [(3, .int t0), (0, .ref (ad (0, 0))), (1, .ref (ad (7, k1))), (2, .int v2)] := hl
  refine lv_aload_n S.1 S.2.1 d_D_endIfDone_37 rfl (lv_at hl 2 rfl) ?_
  refine zr_get (v := .int (st 7 k1 5)) S zi_R hK hP hk1 rfl rfl 10 (by decide) zx_2 rfl d_D_endIfDone_38 ?_
  refine lv_if_ne (tgt := 51) S.1 S.2.1 d_D_endIfDone_41 (by decide) (fun h41 => ?_) (fun h41 => ?_)
  · rw [if_neg h41] at hF
    exact T_D_endIfDone_L51 hn hD S hret hlk hK out c2 hc2 k1 v2 t0 hk1 st _ _ _ hP hS (lv_sub hl [1, 2, 3, 0] rfl) hF
  · rw [if_pos h41] at hF
    refine lv_aload_n S.1 S.2.1 d_D_endIfDone_44 rfl (lv_at hl 2 rfl) ?_
    refine lv_sipush (v := 10000) S.1 S.2.1 d_D_endIfDone_45 (by decide) ?_
    refine zr_put (v := 10000) S zi_R t_R t_R_ok n_R hK hP hD hS hk1 rfl rfl 6 (by decide) zx_15 rfl rfl rfl (Nat.le_of_ble_eq_true rfl) 1 rfl d_D_endIfDone_48 (fun H locs hP hS => ?_)
    replace hF : F_D_endIfDone_L36_s1 n c2 t0 k1 v2 (zs st 7 k1 1 10000) = some out := hF
    generalize zs st 7 k1 1 10000 = st51 at hP hF
    unfold F_D_endIfDone_L36_s1 at hF
    exact T_D_endIfDone_L51 hn hD S hret hlk hK out c2 hc2 k1 v2 t0 hk1 st51 _ _ _ hP hS (lv_sub hl [1, 2, 3, 0] rfl) hF

set_option maxHeartbeats 4000000 in
set_option maxRecDepth 1000000 in
theorem T_D_endIfDone_L2 {dC : Nat → ClassId} {dI : Nat → Nat → Nat} {cI cZ cR cA : ClassId} {n : Nat} {ad : zK → Nat} {A : Nat → Prop} (hn : 2 ≤ n ∧ n ≤ 6) (hD : zD A (zKs n) ad) {p : Program} {l : Launch} {e : Env} {s : State} {m : MethodId} {args : Array Value} {below : List Frame} {meth : Method} {c : Code} (S : CallFix p m c b_D_endIfDone 4 s args zT N_D) (hret : meth.sig.returnType = none) (hlk : meth.locks = false) (hK : va_K (dC, dI) zcl (zty cI cZ cR cA) s) (out : Int32 × zS) : ∀ (fu : Nat) (k1 : Nat) (v2 : Int32) (hk1 : (7, k1) ∈ zKs n) (st : zS) (H : Heap) (locs : List Loc) (ls : Array Slot) (hP : zV (dC, dI) zcl (zKs n) ad (zcE n cI cZ cR cA ad) st H) (hS : va_S A s.heap H locs) (hl : lv_has ls 4 [(0, .ref (ad (0, 0))), (1, .ref (ad (7, k1))), (2, .int v2)]) (hF : F_D_endIfDone_L2 n fu k1 v2 st = some out), W p l e rm_D_endIfDone s m args below meth c H locs 0 0 (zQ below A (fun o H => o = none ∧ zV (dC, dI) zcl (zKs n) ad (zcE n cI cZ cR cA ad) out.2 H) args s) (F0 m 2 ls []) := by
  intro fu
  induction fu with
  | zero => intro k1 v2 hk1 st H locs ls hP hS hl hF; rw [F_D_endIfDone_L2] at hF; cases hF
  | succ f ih =>
    intro k1 v2 hk1 st H locs ls hP hS hl hF
    rw [F_D_endIfDone_L2] at hF
    refine lv_iload_n S.1 S.2.1 d_D_endIfDone_2 rfl (lv_at hl 2 rfl) ?_
    refine lv_iconst (v := 2) S.1 S.2.1 d_D_endIfDone_3 (by decide) ?_
    refine lv_icmp_ge (tgt := 101) S.1 S.2.1 d_D_endIfDone_4 (by decide) (fun h4 => ?_) (fun h4 => ?_)
    · rw [if_pos h4] at hF
      cases hF
      exact zr_vret S hret hlk hS d_D_endIfDone_101 ⟨rfl, hP⟩
    · rw [if_neg h4] at hF
      refine lv_aload_n S.1 S.2.1 d_D_endIfDone_7 rfl (lv_at hl 1 rfl) ?_
      refine zr_get (v := .int (st 7 k1 3)) S zi_R hK hP hk1 rfl rfl 8 (by decide) zx_17 rfl d_D_endIfDone_8 ?_
      refine lv_if_eq (tgt := 101) S.1 S.2.1 d_D_endIfDone_11 (by decide) (fun h11 => ?_) (fun h11 => ?_)
      · rw [if_pos h11] at hF
        cases hF
        exact zr_vret S hret hlk hS d_D_endIfDone_101 ⟨rfl, hP⟩
      · rw [if_neg h11] at hF
        refine lv_aload_n S.1 S.2.1 d_D_endIfDone_14 rfl (lv_at hl 1 rfl) ?_
        cases hc15 : F_R_isWaiting n k1 st with
        | none => rw [hc15] at hF; cases hF
        | some u15 =>
          obtain ⟨r15, st15⟩ := u15
          rw [hc15] at hF
          replace hF := zbind hF
          refine zr_callV (rest := []) S zT_good (C_R_isWaiting hn hD l k1 hk1 st (r15, st15) hc15) zn_R_isWaiting zx_75 ⟨rfl, rfl⟩ ⟨Nat.le_of_ble_eq_true rfl, Nat.le_of_ble_eq_true rfl⟩ ⟨Nat.zero_le _, Nat.zero_le _⟩ hK (zr_recv hK hP hk1 rfl rfl) hP hl.1 (Nat.le_of_ble_eq_true rfl) hS (fun _ h => h) d_D_endIfDone_15 rfl (fun o H locs hpo _ _ hS => ?_)
          obtain ⟨rfl, hP⟩ := hpo
          refine W.eq (g2 := F0 m 18 ls [.int r15]) rfl ?_
          replace hF : F_D_endIfDone_L2_s1 n (F_D_endIfDone_L2 n f) k1 v2 r15 st15 = some out := hF
          replace hP : zV (dC, dI) zcl (zKs n) ad (zcE n cI cZ cR cA ad) st15 H := hP
          unfold F_D_endIfDone_L2_s1 at hF
          refine lv_if_ne (tgt := 101) S.1 S.2.1 d_D_endIfDone_18 (by decide) (fun h18 => ?_) (fun h18 => ?_)
          · rw [if_neg h18] at hF
            cases hF
            exact zr_vret S hret hlk hS d_D_endIfDone_101 ⟨rfl, hP⟩
          · rw [if_pos h18] at hF
            refine lv_aload_n S.1 S.2.1 d_D_endIfDone_21 rfl (lv_at hl 1 rfl) ?_
            refine zr_get (v := .int (st15 7 k1 4)) S zi_R hK hP hk1 rfl rfl 9 (by decide) zx_3 rfl d_D_endIfDone_22 ?_
            refine lv_if_eq (tgt := 35) S.1 S.2.1 d_D_endIfDone_25 (by decide) (fun h25 => ?_) (fun h25 => ?_)
            · rw [if_pos h25] at hF
              refine lv_iconst (v := (-1)) S.1 S.2.1 d_D_endIfDone_35 (by decide) ?_
              exact T_D_endIfDone_L36 hn hD S hret hlk hK out (F_D_endIfDone_L2 n f) ih k1 v2 (-1) hk1 st15 _ _ _ hP hS (lv_sub hl [0, 1, 2] rfl) hF
            · rw [if_neg h25] at hF
              refine lv_aload_n S.1 S.2.1 d_D_endIfDone_28 rfl (lv_at hl 1 rfl) ?_
              refine zr_get (v := .int (st15 7 k1 2)) S zi_R hK hP hk1 rfl rfl 7 (by decide) zx_16 rfl d_D_endIfDone_29 ?_
              refine lv_goto (tgt := 36) S.1 S.2.1 d_D_endIfDone_32 (by decide) ?_
              exact T_D_endIfDone_L36 hn hD S hret hlk hK out (F_D_endIfDone_L2 n f) ih k1 v2 (st15 7 k1 2) hk1 st15 _ _ _ hP hS (lv_sub hl [0, 1, 2] rfl) hF

set_option maxHeartbeats 4000000 in
set_option maxRecDepth 1000000 in
theorem C_D_endIfDone {dC : Nat → ClassId} {dI : Nat → Nat → Nat} {cI cZ cR cA : ClassId} {n : Nat} {ad : zK → Nat} {A : Nat → Prop} (hn : 2 ≤ n ∧ n ≤ 6) (hD : zD A (zKs n) ad) (l : Launch) (k1 : Nat) (hk1 : (7, k1) ∈ zKs n) (st : zS) (out : Int32 × zS) (hF : F_D_endIfDone n k1 st = some out) : zC zT (dC, dI) zcl (zty cI cZ cR cA) A l y_D_endIfDone b_D_endIfDone 4 (none) rm_D_endIfDone [.ref (ad (0, 0)), .ref (ad (7, k1))] (fun H => zV (dC, dI) zcl (zKs n) ad (zcE n cI cZ cR cA ad) st H) (fun o H => o = none ∧ zV (dC, dI) zcl (zKs n) ad (zcE n cI cZ cR cA ad) out.2 H) := by
  refine zC_of (by decide) (Nat.le_of_ble_eq_true rfl) (fun p e s m args below meth c ls S hret hlk hK hP hl => ?_)
  have hS : va_S A s.heap s.heap [] := va_S.rf
  have hl : lv_has ls 4 [(0, .ref (ad (0, 0))), (1, .ref (ad (7, k1)))] := hl
  have hP : zV (dC, dI) zcl (zKs n) ad (zcE n cI cZ cR cA ad) st s.heap := hP
  unfold F_D_endIfDone at hF
  refine lv_iconst (v := 0) S.1 S.2.1 d_D_endIfDone_0 (by decide) ?_
  refine lv_istore_n S.1 S.2.1 d_D_endIfDone_1 rfl hl (by decide) rfl (fun ls hl => ?_)
  have hl : lv_has ls 4 [(2, .int 0), (0, .ref (ad (0, 0))), (1, .ref (ad (7, k1)))] := hl
  exact T_D_endIfDone_L2 hn hD S hret hlk hK out zFuel k1 0 hk1 st _ _ _ hP hS (lv_sub hl [1, 2, 0] rfl) hF

