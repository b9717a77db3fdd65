/-! Names, tables, the worlds of the program (zcE over zKs n) and of the reference (zmE over zKm), the one list of words zT. Printed by wip/whole/emit.py. -/
def N_D : String := "DiffusingRoutes"
def N_R : String := "DiffusingRoutes$Route"
def N_L : String := "DiffusingRoutes$Mail"
def N_M : String := "DiffusingRoutesModel"
def FT_D : u_T := fun k => match k with
  | 0 => ("DiffusingRoutes", "routers", "I", true)
  | 1 => ("DiffusingRoutes", "costs", "[[I", true)
  | 2 => ("DiffusingRoutes", "routes", "[LDiffusingRoutes$Route;", true)
  | 3 => ("DiffusingRoutes", "mail", "LDiffusingRoutes$Mail;", true)
  | _ => ("DiffusingRoutes", "links", "I", false)
def t_D : Nat → FieldType := fun k => match k with
  | 0 => .int
  | 1 => .array (.array .int)
  | 2 => .array (.object "DiffusingRoutes$Route")
  | 3 => .object "DiffusingRoutes$Mail"
  | _ => .int
theorem n_D : ∀ a, a < 5 → ∀ b, b < 5 → a ≠ b → (FT_D a).2.1 ≠ (FT_D b).2.1 := by decide +kernel
theorem t_D_ok : ∀ k, k < 5 → parseFieldDescriptor (FT_D k).2.2.1 = some (t_D k) := by decide +kernel
def FT_R : u_T := fun k => match k with
  | 0 => ("DiffusingRoutes$Route", "router", "I", true)
  | 1 => ("DiffusingRoutes$Route", "target", "I", true)
  | 2 => ("DiffusingRoutes$Route", "costs", "[I", true)
  | 3 => ("DiffusingRoutes$Route", "told", "[I", true)
  | 4 => ("DiffusingRoutes$Route", "awaited", "[Z", true)
  | 5 => ("DiffusingRoutes$Route", "distance", "I", false)
  | 6 => ("DiffusingRoutes$Route", "limit", "I", false)
  | 7 => ("DiffusingRoutes$Route", "next", "I", false)
  | 8 => ("DiffusingRoutes$Route", "busy", "Z", false)
  | 9 => ("DiffusingRoutes$Route", "asked", "Z", false)
  | _ => ("DiffusingRoutes$Route", "grown", "Z", false)
def t_R : Nat → FieldType := fun k => match k with
  | 0 => .int
  | 1 => .int
  | 2 => .array .int
  | 3 => .array .int
  | 4 => .array .boolean
  | 5 => .int
  | 6 => .int
  | 7 => .int
  | 8 => .boolean
  | 9 => .boolean
  | _ => .boolean
theorem n_R : ∀ a, a < 11 → ∀ b, b < 11 → a ≠ b → (FT_R a).2.1 ≠ (FT_R b).2.1 := by decide +kernel
theorem t_R_ok : ∀ k, k < 11 → parseFieldDescriptor (FT_R k).2.2.1 = some (t_R k) := by decide +kernel
def FT_L : u_T := fun k => match k with
  | 0 => ("DiffusingRoutes$Mail", "row", "[I", true)
  | 1 => ("DiffusingRoutes$Mail", "sent", "[I", true)
  | 2 => ("DiffusingRoutes$Mail", "first", "I", false)
  | _ => ("DiffusingRoutes$Mail", "end", "I", false)
def t_L : Nat → FieldType := fun k => match k with
  | 0 => .array .int
  | 1 => .array .int
  | 2 => .int
  | _ => .int
theorem n_L : ∀ a, a < 4 → ∀ b, b < 4 → a ≠ b → (FT_L a).2.1 ≠ (FT_L b).2.1 := by decide +kernel
theorem t_L_ok : ∀ k, k < 4 → parseFieldDescriptor (FT_L k).2.2.1 = some (t_L k) := by decide +kernel
def FT_M : u_T := fun k => match k with
  | 0 => ("DiffusingRoutesModel", "routers", "I", true)
  | 1 => ("DiffusingRoutesModel", "costs", "[I", true)
  | 2 => ("DiffusingRoutesModel", "distances", "[I", true)
  | 3 => ("DiffusingRoutesModel", "limits", "[I", true)
  | 4 => ("DiffusingRoutesModel", "nexts", "[I", true)
  | 5 => ("DiffusingRoutesModel", "busy", "[Z", true)
  | 6 => ("DiffusingRoutesModel", "asked", "[Z", true)
  | 7 => ("DiffusingRoutesModel", "grown", "[Z", true)
  | 8 => ("DiffusingRoutesModel", "tolds", "[I", true)
  | 9 => ("DiffusingRoutesModel", "waiting", "[Z", true)
  | 10 => ("DiffusingRoutesModel", "flying", "I", false)
  | 11 => ("DiffusingRoutesModel", "from", "[I", true)
  | 12 => ("DiffusingRoutesModel", "to", "[I", true)
  | 13 => ("DiffusingRoutesModel", "kinds", "[I", true)
  | 14 => ("DiffusingRoutesModel", "targets", "[I", true)
  | 15 => ("DiffusingRoutesModel", "carried", "[I", true)
  | _ => ("DiffusingRoutesModel", "sent", "[I", true)
def t_M : Nat → FieldType := fun k => match k with
  | 0 => .int
  | 1 => .array .int
  | 2 => .array .int
  | 3 => .array .int
  | 4 => .array .int
  | 5 => .array .boolean
  | 6 => .array .boolean
  | 7 => .array .boolean
  | 8 => .array .int
  | 9 => .array .boolean
  | 10 => .int
  | 11 => .array .int
  | 12 => .array .int
  | 13 => .array .int
  | 14 => .array .int
  | 15 => .array .int
  | _ => .array .int
theorem n_M : ∀ a, a < 17 → ∀ b, b < 17 → a ≠ b → (FT_M a).2.1 ≠ (FT_M b).2.1 := by decide +kernel
theorem t_M_ok : ∀ k, k < 17 → parseFieldDescriptor (FT_M k).2.2.1 = some (t_M k) := by decide +kernel
abbrev zcl : List vw_C := [(N_D, FT_D, 5), (N_R, FT_R, 11), (N_L, FT_L, 4), (N_M, FT_M, 17)]
abbrev zty (cI cZ cR cA : ClassId) : List (ClassId × FieldType) := [(cI, .int), (cZ, .boolean), (cR, .object N_R), (cA, .array .int)]
def zRt (n : Nat) : List Nat := (List.range 36).filter (fun k => decide (k / 6 < n ∧ k % 6 < n))
def zKs (n : Nat) : List zK := [(0, 0), (1, 0), (2, 0), (3, 0), (4, 0), (5, 0)] ++ (List.range n).map (fun r => (6, r)) ++ (zRt n).map (fun k => (7, k)) ++ (zRt n).map (fun k => (8, k)) ++ (zRt n).map (fun k => (9, k))
def zKm : List zK := (List.range 16).map (fun a => (a, 0))
abbrev zrefs (f : Nat → Option Nat) : (Nat → Int32) ⊕ (Nat → Int64) ⊕ (Nat → UInt32) ⊕ (Nat → UInt64) ⊕ (Nat → Option Nat) := .inr (.inr (.inr (.inr f)))
def zcE (n : Nat) (cI cZ cR cA : ClassId) (ad : zK → Nat) (j : zK) (f : Nat → Int32) : va_E := match j.1 with
  | 0 => .inr (0, [.int (nI n), .ref (ad (1, 0)), .ref (ad (2, 0)), .ref (ad (3, 0)), .int (f 0)])
  | 1 => .inl (cA, n, .inr (.inr (.inr (.inr (fun r => some (ad (6, r)))))))
  | 2 => .inl (cR, n * n, .inr (.inr (.inr (.inr (fun i => some (ad (7, 6 * (i / n) + i % n)))))))
  | 3 => .inr (2, [.ref (ad (4, 0)), .ref (ad (5, 0)), .int (f 0), .int (f 1)])
  | 4 => .inl (cI, 1024, .inl f)
  | 5 => .inl (cI, 3, .inl f)
  | 6 => .inl (cI, n, .inl f)
  | 7 => .inr (1, [.int (nI (j.2 / 6)), .int (nI (j.2 % 6)), .ref (ad (6, j.2 / 6)), .ref (ad (8, j.2)), .ref (ad (9, j.2)), .int (f 0), .int (f 1), .int (f 2), .int (f 3), .int (f 4), .int (f 5)])
  | 8 => .inl (cI, n, .inl f)
  | _ => .inl (cZ, n, .inl f)
def zmE (n : Nat) (cI cZ : ClassId) (ad : zK → Nat) (j : zK) (f : Nat → Int32) : va_E := match j.1 with
  | 0 => .inr (3, [.int (nI n), .ref (ad (1, 0)), .ref (ad (2, 0)), .ref (ad (3, 0)), .ref (ad (4, 0)), .ref (ad (5, 0)), .ref (ad (6, 0)), .ref (ad (7, 0)), .ref (ad (8, 0)), .ref (ad (9, 0)), .int (f 0), .ref (ad (10, 0)), .ref (ad (11, 0)), .ref (ad (12, 0)), .ref (ad (13, 0)), .ref (ad (14, 0)), .ref (ad (15, 0))])
  | 1 => .inl (cI, 36, .inl f)
  | 2 => .inl (cI, 36, .inl f)
  | 3 => .inl (cI, 36, .inl f)
  | 4 => .inl (cI, 36, .inl f)
  | 5 => .inl (cZ, 36, .inl f)
  | 6 => .inl (cZ, 36, .inl f)
  | 7 => .inl (cZ, 36, .inl f)
  | 8 => .inl (cI, 216, .inl f)
  | 9 => .inl (cZ, 216, .inl f)
  | 10 => .inl (cI, 1024, .inl f)
  | 11 => .inl (cI, 1024, .inl f)
  | 12 => .inl (cI, 1024, .inl f)
  | 13 => .inl (cI, 1024, .inl f)
  | 14 => .inl (cI, 1024, .inl f)
  | _ => .inl (cI, 3, .inl f)
theorem zk_0 {n : Nat} : (((0 : Nat), (0 : Nat)) : zK) ∈ zKs n := by simp [zKs]
theorem zk_1 {n : Nat} : (((1 : Nat), (0 : Nat)) : zK) ∈ zKs n := by simp [zKs]
theorem zk_2 {n : Nat} : (((2 : Nat), (0 : Nat)) : zK) ∈ zKs n := by simp [zKs]
theorem zk_3 {n : Nat} : (((3 : Nat), (0 : Nat)) : zK) ∈ zKs n := by simp [zKs]
theorem zk_4 {n : Nat} : (((4 : Nat), (0 : Nat)) : zK) ∈ zKs n := by simp [zKs]
theorem zk_5 {n : Nat} : (((5 : Nat), (0 : Nat)) : zK) ∈ zKs n := by simp [zKs]
theorem zkm_0 : (((0 : Nat), (0 : Nat)) : zK) ∈ zKm := by simp [zKm]
theorem zkm_1 : (((1 : Nat), (0 : Nat)) : zK) ∈ zKm := by simp [zKm]
theorem zkm_2 : (((2 : Nat), (0 : Nat)) : zK) ∈ zKm := by simp [zKm]
theorem zkm_3 : (((3 : Nat), (0 : Nat)) : zK) ∈ zKm := by simp [zKm]
theorem zkm_4 : (((4 : Nat), (0 : Nat)) : zK) ∈ zKm := by simp [zKm]
theorem zkm_5 : (((5 : Nat), (0 : Nat)) : zK) ∈ zKm := by simp [zKm]
theorem zkm_6 : (((6 : Nat), (0 : Nat)) : zK) ∈ zKm := by simp [zKm]
theorem zkm_7 : (((7 : Nat), (0 : Nat)) : zK) ∈ zKm := by simp [zKm]
theorem zkm_8 : (((8 : Nat), (0 : Nat)) : zK) ∈ zKm := by simp [zKm]
theorem zkm_9 : (((9 : Nat), (0 : Nat)) : zK) ∈ zKm := by simp [zKm]
theorem zkm_10 : (((10 : Nat), (0 : Nat)) : zK) ∈ zKm := by simp [zKm]
theorem zkm_11 : (((11 : Nat), (0 : Nat)) : zK) ∈ zKm := by simp [zKm]
theorem zkm_12 : (((12 : Nat), (0 : Nat)) : zK) ∈ zKm := by simp [zKm]
theorem zkm_13 : (((13 : Nat), (0 : Nat)) : zK) ∈ zKm := by simp [zKm]
theorem zkm_14 : (((14 : Nat), (0 : Nat)) : zK) ∈ zKm := by simp [zKm]
theorem zkm_15 : (((15 : Nat), (0 : Nat)) : zK) ∈ zKm := by simp [zKm]
theorem zk_rt {n k : Nat} : k ∈ zRt n ↔ k < 36 ∧ k / 6 < n ∧ k % 6 < n := by simp [zRt]
theorem zk_6i {n r : Nat} : (((6 : Nat), r) : zK) ∈ zKs n ↔ r < n := by simp [zKs]
theorem zk_7i {n k : Nat} : (((7 : Nat), k) : zK) ∈ zKs n ↔ k < 36 ∧ k / 6 < n ∧ k % 6 < n := by simp [zKs, zk_rt]
theorem zk_8i {n k : Nat} : (((8 : Nat), k) : zK) ∈ zKs n ↔ k < 36 ∧ k / 6 < n ∧ k % 6 < n := by simp [zKs, zk_rt]
theorem zk_9i {n k : Nat} : (((9 : Nat), k) : zK) ∈ zKs n ↔ k < 36 ∧ k / 6 < n ∧ k % 6 < n := by simp [zKs, zk_rt]
theorem zk_67 {n k : Nat} (h : (((7 : Nat), k) : zK) ∈ zKs n) : (((6 : Nat), k / 6) : zK) ∈ zKs n := zk_6i.mpr (zk_7i.mp h).2.1
theorem zk_87 {n k : Nat} (h : (((7 : Nat), k) : zK) ∈ zKs n) : (((8 : Nat), k) : zK) ∈ zKs n := zk_8i.mpr (zk_7i.mp h)
theorem zk_97 {n k : Nat} (h : (((7 : Nat), k) : zK) ∈ zKs n) : (((9 : Nat), k) : zK) ∈ zKs n := zk_9i.mpr (zk_7i.mp h)
theorem zk_6 {n : Nat} {x : Int32} (g : ¬ zOut x n) : (((6 : Nat), x.toNatClampNeg) : zK) ∈ zKs n := zk_6i.mpr (Nat.not_le.mp fun q => g (Or.inr q))
theorem zk_7n {n i : Nat} (hn : 2 ≤ n ∧ n ≤ 6) (h : i < n * n) : (((7 : Nat), 6 * (i / n) + i % n) : zK) ∈ zKs n := by
  have h1 : i / n < n := Nat.div_lt_of_lt_mul h
  have h2 : i % n < n := Nat.mod_lt _ (by omega)
  refine zk_7i.mpr ⟨by omega, ?_, ?_⟩ <;> omega
theorem zk_7 {n : Nat} {x : Int32} (hn : 2 ≤ n ∧ n ≤ 6) (g : ¬ zOut x (n * n)) : (((7 : Nat), 6 * (x.toNatClampNeg / n) + x.toNatClampNeg % n) : zK) ∈ zKs n := zk_7n hn (Nat.not_le.mp fun q => g (Or.inr q))
abbrev b_D_isRouter : ByteArray := prog_1_method_17_code
def y_D_isRouter : MethodName := ⟨N_D, "isRouter", "(I)Z"⟩
def rm_D_isRouter : Room := { frames := 0, cells := 0, slots := 0, locals := 0 }
abbrev b_L_size : ByteArray := prog_2_method_7_code
def y_L_size : MethodName := ⟨N_L, "size", "()I"⟩
def rm_L_size : Room := { frames := 0, cells := 0, slots := 0, locals := 0 }
abbrev b_D_route : ByteArray := prog_1_method_20_code
def y_D_route : MethodName := ⟨N_D, "route", "(II)LDiffusingRoutes$Route;"⟩
def rm_D_route : Room := { frames := 0, cells := 0, slots := 0, locals := 0 }
abbrev b_L_send : ByteArray := prog_2_method_8_code
def y_L_send : MethodName := ⟨N_L, "send", "(LDiffusingRoutes$Route;II)V"⟩
def rm_L_send : Room := { frames := 1, cells := 0, slots := 0, locals := 68 }
abbrev b_D_greet : ByteArray := prog_1_method_22_code
def y_D_greet : MethodName := ⟨N_D, "greet", "(II)V"⟩
def rm_D_greet : Room := { frames := 2, cells := 0, slots := 0, locals := 91 }
abbrev b_R_isOwn : ByteArray := prog_3_method_2_code
def y_R_isOwn : MethodName := ⟨N_R, "isOwn", "()Z"⟩
def rm_R_isOwn : Room := { frames := 0, cells := 0, slots := 0, locals := 0 }
abbrev b_R_through : ByteArray := prog_3_method_5_code
def y_R_through : MethodName := ⟨N_R, "through", "(I)I"⟩
def rm_R_through : Room := { frames := 1, cells := 0, slots := 0, locals := 21 }
abbrev b_R_growIfFarther : ByteArray := prog_3_method_10_code
def y_R_growIfFarther : MethodName := ⟨N_R, "growIfFarther", "(I)V"⟩
def rm_R_growIfFarther : Room := { frames := 2, cells := 0, slots := 0, locals := 42 }
abbrev b_R_least : ByteArray := prog_3_method_7_code
def y_R_least : MethodName := ⟨N_R, "least", "()I"⟩
def rm_R_least : Room := { frames := 2, cells := 0, slots := 0, locals := 42 }
abbrev b_R_best : ByteArray := prog_3_method_8_code
def y_R_best : MethodName := ⟨N_R, "best", "(I)I"⟩
def rm_R_best : Room := { frames := 2, cells := 0, slots := 0, locals := 42 }
abbrev b_R_takeBest : ByteArray := prog_3_method_6_code
def y_R_takeBest : MethodName := ⟨N_R, "takeBest", "()Z"⟩
def rm_R_takeBest : Room := { frames := 3, cells := 0, slots := 0, locals := 66 }
abbrev b_R_isNeighbour : ByteArray := prog_3_method_3_code
def y_R_isNeighbour : MethodName := ⟨N_R, "isNeighbour", "(I)Z"⟩
def rm_R_isNeighbour : Room := { frames := 0, cells := 0, slots := 0, locals := 0 }
abbrev b_D_updateAllBut : ByteArray := prog_1_method_30_code
def y_D_updateAllBut : MethodName := ⟨N_D, "updateAllBut", "(LDiffusingRoutes$Route;I)V"⟩
def rm_D_updateAllBut : Room := { frames := 2, cells := 0, slots := 0, locals := 91 }
abbrev b_R_measureAnew : ByteArray := prog_3_method_9_code
def y_R_measureAnew : MethodName := ⟨N_R, "measureAnew", "()V"⟩
def rm_R_measureAnew : Room := { frames := 2, cells := 0, slots := 0, locals := 42 }
abbrev b_D_askAll : ByteArray := prog_1_method_29_code
def y_D_askAll : MethodName := ⟨N_D, "askAll", "(LDiffusingRoutes$Route;)V"⟩
def rm_D_askAll : Room := { frames := 2, cells := 0, slots := 0, locals := 91 }
abbrev b_D_look : ByteArray := prog_1_method_27_code
def y_D_look : MethodName := ⟨N_D, "look", "(LDiffusingRoutes$Route;I)V"⟩
def rm_D_look : Room := { frames := 4, cells := 0, slots := 0, locals := 114 }
abbrev b_R_isWaiting : ByteArray := prog_3_method_4_code
def y_R_isWaiting : MethodName := ⟨N_R, "isWaiting", "()Z"⟩
def rm_R_isWaiting : Room := { frames := 0, cells := 0, slots := 0, locals := 0 }
abbrev b_R_calmDown : ByteArray := prog_3_method_11_code
def y_R_calmDown : MethodName := ⟨N_R, "calmDown", "()V"⟩
def rm_R_calmDown : Room := { frames := 0, cells := 0, slots := 0, locals := 0 }
abbrev b_D_endIfDone : ByteArray := prog_1_method_28_code
def y_D_endIfDone : MethodName := ⟨N_D, "endIfDone", "(LDiffusingRoutes$Route;)V"⟩
def rm_D_endIfDone : Room := { frames := 4, cells := 0, slots := 0, locals := 114 }
abbrev b_D_weighAgain : ByteArray := prog_1_method_23_code
def y_D_weighAgain : MethodName := ⟨N_D, "weighAgain", "(II)V"⟩
def rm_D_weighAgain : Room := { frames := 5, cells := 0, slots := 0, locals := 137 }
abbrev b_D_connect : ByteArray := prog_1_method_2_code
def y_D_connect : MethodName := ⟨N_D, "connect", "(III)I"⟩
def rm_D_connect : Room := { frames := 6, cells := 0, slots := 0, locals := 161 }
abbrev b_D_isLink : ByteArray := prog_1_method_19_code
def y_D_isLink : MethodName := ⟨N_D, "isLink", "(II)Z"⟩
def rm_D_isLink : Room := { frames := 1, cells := 0, slots := 0, locals := 21 }
abbrev b_L_senderOf : ByteArray := prog_2_method_2_code
def y_L_senderOf : MethodName := ⟨N_L, "senderOf", "(I)I"⟩
def rm_L_senderOf : Room := { frames := 0, cells := 0, slots := 0, locals := 0 }
abbrev b_L_receiverOf : ByteArray := prog_2_method_3_code
def y_L_receiverOf : MethodName := ⟨N_L, "receiverOf", "(I)I"⟩
def rm_L_receiverOf : Room := { frames := 0, cells := 0, slots := 0, locals := 0 }
abbrev b_L_isFromTo : ByteArray := prog_2_method_9_code
def y_L_isFromTo : MethodName := ⟨N_L, "isFromTo", "(III)Z"⟩
def rm_L_isFromTo : Room := { frames := 1, cells := 0, slots := 0, locals := 20 }
abbrev b_L_drop : ByteArray := prog_2_method_13_code
def y_L_drop : MethodName := ⟨N_L, "drop", "(II)I"⟩
def rm_L_drop : Room := { frames := 2, cells := 0, slots := 0, locals := 43 }
abbrev b_R_forget : ByteArray := prog_3_method_12_code
def y_R_forget : MethodName := ⟨N_R, "forget", "(I)V"⟩
def rm_R_forget : Room := { frames := 0, cells := 0, slots := 0, locals := 0 }
abbrev b_D_lose : ByteArray := prog_1_method_24_code
def y_D_lose : MethodName := ⟨N_D, "lose", "(II)V"⟩
def rm_D_lose : Room := { frames := 5, cells := 0, slots := 0, locals := 137 }
abbrev b_D_cut : ByteArray := prog_1_method_3_code
def y_D_cut : MethodName := ⟨N_D, "cut", "(II)I"⟩
def rm_D_cut : Room := { frames := 6, cells := 0, slots := 0, locals := 161 }
abbrev b_L_find : ByteArray := prog_2_method_11_code
def y_L_find : MethodName := ⟨N_L, "find", "(III)I"⟩
def rm_L_find : Room := { frames := 2, cells := 0, slots := 0, locals := 43 }
abbrev b_L_take : ByteArray := prog_2_method_12_code
def y_L_take : MethodName := ⟨N_L, "take", "(I)I"⟩
def rm_L_take : Room := { frames := 1, cells := 0, slots := 0, locals := 68 }
abbrev b_L_kindOf : ByteArray := prog_2_method_4_code
def y_L_kindOf : MethodName := ⟨N_L, "kindOf", "(I)I"⟩
def rm_L_kindOf : Room := { frames := 0, cells := 0, slots := 0, locals := 0 }
abbrev b_L_targetOf : ByteArray := prog_2_method_5_code
def y_L_targetOf : MethodName := ⟨N_L, "targetOf", "(I)I"⟩
def rm_L_targetOf : Room := { frames := 0, cells := 0, slots := 0, locals := 0 }
abbrev b_L_distanceOf : ByteArray := prog_2_method_6_code
def y_L_distanceOf : MethodName := ⟨N_L, "distanceOf", "(I)I"⟩
def rm_L_distanceOf : Room := { frames := 0, cells := 0, slots := 0, locals := 0 }
abbrev b_D_hear : ByteArray := prog_1_method_26_code
def y_D_hear : MethodName := ⟨N_D, "hear", "(LDiffusingRoutes$Route;II)V"⟩
def rm_D_hear : Room := { frames := 5, cells := 0, slots := 0, locals := 137 }
abbrev b_D_bring : ByteArray := prog_1_method_25_code
def y_D_bring : MethodName := ⟨N_D, "bring", "(I)I"⟩
def rm_D_bring : Room := { frames := 6, cells := 0, slots := 0, locals := 160 }
abbrev b_D_deliver : ByteArray := prog_1_method_4_code
def y_D_deliver : MethodName := ⟨N_D, "deliver", "(II)I"⟩
def rm_D_deliver : Room := { frames := 7, cells := 0, slots := 0, locals := 185 }
abbrev b_D_run : ByteArray := prog_1_method_5_code
def y_D_run : MethodName := ⟨N_D, "run", "(I)I"⟩
def rm_D_run : Room := { frames := 7, cells := 0, slots := 0, locals := 185 }
abbrev b_D_cost : ByteArray := prog_1_method_6_code
def y_D_cost : MethodName := ⟨N_D, "cost", "(II)I"⟩
def rm_D_cost : Room := { frames := 2, cells := 0, slots := 0, locals := 43 }
abbrev b_D_isRoute : ByteArray := prog_1_method_18_code
def y_D_isRoute : MethodName := ⟨N_D, "isRoute", "(II)Z"⟩
def rm_D_isRoute : Room := { frames := 1, cells := 0, slots := 0, locals := 21 }
abbrev b_D_distance : ByteArray := prog_1_method_7_code
def y_D_distance : MethodName := ⟨N_D, "distance", "(II)I"⟩
def rm_D_distance : Room := { frames := 2, cells := 0, slots := 0, locals := 43 }
abbrev b_D_limit : ByteArray := prog_1_method_8_code
def y_D_limit : MethodName := ⟨N_D, "limit", "(II)I"⟩
def rm_D_limit : Room := { frames := 2, cells := 0, slots := 0, locals := 43 }
abbrev b_D_next : ByteArray := prog_1_method_9_code
def y_D_next : MethodName := ⟨N_D, "next", "(II)I"⟩
def rm_D_next : Room := { frames := 2, cells := 0, slots := 0, locals := 43 }
abbrev b_D_state : ByteArray := prog_1_method_10_code
def y_D_state : MethodName := ⟨N_D, "state", "(II)I"⟩
def rm_D_state : Room := { frames := 2, cells := 0, slots := 0, locals := 43 }
abbrev b_D_told : ByteArray := prog_1_method_11_code
def y_D_told : MethodName := ⟨N_D, "told", "(III)I"⟩
def rm_D_told : Room := { frames := 2, cells := 0, slots := 0, locals := 43 }
abbrev b_D_waits : ByteArray := prog_1_method_12_code
def y_D_waits : MethodName := ⟨N_D, "waits", "(III)Z"⟩
def rm_D_waits : Room := { frames := 2, cells := 0, slots := 0, locals := 43 }
abbrev b_L_count : ByteArray := prog_2_method_10_code
def y_L_count : MethodName := ⟨N_L, "count", "(II)I"⟩
def rm_L_count : Room := { frames := 2, cells := 0, slots := 0, locals := 43 }
abbrev b_D_flight : ByteArray := prog_1_method_13_code
def y_D_flight : MethodName := ⟨N_D, "flight", "(II)I"⟩
def rm_D_flight : Room := { frames := 3, cells := 0, slots := 0, locals := 67 }
abbrev b_D_message : ByteArray := prog_1_method_14_code
def y_D_message : MethodName := ⟨N_D, "message", "(IIII)I"⟩
def rm_D_message : Room := { frames := 3, cells := 0, slots := 0, locals := 68 }
abbrev b_D_hops : ByteArray := prog_1_method_15_code
def y_D_hops : MethodName := ⟨N_D, "hops", "(II)I"⟩
def rm_D_hops : Room := { frames := 2, cells := 0, slots := 0, locals := 43 }
abbrev b_D_countBusy : ByteArray := prog_1_method_21_code
def y_D_countBusy : MethodName := ⟨N_D, "countBusy", "()I"⟩
def rm_D_countBusy : Room := { frames := 0, cells := 0, slots := 0, locals := 0 }
abbrev b_D_total : ByteArray := prog_1_method_16_code
def y_D_total : MethodName := ⟨N_D, "total", "(I)I"⟩
def rm_D_total : Room := { frames := 1, cells := 0, slots := 0, locals := 25 }
abbrev b_M_isRouter : ByteArray := prog_5_method_2_code
def y_M_isRouter : MethodName := ⟨N_M, "isRouter", "(I)Z"⟩
def rm_M_isRouter : Room := { frames := 0, cells := 0, slots := 0, locals := 0 }
abbrev b_M_isLink : ByteArray := prog_5_method_3_code
def y_M_isLink : MethodName := ⟨N_M, "isLink", "(II)Z"⟩
def rm_M_isLink : Room := { frames := 1, cells := 0, slots := 0, locals := 21 }
abbrev b_M_send : ByteArray := prog_5_method_4_code
def y_M_send : MethodName := ⟨N_M, "send", "(IIII)V"⟩
def rm_M_send : Room := { frames := 0, cells := 0, slots := 0, locals := 0 }
abbrev b_M_tellAll : ByteArray := prog_5_method_5_code
def y_M_tellAll : MethodName := ⟨N_M, "tellAll", "(IIII)I"⟩
def rm_M_tellAll : Room := { frames := 1, cells := 0, slots := 0, locals := 24 }
abbrev b_M_takeOut : ByteArray := prog_5_method_6_code
def y_M_takeOut : MethodName := ⟨N_M, "takeOut", "(I)V"⟩
def rm_M_takeOut : Room := { frames := 0, cells := 0, slots := 0, locals := 0 }
abbrev b_M_placeOf : ByteArray := prog_5_method_7_code
def y_M_placeOf : MethodName := ⟨N_M, "placeOf", "(III)I"⟩
def rm_M_placeOf : Room := { frames := 0, cells := 0, slots := 0, locals := 0 }
abbrev b_M_through : ByteArray := prog_5_method_8_code
def y_M_through : MethodName := ⟨N_M, "through", "(III)I"⟩
def rm_M_through : Room := { frames := 0, cells := 0, slots := 0, locals := 0 }
abbrev b_M_least : ByteArray := prog_5_method_9_code
def y_M_least : MethodName := ⟨N_M, "least", "(II)I"⟩
def rm_M_least : Room := { frames := 1, cells := 0, slots := 0, locals := 24 }
abbrev b_M_isSure : ByteArray := prog_5_method_10_code
def y_M_isSure : MethodName := ⟨N_M, "isSure", "(IIII)Z"⟩
def rm_M_isSure : Room := { frames := 1, cells := 0, slots := 0, locals := 24 }
abbrev b_M_isFine : ByteArray := prog_5_method_11_code
def y_M_isFine : MethodName := ⟨N_M, "isFine", "(II)Z"⟩
def rm_M_isFine : Room := { frames := 2, cells := 0, slots := 0, locals := 49 }
abbrev b_M_settle : ByteArray := prog_5_method_12_code
def y_M_settle : MethodName := ⟨N_M, "settle", "(II)V"⟩
def rm_M_settle : Room := { frames := 2, cells := 0, slots := 0, locals := 49 }
abbrev b_M_askAll : ByteArray := prog_5_method_13_code
def y_M_askAll : MethodName := ⟨N_M, "askAll", "(II)Z"⟩
def rm_M_askAll : Room := { frames := 2, cells := 0, slots := 0, locals := 50 }
abbrev b_M_end : ByteArray := prog_5_method_15_code
def y_M_end : MethodName := ⟨N_M, "end", "(II)V"⟩
def rm_M_end : Room := { frames := 3, cells := 0, slots := 0, locals := 75 }
abbrev b_M_look : ByteArray := prog_5_method_14_code
def y_M_look : MethodName := ⟨N_M, "look", "(III)V"⟩
def rm_M_look : Room := { frames := 4, cells := 0, slots := 0, locals := 101 }
abbrev b_M_endIfDone : ByteArray := prog_5_method_16_code
def y_M_endIfDone : MethodName := ⟨N_M, "endIfDone", "(II)V"⟩
def rm_M_endIfDone : Room := { frames := 4, cells := 0, slots := 0, locals := 101 }
abbrev b_M_hear : ByteArray := prog_5_method_17_code
def y_M_hear : MethodName := ⟨N_M, "hear", "(IIIII)V"⟩
def rm_M_hear : Room := { frames := 5, cells := 0, slots := 0, locals := 127 }
abbrev b_M_recost : ByteArray := prog_5_method_18_code
def y_M_recost : MethodName := ⟨N_M, "recost", "(II)V"⟩
def rm_M_recost : Room := { frames := 5, cells := 0, slots := 0, locals := 127 }
abbrev b_M_greet : ByteArray := prog_5_method_19_code
def y_M_greet : MethodName := ⟨N_M, "greet", "(II)V"⟩
def rm_M_greet : Room := { frames := 1, cells := 0, slots := 0, locals := 24 }
abbrev b_M_lose : ByteArray := prog_5_method_20_code
def y_M_lose : MethodName := ⟨N_M, "lose", "(II)V"⟩
def rm_M_lose : Room := { frames := 5, cells := 0, slots := 0, locals := 127 }
abbrev b_M_links : ByteArray := prog_5_method_21_code
def y_M_links : MethodName := ⟨N_M, "links", "()I"⟩
def rm_M_links : Room := { frames := 0, cells := 0, slots := 0, locals := 0 }
abbrev b_M_connect : ByteArray := prog_5_method_22_code
def y_M_connect : MethodName := ⟨N_M, "connect", "(III)I"⟩
def rm_M_connect : Room := { frames := 6, cells := 0, slots := 0, locals := 151 }
abbrev b_M_cut : ByteArray := prog_5_method_23_code
def y_M_cut : MethodName := ⟨N_M, "cut", "(II)I"⟩
def rm_M_cut : Room := { frames := 6, cells := 0, slots := 0, locals := 152 }
abbrev b_M_arrive : ByteArray := prog_5_method_24_code
def y_M_arrive : MethodName := ⟨N_M, "arrive", "(I)I"⟩
def rm_M_arrive : Room := { frames := 6, cells := 0, slots := 0, locals := 153 }
abbrev b_M_deliver : ByteArray := prog_5_method_25_code
def y_M_deliver : MethodName := ⟨N_M, "deliver", "(II)I"⟩
def rm_M_deliver : Room := { frames := 7, cells := 0, slots := 0, locals := 179 }
abbrev b_M_run : ByteArray := prog_5_method_26_code
def y_M_run : MethodName := ⟨N_M, "run", "(I)I"⟩
def rm_M_run : Room := { frames := 7, cells := 0, slots := 0, locals := 179 }
abbrev b_M_cost : ByteArray := prog_5_method_27_code
def y_M_cost : MethodName := ⟨N_M, "cost", "(II)I"⟩
def rm_M_cost : Room := { frames := 2, cells := 0, slots := 0, locals := 43 }
abbrev b_M_distance : ByteArray := prog_5_method_28_code
def y_M_distance : MethodName := ⟨N_M, "distance", "(II)I"⟩
def rm_M_distance : Room := { frames := 1, cells := 0, slots := 0, locals := 21 }
abbrev b_M_limit : ByteArray := prog_5_method_29_code
def y_M_limit : MethodName := ⟨N_M, "limit", "(II)I"⟩
def rm_M_limit : Room := { frames := 1, cells := 0, slots := 0, locals := 21 }
abbrev b_M_next : ByteArray := prog_5_method_30_code
def y_M_next : MethodName := ⟨N_M, "next", "(II)I"⟩
def rm_M_next : Room := { frames := 1, cells := 0, slots := 0, locals := 21 }
abbrev b_M_state : ByteArray := prog_5_method_31_code
def y_M_state : MethodName := ⟨N_M, "state", "(II)I"⟩
def rm_M_state : Room := { frames := 1, cells := 0, slots := 0, locals := 21 }
abbrev b_M_told : ByteArray := prog_5_method_32_code
def y_M_told : MethodName := ⟨N_M, "told", "(III)I"⟩
def rm_M_told : Room := { frames := 2, cells := 0, slots := 0, locals := 43 }
abbrev b_M_waits : ByteArray := prog_5_method_33_code
def y_M_waits : MethodName := ⟨N_M, "waits", "(III)Z"⟩
def rm_M_waits : Room := { frames := 1, cells := 0, slots := 0, locals := 21 }
abbrev b_M_flight : ByteArray := prog_5_method_34_code
def y_M_flight : MethodName := ⟨N_M, "flight", "(II)I"⟩
def rm_M_flight : Room := { frames := 2, cells := 0, slots := 0, locals := 43 }
abbrev b_M_message : ByteArray := prog_5_method_35_code
def y_M_message : MethodName := ⟨N_M, "message", "(IIII)I"⟩
def rm_M_message : Room := { frames := 1, cells := 0, slots := 0, locals := 25 }
abbrev b_M_hops : ByteArray := prog_5_method_36_code
def y_M_hops : MethodName := ⟨N_M, "hops", "(II)I"⟩
def rm_M_hops : Room := { frames := 1, cells := 0, slots := 0, locals := 21 }
abbrev b_M_total : ByteArray := prog_5_method_37_code
def y_M_total : MethodName := ⟨N_M, "total", "(I)I"⟩
def rm_M_total : Room := { frames := 1, cells := 0, slots := 0, locals := 22 }
def zT_0 : List Cond := [Cond.code Lib.Math.max.name Lib.Math.max.code 2 (some .int), Cond.code Lib.Math.min.name Lib.Math.min.code 2 (some .int), Cond.fieldLink N_D 102 N_R "grown" "Z", Cond.fieldLink N_D 105 N_R "asked" "Z", Cond.fieldLink N_D 108 N_R "told" "[I", Cond.fieldLink N_D 112 N_R "awaited" "[Z", Cond.fieldLink N_D 119 N_L "row" "[I", Cond.fieldLink N_D 131 N_L "sent" "[I", Cond.fieldLink N_D 18 N_D "routers" "I", Cond.fieldLink N_D 24 N_D "costs" "[[I", Cond.fieldLink N_D 29 N_D "routes" "[LDiffusingRoutes$Route;", Cond.fieldLink N_D 39 N_D "mail" "LDiffusingRoutes$Mail;", Cond.fieldLink N_D 51 N_D "links" "I", Cond.fieldLink N_D 79 N_L "first" "I", Cond.fieldLink N_D 89 N_R "distance" "I", Cond.fieldLink N_D 92 N_R "limit" "I", Cond.fieldLink N_D 95 N_R "next" "I", Cond.fieldLink N_D 98 N_R "busy" "Z", Cond.fieldLink N_L 11 N_L "row" "[I", Cond.fieldLink N_L 15 N_L "sent" "[I", Cond.fieldLink N_L 18 N_L "end" "I", Cond.fieldLink N_L 22 N_L "first" "I", Cond.fieldLink N_L 35 N_R "router" "I", Cond.fieldLink N_L 40 N_R "target" "I", Cond.fieldLink N_L 43 N_R "distance" "I", Cond.fieldLink N_M 13 N_M "distances" "[I", Cond.fieldLink N_M 16 N_M "limits" "[I", Cond.fieldLink N_M 19 N_M "nexts" "[I", Cond.fieldLink N_M 22 N_M "busy" "[Z", Cond.fieldLink N_M 26 N_M "asked" "[Z", Cond.fieldLink N_M 29 N_M "grown" "[Z", Cond.fieldLink N_M 32 N_M "tolds" "[I", Cond.fieldLink N_M 35 N_M "waiting" "[Z", Cond.fieldLink N_M 38 N_M "from" "[I", Cond.fieldLink N_M 41 N_M "to" "[I", Cond.fieldLink N_M 44 N_M "kinds" "[I", Cond.fieldLink N_M 47 N_M "targets" "[I", Cond.fieldLink N_M 50 N_M "carried" "[I", Cond.fieldLink N_M 53 N_M "sent" "[I", Cond.fieldLink N_M 56 N_M "routers" "I", Cond.fieldLink N_M 64 N_M "flying" "I", Cond.fieldLink N_M 7 N_M "costs" "[I", Cond.fieldLink N_R 15 N_R "target" "I", Cond.fieldLink N_R 18 N_R "costs" "[I", Cond.fieldLink N_R 22 N_R "told" "[I", Cond.fieldLink N_R 31 N_R "awaited" "[Z", Cond.fieldLink N_R 35 N_R "distance" "I", Cond.fieldLink N_R 38 N_R "limit" "I", Cond.fieldLink N_R 41 N_R "next" "I", Cond.fieldLink N_R 61 N_R "grown" "Z", Cond.fieldLink N_R 65 N_R "busy" "Z", Cond.fieldLink N_R 68 N_R "asked" "Z", Cond.fieldLink N_R 9 N_R "router" "I", Cond.initialized "java/lang/Math", Cond.initialized "java/lang/System", Cond.methodLink N_D 116 y_L_count, Cond.methodLink N_D 122 y_L_kindOf, Cond.methodLink N_D 125 y_L_targetOf, Cond.methodLink N_D 128 y_L_distanceOf, Cond.methodLink N_D 134 y_D_countBusy]
def zT_1 : List Cond := [Cond.methodLink N_D 137 y_L_send, Cond.methodLink N_D 141 y_R_isOwn, Cond.methodLink N_D 145 y_R_growIfFarther, Cond.methodLink N_D 149 y_D_look, Cond.methodLink N_D 15 Lib.Math.max.name, Cond.methodLink N_D 153 y_D_endIfDone, Cond.methodLink N_D 157 y_R_forget, Cond.methodLink N_D 160 y_L_take, Cond.methodLink N_D 163 y_L_senderOf, Cond.methodLink N_D 166 y_L_receiverOf, Cond.methodLink N_D 169 y_D_hear, Cond.methodLink N_D 172 y_R_takeBest, Cond.methodLink N_D 175 y_D_updateAllBut, Cond.methodLink N_D 178 y_R_measureAnew, Cond.methodLink N_D 181 y_D_askAll, Cond.methodLink N_D 184 y_R_isWaiting, Cond.methodLink N_D 187 y_R_calmDown, Cond.methodLink N_D 190 y_R_isNeighbour, Cond.methodLink N_D 43 y_D_isRouter, Cond.methodLink N_D 47 y_L_size, Cond.methodLink N_D 54 y_D_greet, Cond.methodLink N_D 58 y_D_weighAgain, Cond.methodLink N_D 61 y_D_isLink, Cond.methodLink N_D 65 y_L_drop, Cond.methodLink N_D 68 y_D_lose, Cond.methodLink N_D 71 y_L_find, Cond.methodLink N_D 75 y_D_bring, Cond.methodLink N_D 82 y_D_isRoute, Cond.methodLink N_D 85 y_D_route, Cond.methodLink N_D 9 Lib.Math.min.name, Cond.methodLink N_L 25 y_L_size, Cond.methodLink N_L 29 arraycopyName, Cond.methodLink N_L 46 y_L_senderOf, Cond.methodLink N_L 50 y_L_receiverOf, Cond.methodLink N_L 53 y_L_isFromTo, Cond.methodLink N_M 101 y_M_look, Cond.methodLink N_M 105 y_M_endIfDone, Cond.methodLink N_M 108 y_M_isLink, Cond.methodLink N_M 111 y_M_recost, Cond.methodLink N_M 114 y_M_greet, Cond.methodLink N_M 117 y_M_links, Cond.methodLink N_M 121 y_M_takeOut, Cond.methodLink N_M 125 y_M_lose, Cond.methodLink N_M 128 y_M_hear, Cond.methodLink N_M 132 y_M_placeOf, Cond.methodLink N_M 135 y_M_arrive, Cond.methodLink N_M 60 y_M_isRouter, Cond.methodLink N_M 67 y_M_send, Cond.methodLink N_M 71 y_M_through, Cond.methodLink N_M 75 y_M_least, Cond.methodLink N_M 79 y_M_isSure, Cond.methodLink N_M 83 y_M_tellAll, Cond.methodLink N_M 87 y_M_isFine, Cond.methodLink N_M 91 y_M_settle, Cond.methodLink N_M 95 y_M_askAll, Cond.methodLink N_M 98 y_M_end, Cond.methodLink N_R 44 Lib.Math.min.name, Cond.methodLink N_R 50 y_R_least, Cond.methodLink N_R 54 y_R_best, Cond.methodLink N_R 58 y_R_through]
def zT_2 : List Cond := [Cond.native arraycopyName, Cond.static Lib.Math.max.name, Cond.static Lib.Math.min.name, Cond.static arraycopyName, Cond.code y_D_isRouter b_D_isRouter 2 (some .boolean), Cond.initialized N_D, Cond.instanceMethod y_D_isRouter, Cond.selects N_D y_D_isRouter y_D_isRouter, Cond.code y_L_size b_L_size 1 (some .int), Cond.initialized N_L, Cond.instanceMethod y_L_size, Cond.selects N_L y_L_size y_L_size, Cond.code y_D_route b_D_route 3 (some (.object N_R)), Cond.instanceMethod y_D_route, Cond.selects N_D y_D_route y_D_route, Cond.code y_L_send b_L_send 4 none, Cond.instanceMethod y_L_send, Cond.selects N_L y_L_send y_L_send, Cond.code y_D_greet b_D_greet 5 none, Cond.instanceMethod y_D_greet, Cond.selects N_D y_D_greet y_D_greet, Cond.code y_R_isOwn b_R_isOwn 1 (some .boolean), Cond.initialized N_R, Cond.instanceMethod y_R_isOwn, Cond.selects N_R y_R_isOwn y_R_isOwn, Cond.code y_R_through b_R_through 2 (some .int), Cond.instanceMethod y_R_through, Cond.selects N_R y_R_through y_R_through, Cond.code y_R_growIfFarther b_R_growIfFarther 2 none, Cond.instanceMethod y_R_growIfFarther, Cond.selects N_R y_R_growIfFarther y_R_growIfFarther, Cond.code y_R_least b_R_least 3 (some .int), Cond.instanceMethod y_R_least, Cond.selects N_R y_R_least y_R_least, Cond.code y_R_best b_R_best 5 (some .int), Cond.instanceMethod y_R_best, Cond.selects N_R y_R_best y_R_best, Cond.code y_R_takeBest b_R_takeBest 4 (some .boolean), Cond.instanceMethod y_R_takeBest, Cond.selects N_R y_R_takeBest y_R_takeBest, Cond.code y_R_isNeighbour b_R_isNeighbour 2 (some .boolean), Cond.instanceMethod y_R_isNeighbour, Cond.selects N_R y_R_isNeighbour y_R_isNeighbour, Cond.code y_D_updateAllBut b_D_updateAllBut 4 none, Cond.instanceMethod y_D_updateAllBut, Cond.selects N_D y_D_updateAllBut y_D_updateAllBut, Cond.code y_R_measureAnew b_R_measureAnew 1 none, Cond.instanceMethod y_R_measureAnew, Cond.selects N_R y_R_measureAnew y_R_measureAnew, Cond.code y_D_askAll b_D_askAll 3 none, Cond.instanceMethod y_D_askAll, Cond.selects N_D y_D_askAll y_D_askAll, Cond.code y_D_look b_D_look 4 none, Cond.instanceMethod y_D_look, Cond.selects N_D y_D_look y_D_look, Cond.code y_R_isWaiting b_R_isWaiting 5 (some .boolean), Cond.instanceMethod y_R_isWaiting, Cond.selects N_R y_R_isWaiting y_R_isWaiting, Cond.code y_R_calmDown b_R_calmDown 1 none, Cond.instanceMethod y_R_calmDown]
def zT_3 : List Cond := [Cond.selects N_R y_R_calmDown y_R_calmDown, Cond.code y_D_endIfDone b_D_endIfDone 4 none, Cond.instanceMethod y_D_endIfDone, Cond.selects N_D y_D_endIfDone y_D_endIfDone, Cond.code y_D_weighAgain b_D_weighAgain 5 none, Cond.instanceMethod y_D_weighAgain, Cond.selects N_D y_D_weighAgain y_D_weighAgain, Cond.code y_D_connect b_D_connect 7 (some .int), Cond.instanceMethod y_D_connect, Cond.selects N_D y_D_connect y_D_connect, Cond.code y_D_isLink b_D_isLink 3 (some .boolean), Cond.instanceMethod y_D_isLink, Cond.selects N_D y_D_isLink y_D_isLink, Cond.code y_L_senderOf b_L_senderOf 1 (some .int), Cond.static y_L_senderOf, Cond.code y_L_receiverOf b_L_receiverOf 1 (some .int), Cond.static y_L_receiverOf, Cond.code y_L_isFromTo b_L_isFromTo 4 (some .boolean), Cond.instanceMethod y_L_isFromTo, Cond.selects N_L y_L_isFromTo y_L_isFromTo, Cond.code y_L_drop b_L_drop 5 (some .int), Cond.instanceMethod y_L_drop, Cond.selects N_L y_L_drop y_L_drop, Cond.code y_R_forget b_R_forget 2 none, Cond.instanceMethod y_R_forget, Cond.selects N_R y_R_forget y_R_forget, Cond.code y_D_lose b_D_lose 5 none, Cond.instanceMethod y_D_lose, Cond.selects N_D y_D_lose y_D_lose, Cond.code y_D_cut b_D_cut 6 (some .int), Cond.instanceMethod y_D_cut, Cond.selects N_D y_D_cut y_D_cut, Cond.code y_L_find b_L_find 6 (some .int), Cond.instanceMethod y_L_find, Cond.selects N_L y_L_find y_L_find, Cond.code y_L_take b_L_take 3 (some .int), Cond.instanceMethod y_L_take, Cond.selects N_L y_L_take y_L_take, Cond.code y_L_kindOf b_L_kindOf 1 (some .int), Cond.static y_L_kindOf, Cond.code y_L_targetOf b_L_targetOf 1 (some .int), Cond.static y_L_targetOf, Cond.code y_L_distanceOf b_L_distanceOf 1 (some .int), Cond.static y_L_distanceOf, Cond.code y_D_hear b_D_hear 4 none, Cond.instanceMethod y_D_hear, Cond.selects N_D y_D_hear y_D_hear, Cond.code y_D_bring b_D_bring 6 (some .int), Cond.instanceMethod y_D_bring, Cond.selects N_D y_D_bring y_D_bring, Cond.code y_D_deliver b_D_deliver 4 (some .int), Cond.instanceMethod y_D_deliver, Cond.selects N_D y_D_deliver y_D_deliver, Cond.code y_D_run b_D_run 3 (some .int), Cond.instanceMethod y_D_run, Cond.selects N_D y_D_run y_D_run, Cond.code y_D_cost b_D_cost 3 (some .int), Cond.instanceMethod y_D_cost, Cond.selects N_D y_D_cost y_D_cost, Cond.code y_D_isRoute b_D_isRoute 3 (some .boolean)]
def zT_4 : List Cond := [Cond.instanceMethod y_D_isRoute, Cond.selects N_D y_D_isRoute y_D_isRoute, Cond.code y_D_distance b_D_distance 3 (some .int), Cond.instanceMethod y_D_distance, Cond.selects N_D y_D_distance y_D_distance, Cond.code y_D_limit b_D_limit 3 (some .int), Cond.instanceMethod y_D_limit, Cond.selects N_D y_D_limit y_D_limit, Cond.code y_D_next b_D_next 3 (some .int), Cond.instanceMethod y_D_next, Cond.selects N_D y_D_next y_D_next, Cond.code y_D_state b_D_state 4 (some .int), Cond.instanceMethod y_D_state, Cond.selects N_D y_D_state y_D_state, Cond.code y_D_told b_D_told 4 (some .int), Cond.instanceMethod y_D_told, Cond.selects N_D y_D_told y_D_told, Cond.code y_D_waits b_D_waits 4 (some .boolean), Cond.instanceMethod y_D_waits, Cond.selects N_D y_D_waits y_D_waits, Cond.code y_L_count b_L_count 5 (some .int), Cond.instanceMethod y_L_count, Cond.selects N_L y_L_count y_L_count, Cond.code y_D_flight b_D_flight 3 (some .int), Cond.instanceMethod y_D_flight, Cond.selects N_D y_D_flight y_D_flight, Cond.code y_D_message b_D_message 7 (some .int), Cond.instanceMethod y_D_message, Cond.selects N_D y_D_message y_D_message, Cond.code y_D_hops b_D_hops 5 (some .int), Cond.instanceMethod y_D_hops, Cond.selects N_D y_D_hops y_D_hops, Cond.code y_D_countBusy b_D_countBusy 6 (some .int), Cond.instanceMethod y_D_countBusy, Cond.selects N_D y_D_countBusy y_D_countBusy, Cond.code y_D_total b_D_total 2 (some .int), Cond.instanceMethod y_D_total, Cond.selects N_D y_D_total y_D_total, Cond.code y_M_isRouter b_M_isRouter 2 (some .boolean), Cond.initialized N_M, Cond.instanceMethod y_M_isRouter, Cond.selects N_M y_M_isRouter y_M_isRouter, Cond.code y_M_isLink b_M_isLink 3 (some .boolean), Cond.instanceMethod y_M_isLink, Cond.selects N_M y_M_isLink y_M_isLink, Cond.code y_M_send b_M_send 5 none, Cond.instanceMethod y_M_send, Cond.selects N_M y_M_send y_M_send, Cond.code y_M_tellAll b_M_tellAll 7 (some .int), Cond.instanceMethod y_M_tellAll, Cond.selects N_M y_M_tellAll y_M_tellAll, Cond.code y_M_takeOut b_M_takeOut 3 none, Cond.instanceMethod y_M_takeOut, Cond.selects N_M y_M_takeOut y_M_takeOut, Cond.code y_M_placeOf b_M_placeOf 6 (some .int), Cond.instanceMethod y_M_placeOf, Cond.selects N_M y_M_placeOf y_M_placeOf, Cond.code y_M_through b_M_through 5 (some .int), Cond.instanceMethod y_M_through, Cond.selects N_M y_M_through y_M_through]
def zT_5 : List Cond := [Cond.code y_M_least b_M_least 6 (some .int), Cond.instanceMethod y_M_least, Cond.selects N_M y_M_least y_M_least, Cond.code y_M_isSure b_M_isSure 5 (some .boolean), Cond.instanceMethod y_M_isSure, Cond.selects N_M y_M_isSure y_M_isSure, Cond.code y_M_isFine b_M_isFine 6 (some .boolean), Cond.instanceMethod y_M_isFine, Cond.selects N_M y_M_isFine y_M_isFine, Cond.code y_M_settle b_M_settle 7 none, Cond.instanceMethod y_M_settle, Cond.selects N_M y_M_settle y_M_settle, Cond.code y_M_askAll b_M_askAll 6 (some .boolean), Cond.instanceMethod y_M_askAll, Cond.selects N_M y_M_askAll y_M_askAll, Cond.code y_M_end b_M_end 7 none, Cond.instanceMethod y_M_end, Cond.selects N_M y_M_end y_M_end, Cond.code y_M_look b_M_look 7 none, Cond.instanceMethod y_M_look, Cond.selects N_M y_M_look y_M_look, Cond.code y_M_endIfDone b_M_endIfDone 5 none, Cond.instanceMethod y_M_endIfDone, Cond.selects N_M y_M_endIfDone y_M_endIfDone, Cond.code y_M_hear b_M_hear 7 none, Cond.instanceMethod y_M_hear, Cond.selects N_M y_M_hear y_M_hear, Cond.code y_M_recost b_M_recost 5 none, Cond.instanceMethod y_M_recost, Cond.selects N_M y_M_recost y_M_recost, Cond.code y_M_greet b_M_greet 4 none, Cond.instanceMethod y_M_greet, Cond.selects N_M y_M_greet y_M_greet, Cond.code y_M_lose b_M_lose 6 none, Cond.instanceMethod y_M_lose, Cond.selects N_M y_M_lose y_M_lose, Cond.code y_M_links b_M_links 3 (some .int), Cond.instanceMethod y_M_links, Cond.selects N_M y_M_links y_M_links, Cond.code y_M_connect b_M_connect 7 (some .int), Cond.instanceMethod y_M_connect, Cond.selects N_M y_M_connect y_M_connect, Cond.code y_M_cut b_M_cut 5 (some .int), Cond.instanceMethod y_M_cut, Cond.selects N_M y_M_cut y_M_cut, Cond.code y_M_arrive b_M_arrive 7 (some .int), Cond.instanceMethod y_M_arrive, Cond.selects N_M y_M_arrive y_M_arrive, Cond.code y_M_deliver b_M_deliver 4 (some .int), Cond.instanceMethod y_M_deliver, Cond.selects N_M y_M_deliver y_M_deliver, Cond.code y_M_run b_M_run 4 (some .int), Cond.instanceMethod y_M_run, Cond.selects N_M y_M_run y_M_run, Cond.code y_M_cost b_M_cost 3 (some .int), Cond.instanceMethod y_M_cost, Cond.selects N_M y_M_cost y_M_cost, Cond.code y_M_distance b_M_distance 3 (some .int), Cond.instanceMethod y_M_distance, Cond.selects N_M y_M_distance y_M_distance]
def zT_6 : List Cond := [Cond.code y_M_limit b_M_limit 3 (some .int), Cond.instanceMethod y_M_limit, Cond.selects N_M y_M_limit y_M_limit, Cond.code y_M_next b_M_next 3 (some .int), Cond.instanceMethod y_M_next, Cond.selects N_M y_M_next y_M_next, Cond.code y_M_state b_M_state 4 (some .int), Cond.instanceMethod y_M_state, Cond.selects N_M y_M_state y_M_state, Cond.code y_M_told b_M_told 4 (some .int), Cond.instanceMethod y_M_told, Cond.selects N_M y_M_told y_M_told, Cond.code y_M_waits b_M_waits 4 (some .boolean), Cond.instanceMethod y_M_waits, Cond.selects N_M y_M_waits y_M_waits, Cond.code y_M_flight b_M_flight 5 (some .int), Cond.instanceMethod y_M_flight, Cond.selects N_M y_M_flight y_M_flight, Cond.code y_M_message b_M_message 6 (some .int), Cond.instanceMethod y_M_message, Cond.selects N_M y_M_message y_M_message, Cond.code y_M_hops b_M_hops 6 (some .int), Cond.instanceMethod y_M_hops, Cond.selects N_M y_M_hops y_M_hops, Cond.code y_M_total b_M_total 4 (some .int), Cond.instanceMethod y_M_total, Cond.selects N_M y_M_total y_M_total, u_lay N_D FT_D 0, u_lay N_D FT_D 1, u_lay N_D FT_D 2, u_lay N_D FT_D 3, u_lay N_D FT_D 4, u_lay N_R FT_R 0, u_lay N_R FT_R 1, u_lay N_R FT_R 2, u_lay N_R FT_R 3, u_lay N_R FT_R 4, u_lay N_R FT_R 5, u_lay N_R FT_R 6, u_lay N_R FT_R 7, u_lay N_R FT_R 8, u_lay N_R FT_R 9, u_lay N_R FT_R 10, u_lay N_L FT_L 0, u_lay N_L FT_L 1, u_lay N_L FT_L 2, u_lay N_L FT_L 3, u_lay N_M FT_M 0, u_lay N_M FT_M 1, u_lay N_M FT_M 2, u_lay N_M FT_M 3, u_lay N_M FT_M 4, u_lay N_M FT_M 5, u_lay N_M FT_M 6, u_lay N_M FT_M 7, u_lay N_M FT_M 8, u_lay N_M FT_M 9, u_lay N_M FT_M 10, u_lay N_M FT_M 11, u_lay N_M FT_M 12]
def zT_7 : List Cond := [u_lay N_M FT_M 13, u_lay N_M FT_M 14, u_lay N_M FT_M 15, u_lay N_M FT_M 16]
def zT : List Cond := zT_0 ++ (zT_1 ++ (zT_2 ++ (zT_3 ++ (zT_4 ++ (zT_5 ++ (zT_6 ++ (zT_7)))))))
theorem zx_0 : Cond.code Lib.Math.max.name Lib.Math.max.code 2 (some .int) ∈ zT := List.mem_of_getElem? (i := 0) (by rfl)
theorem zx_1 : Cond.code Lib.Math.min.name Lib.Math.min.code 2 (some .int) ∈ zT := List.mem_of_getElem? (i := 1) (by rfl)
theorem zx_2 : Cond.fieldLink N_D 102 N_R "grown" "Z" ∈ zT := List.mem_of_getElem? (i := 2) (by rfl)
theorem zx_3 : Cond.fieldLink N_D 105 N_R "asked" "Z" ∈ zT := List.mem_of_getElem? (i := 3) (by rfl)
theorem zx_4 : Cond.fieldLink N_D 108 N_R "told" "[I" ∈ zT := List.mem_of_getElem? (i := 4) (by rfl)
theorem zx_5 : Cond.fieldLink N_D 112 N_R "awaited" "[Z" ∈ zT := List.mem_of_getElem? (i := 5) (by rfl)
theorem zx_6 : Cond.fieldLink N_D 119 N_L "row" "[I" ∈ zT := List.mem_of_getElem? (i := 6) (by rfl)
theorem zx_7 : Cond.fieldLink N_D 131 N_L "sent" "[I" ∈ zT := List.mem_of_getElem? (i := 7) (by rfl)
theorem zx_8 : Cond.fieldLink N_D 18 N_D "routers" "I" ∈ zT := List.mem_of_getElem? (i := 8) (by rfl)
theorem zx_9 : Cond.fieldLink N_D 24 N_D "costs" "[[I" ∈ zT := List.mem_of_getElem? (i := 9) (by rfl)
theorem zx_10 : Cond.fieldLink N_D 29 N_D "routes" "[LDiffusingRoutes$Route;" ∈ zT := List.mem_of_getElem? (i := 10) (by rfl)
theorem zx_11 : Cond.fieldLink N_D 39 N_D "mail" "LDiffusingRoutes$Mail;" ∈ zT := List.mem_of_getElem? (i := 11) (by rfl)
theorem zx_12 : Cond.fieldLink N_D 51 N_D "links" "I" ∈ zT := List.mem_of_getElem? (i := 12) (by rfl)
theorem zx_13 : Cond.fieldLink N_D 79 N_L "first" "I" ∈ zT := List.mem_of_getElem? (i := 13) (by rfl)
theorem zx_14 : Cond.fieldLink N_D 89 N_R "distance" "I" ∈ zT := List.mem_of_getElem? (i := 14) (by rfl)
theorem zx_15 : Cond.fieldLink N_D 92 N_R "limit" "I" ∈ zT := List.mem_of_getElem? (i := 15) (by rfl)
theorem zx_16 : Cond.fieldLink N_D 95 N_R "next" "I" ∈ zT := List.mem_of_getElem? (i := 16) (by rfl)
theorem zx_17 : Cond.fieldLink N_D 98 N_R "busy" "Z" ∈ zT := List.mem_of_getElem? (i := 17) (by rfl)
theorem zx_18 : Cond.fieldLink N_L 11 N_L "row" "[I" ∈ zT := List.mem_of_getElem? (i := 18) (by rfl)
theorem zx_19 : Cond.fieldLink N_L 15 N_L "sent" "[I" ∈ zT := List.mem_of_getElem? (i := 19) (by rfl)
theorem zx_20 : Cond.fieldLink N_L 18 N_L "end" "I" ∈ zT := List.mem_of_getElem? (i := 20) (by rfl)
theorem zx_21 : Cond.fieldLink N_L 22 N_L "first" "I" ∈ zT := List.mem_of_getElem? (i := 21) (by rfl)
theorem zx_22 : Cond.fieldLink N_L 35 N_R "router" "I" ∈ zT := List.mem_of_getElem? (i := 22) (by rfl)
theorem zx_23 : Cond.fieldLink N_L 40 N_R "target" "I" ∈ zT := List.mem_of_getElem? (i := 23) (by rfl)
theorem zx_24 : Cond.fieldLink N_L 43 N_R "distance" "I" ∈ zT := List.mem_of_getElem? (i := 24) (by rfl)
theorem zx_25 : Cond.fieldLink N_M 13 N_M "distances" "[I" ∈ zT := List.mem_of_getElem? (i := 25) (by rfl)
theorem zx_26 : Cond.fieldLink N_M 16 N_M "limits" "[I" ∈ zT := List.mem_of_getElem? (i := 26) (by rfl)
theorem zx_27 : Cond.fieldLink N_M 19 N_M "nexts" "[I" ∈ zT := List.mem_of_getElem? (i := 27) (by rfl)
theorem zx_28 : Cond.fieldLink N_M 22 N_M "busy" "[Z" ∈ zT := List.mem_of_getElem? (i := 28) (by rfl)
theorem zx_29 : Cond.fieldLink N_M 26 N_M "asked" "[Z" ∈ zT := List.mem_of_getElem? (i := 29) (by rfl)
theorem zx_30 : Cond.fieldLink N_M 29 N_M "grown" "[Z" ∈ zT := List.mem_of_getElem? (i := 30) (by rfl)
theorem zx_31 : Cond.fieldLink N_M 32 N_M "tolds" "[I" ∈ zT := List.mem_of_getElem? (i := 31) (by rfl)
theorem zx_32 : Cond.fieldLink N_M 35 N_M "waiting" "[Z" ∈ zT := List.mem_of_getElem? (i := 32) (by rfl)
theorem zx_33 : Cond.fieldLink N_M 38 N_M "from" "[I" ∈ zT := List.mem_of_getElem? (i := 33) (by rfl)
theorem zx_34 : Cond.fieldLink N_M 41 N_M "to" "[I" ∈ zT := List.mem_of_getElem? (i := 34) (by rfl)
theorem zx_35 : Cond.fieldLink N_M 44 N_M "kinds" "[I" ∈ zT := List.mem_of_getElem? (i := 35) (by rfl)
theorem zx_36 : Cond.fieldLink N_M 47 N_M "targets" "[I" ∈ zT := List.mem_of_getElem? (i := 36) (by rfl)
theorem zx_37 : Cond.fieldLink N_M 50 N_M "carried" "[I" ∈ zT := List.mem_of_getElem? (i := 37) (by rfl)
theorem zx_38 : Cond.fieldLink N_M 53 N_M "sent" "[I" ∈ zT := List.mem_of_getElem? (i := 38) (by rfl)
theorem zx_39 : Cond.fieldLink N_M 56 N_M "routers" "I" ∈ zT := List.mem_of_getElem? (i := 39) (by rfl)
theorem zx_40 : Cond.fieldLink N_M 64 N_M "flying" "I" ∈ zT := List.mem_of_getElem? (i := 40) (by rfl)
theorem zx_41 : Cond.fieldLink N_M 7 N_M "costs" "[I" ∈ zT := List.mem_of_getElem? (i := 41) (by rfl)
theorem zx_42 : Cond.fieldLink N_R 15 N_R "target" "I" ∈ zT := List.mem_of_getElem? (i := 42) (by rfl)
theorem zx_43 : Cond.fieldLink N_R 18 N_R "costs" "[I" ∈ zT := List.mem_of_getElem? (i := 43) (by rfl)
theorem zx_44 : Cond.fieldLink N_R 22 N_R "told" "[I" ∈ zT := List.mem_of_getElem? (i := 44) (by rfl)
theorem zx_45 : Cond.fieldLink N_R 31 N_R "awaited" "[Z" ∈ zT := List.mem_of_getElem? (i := 45) (by rfl)
theorem zx_46 : Cond.fieldLink N_R 35 N_R "distance" "I" ∈ zT := List.mem_of_getElem? (i := 46) (by rfl)
theorem zx_47 : Cond.fieldLink N_R 38 N_R "limit" "I" ∈ zT := List.mem_of_getElem? (i := 47) (by rfl)
theorem zx_48 : Cond.fieldLink N_R 41 N_R "next" "I" ∈ zT := List.mem_of_getElem? (i := 48) (by rfl)
theorem zx_49 : Cond.fieldLink N_R 61 N_R "grown" "Z" ∈ zT := List.mem_of_getElem? (i := 49) (by rfl)
theorem zx_50 : Cond.fieldLink N_R 65 N_R "busy" "Z" ∈ zT := List.mem_of_getElem? (i := 50) (by rfl)
theorem zx_51 : Cond.fieldLink N_R 68 N_R "asked" "Z" ∈ zT := List.mem_of_getElem? (i := 51) (by rfl)
theorem zx_52 : Cond.fieldLink N_R 9 N_R "router" "I" ∈ zT := List.mem_of_getElem? (i := 52) (by rfl)
theorem zx_53 : Cond.initialized "java/lang/Math" ∈ zT := List.mem_of_getElem? (i := 53) (by rfl)
theorem zx_54 : Cond.initialized "java/lang/System" ∈ zT := List.mem_of_getElem? (i := 54) (by rfl)
theorem zx_55 : Cond.methodLink N_D 116 y_L_count ∈ zT := List.mem_of_getElem? (i := 55) (by rfl)
theorem zx_56 : Cond.methodLink N_D 122 y_L_kindOf ∈ zT := List.mem_of_getElem? (i := 56) (by rfl)
theorem zx_57 : Cond.methodLink N_D 125 y_L_targetOf ∈ zT := List.mem_of_getElem? (i := 57) (by rfl)
theorem zx_58 : Cond.methodLink N_D 128 y_L_distanceOf ∈ zT := List.mem_of_getElem? (i := 58) (by rfl)
theorem zx_59 : Cond.methodLink N_D 134 y_D_countBusy ∈ zT := List.mem_of_getElem? (i := 59) (by rfl)
theorem zx_60 : Cond.methodLink N_D 137 y_L_send ∈ zT := List.mem_of_getElem? (i := 60) (by rfl)
theorem zx_61 : Cond.methodLink N_D 141 y_R_isOwn ∈ zT := List.mem_of_getElem? (i := 61) (by rfl)
theorem zx_62 : Cond.methodLink N_D 145 y_R_growIfFarther ∈ zT := List.mem_of_getElem? (i := 62) (by rfl)
theorem zx_63 : Cond.methodLink N_D 149 y_D_look ∈ zT := List.mem_of_getElem? (i := 63) (by rfl)
theorem zx_64 : Cond.methodLink N_D 15 Lib.Math.max.name ∈ zT := List.mem_of_getElem? (i := 64) (by rfl)
theorem zx_65 : Cond.methodLink N_D 153 y_D_endIfDone ∈ zT := List.mem_of_getElem? (i := 65) (by rfl)
theorem zx_66 : Cond.methodLink N_D 157 y_R_forget ∈ zT := List.mem_of_getElem? (i := 66) (by rfl)
theorem zx_67 : Cond.methodLink N_D 160 y_L_take ∈ zT := List.mem_of_getElem? (i := 67) (by rfl)
theorem zx_68 : Cond.methodLink N_D 163 y_L_senderOf ∈ zT := List.mem_of_getElem? (i := 68) (by rfl)
theorem zx_69 : Cond.methodLink N_D 166 y_L_receiverOf ∈ zT := List.mem_of_getElem? (i := 69) (by rfl)
theorem zx_70 : Cond.methodLink N_D 169 y_D_hear ∈ zT := List.mem_of_getElem? (i := 70) (by rfl)
theorem zx_71 : Cond.methodLink N_D 172 y_R_takeBest ∈ zT := List.mem_of_getElem? (i := 71) (by rfl)
theorem zx_72 : Cond.methodLink N_D 175 y_D_updateAllBut ∈ zT := List.mem_of_getElem? (i := 72) (by rfl)
theorem zx_73 : Cond.methodLink N_D 178 y_R_measureAnew ∈ zT := List.mem_of_getElem? (i := 73) (by rfl)
theorem zx_74 : Cond.methodLink N_D 181 y_D_askAll ∈ zT := List.mem_of_getElem? (i := 74) (by rfl)
theorem zx_75 : Cond.methodLink N_D 184 y_R_isWaiting ∈ zT := List.mem_of_getElem? (i := 75) (by rfl)
theorem zx_76 : Cond.methodLink N_D 187 y_R_calmDown ∈ zT := List.mem_of_getElem? (i := 76) (by rfl)
theorem zx_77 : Cond.methodLink N_D 190 y_R_isNeighbour ∈ zT := List.mem_of_getElem? (i := 77) (by rfl)
theorem zx_78 : Cond.methodLink N_D 43 y_D_isRouter ∈ zT := List.mem_of_getElem? (i := 78) (by rfl)
theorem zx_79 : Cond.methodLink N_D 47 y_L_size ∈ zT := List.mem_of_getElem? (i := 79) (by rfl)
theorem zx_80 : Cond.methodLink N_D 54 y_D_greet ∈ zT := List.mem_of_getElem? (i := 80) (by rfl)
theorem zx_81 : Cond.methodLink N_D 58 y_D_weighAgain ∈ zT := List.mem_of_getElem? (i := 81) (by rfl)
theorem zx_82 : Cond.methodLink N_D 61 y_D_isLink ∈ zT := List.mem_of_getElem? (i := 82) (by rfl)
theorem zx_83 : Cond.methodLink N_D 65 y_L_drop ∈ zT := List.mem_of_getElem? (i := 83) (by rfl)
theorem zx_84 : Cond.methodLink N_D 68 y_D_lose ∈ zT := List.mem_of_getElem? (i := 84) (by rfl)
theorem zx_85 : Cond.methodLink N_D 71 y_L_find ∈ zT := List.mem_of_getElem? (i := 85) (by rfl)
theorem zx_86 : Cond.methodLink N_D 75 y_D_bring ∈ zT := List.mem_of_getElem? (i := 86) (by rfl)
theorem zx_87 : Cond.methodLink N_D 82 y_D_isRoute ∈ zT := List.mem_of_getElem? (i := 87) (by rfl)
theorem zx_88 : Cond.methodLink N_D 85 y_D_route ∈ zT := List.mem_of_getElem? (i := 88) (by rfl)
theorem zx_89 : Cond.methodLink N_D 9 Lib.Math.min.name ∈ zT := List.mem_of_getElem? (i := 89) (by rfl)
theorem zx_90 : Cond.methodLink N_L 25 y_L_size ∈ zT := List.mem_of_getElem? (i := 90) (by rfl)
theorem zx_91 : Cond.methodLink N_L 29 arraycopyName ∈ zT := List.mem_of_getElem? (i := 91) (by rfl)
theorem zx_92 : Cond.methodLink N_L 46 y_L_senderOf ∈ zT := List.mem_of_getElem? (i := 92) (by rfl)
theorem zx_93 : Cond.methodLink N_L 50 y_L_receiverOf ∈ zT := List.mem_of_getElem? (i := 93) (by rfl)
theorem zx_94 : Cond.methodLink N_L 53 y_L_isFromTo ∈ zT := List.mem_of_getElem? (i := 94) (by rfl)
theorem zx_95 : Cond.methodLink N_M 101 y_M_look ∈ zT := List.mem_of_getElem? (i := 95) (by rfl)
theorem zx_96 : Cond.methodLink N_M 105 y_M_endIfDone ∈ zT := List.mem_of_getElem? (i := 96) (by rfl)
theorem zx_97 : Cond.methodLink N_M 108 y_M_isLink ∈ zT := List.mem_of_getElem? (i := 97) (by rfl)
theorem zx_98 : Cond.methodLink N_M 111 y_M_recost ∈ zT := List.mem_of_getElem? (i := 98) (by rfl)
theorem zx_99 : Cond.methodLink N_M 114 y_M_greet ∈ zT := List.mem_of_getElem? (i := 99) (by rfl)
theorem zx_100 : Cond.methodLink N_M 117 y_M_links ∈ zT := List.mem_of_getElem? (i := 100) (by rfl)
theorem zx_101 : Cond.methodLink N_M 121 y_M_takeOut ∈ zT := List.mem_of_getElem? (i := 101) (by rfl)
theorem zx_102 : Cond.methodLink N_M 125 y_M_lose ∈ zT := List.mem_of_getElem? (i := 102) (by rfl)
theorem zx_103 : Cond.methodLink N_M 128 y_M_hear ∈ zT := List.mem_of_getElem? (i := 103) (by rfl)
theorem zx_104 : Cond.methodLink N_M 132 y_M_placeOf ∈ zT := List.mem_of_getElem? (i := 104) (by rfl)
theorem zx_105 : Cond.methodLink N_M 135 y_M_arrive ∈ zT := List.mem_of_getElem? (i := 105) (by rfl)
theorem zx_106 : Cond.methodLink N_M 60 y_M_isRouter ∈ zT := List.mem_of_getElem? (i := 106) (by rfl)
theorem zx_107 : Cond.methodLink N_M 67 y_M_send ∈ zT := List.mem_of_getElem? (i := 107) (by rfl)
theorem zx_108 : Cond.methodLink N_M 71 y_M_through ∈ zT := List.mem_of_getElem? (i := 108) (by rfl)
theorem zx_109 : Cond.methodLink N_M 75 y_M_least ∈ zT := List.mem_of_getElem? (i := 109) (by rfl)
theorem zx_110 : Cond.methodLink N_M 79 y_M_isSure ∈ zT := List.mem_of_getElem? (i := 110) (by rfl)
theorem zx_111 : Cond.methodLink N_M 83 y_M_tellAll ∈ zT := List.mem_of_getElem? (i := 111) (by rfl)
theorem zx_112 : Cond.methodLink N_M 87 y_M_isFine ∈ zT := List.mem_of_getElem? (i := 112) (by rfl)
theorem zx_113 : Cond.methodLink N_M 91 y_M_settle ∈ zT := List.mem_of_getElem? (i := 113) (by rfl)
theorem zx_114 : Cond.methodLink N_M 95 y_M_askAll ∈ zT := List.mem_of_getElem? (i := 114) (by rfl)
theorem zx_115 : Cond.methodLink N_M 98 y_M_end ∈ zT := List.mem_of_getElem? (i := 115) (by rfl)
theorem zx_116 : Cond.methodLink N_R 44 Lib.Math.min.name ∈ zT := List.mem_of_getElem? (i := 116) (by rfl)
theorem zx_117 : Cond.methodLink N_R 50 y_R_least ∈ zT := List.mem_of_getElem? (i := 117) (by rfl)
theorem zx_118 : Cond.methodLink N_R 54 y_R_best ∈ zT := List.mem_of_getElem? (i := 118) (by rfl)
theorem zx_119 : Cond.methodLink N_R 58 y_R_through ∈ zT := List.mem_of_getElem? (i := 119) (by rfl)
theorem zx_120 : Cond.native arraycopyName ∈ zT := List.mem_of_getElem? (i := 120) (by rfl)
theorem zx_121 : Cond.static Lib.Math.max.name ∈ zT := List.mem_of_getElem? (i := 121) (by rfl)
theorem zx_122 : Cond.static Lib.Math.min.name ∈ zT := List.mem_of_getElem? (i := 122) (by rfl)
theorem zx_123 : Cond.static arraycopyName ∈ zT := List.mem_of_getElem? (i := 123) (by rfl)
theorem zx_124 : Cond.code y_D_isRouter b_D_isRouter 2 (some .boolean) ∈ zT := List.mem_of_getElem? (i := 124) (by rfl)
theorem zx_125 : Cond.initialized N_D ∈ zT := List.mem_of_getElem? (i := 125) (by rfl)
theorem zx_126 : Cond.instanceMethod y_D_isRouter ∈ zT := List.mem_of_getElem? (i := 126) (by rfl)
theorem zx_127 : Cond.selects N_D y_D_isRouter y_D_isRouter ∈ zT := List.mem_of_getElem? (i := 127) (by rfl)
theorem zx_128 : Cond.code y_L_size b_L_size 1 (some .int) ∈ zT := List.mem_of_getElem? (i := 128) (by rfl)
theorem zx_129 : Cond.initialized N_L ∈ zT := List.mem_of_getElem? (i := 129) (by rfl)
theorem zx_130 : Cond.instanceMethod y_L_size ∈ zT := List.mem_of_getElem? (i := 130) (by rfl)
theorem zx_131 : Cond.selects N_L y_L_size y_L_size ∈ zT := List.mem_of_getElem? (i := 131) (by rfl)
theorem zx_132 : Cond.code y_D_route b_D_route 3 (some (.object N_R)) ∈ zT := List.mem_of_getElem? (i := 132) (by rfl)
theorem zx_133 : Cond.instanceMethod y_D_route ∈ zT := List.mem_of_getElem? (i := 133) (by rfl)
theorem zx_134 : Cond.selects N_D y_D_route y_D_route ∈ zT := List.mem_of_getElem? (i := 134) (by rfl)
theorem zx_135 : Cond.code y_L_send b_L_send 4 none ∈ zT := List.mem_of_getElem? (i := 135) (by rfl)
theorem zx_136 : Cond.instanceMethod y_L_send ∈ zT := List.mem_of_getElem? (i := 136) (by rfl)
theorem zx_137 : Cond.selects N_L y_L_send y_L_send ∈ zT := List.mem_of_getElem? (i := 137) (by rfl)
theorem zx_138 : Cond.code y_D_greet b_D_greet 5 none ∈ zT := List.mem_of_getElem? (i := 138) (by rfl)
theorem zx_139 : Cond.instanceMethod y_D_greet ∈ zT := List.mem_of_getElem? (i := 139) (by rfl)
theorem zx_140 : Cond.selects N_D y_D_greet y_D_greet ∈ zT := List.mem_of_getElem? (i := 140) (by rfl)
theorem zx_141 : Cond.code y_R_isOwn b_R_isOwn 1 (some .boolean) ∈ zT := List.mem_of_getElem? (i := 141) (by rfl)
theorem zx_142 : Cond.initialized N_R ∈ zT := List.mem_of_getElem? (i := 142) (by rfl)
theorem zx_143 : Cond.instanceMethod y_R_isOwn ∈ zT := List.mem_of_getElem? (i := 143) (by rfl)
theorem zx_144 : Cond.selects N_R y_R_isOwn y_R_isOwn ∈ zT := List.mem_of_getElem? (i := 144) (by rfl)
theorem zx_145 : Cond.code y_R_through b_R_through 2 (some .int) ∈ zT := List.mem_of_getElem? (i := 145) (by rfl)
theorem zx_146 : Cond.instanceMethod y_R_through ∈ zT := List.mem_of_getElem? (i := 146) (by rfl)
theorem zx_147 : Cond.selects N_R y_R_through y_R_through ∈ zT := List.mem_of_getElem? (i := 147) (by rfl)
theorem zx_148 : Cond.code y_R_growIfFarther b_R_growIfFarther 2 none ∈ zT := List.mem_of_getElem? (i := 148) (by rfl)
theorem zx_149 : Cond.instanceMethod y_R_growIfFarther ∈ zT := List.mem_of_getElem? (i := 149) (by rfl)
theorem zx_150 : Cond.selects N_R y_R_growIfFarther y_R_growIfFarther ∈ zT := List.mem_of_getElem? (i := 150) (by rfl)
theorem zx_151 : Cond.code y_R_least b_R_least 3 (some .int) ∈ zT := List.mem_of_getElem? (i := 151) (by rfl)
theorem zx_152 : Cond.instanceMethod y_R_least ∈ zT := List.mem_of_getElem? (i := 152) (by rfl)
theorem zx_153 : Cond.selects N_R y_R_least y_R_least ∈ zT := List.mem_of_getElem? (i := 153) (by rfl)
theorem zx_154 : Cond.code y_R_best b_R_best 5 (some .int) ∈ zT := List.mem_of_getElem? (i := 154) (by rfl)
theorem zx_155 : Cond.instanceMethod y_R_best ∈ zT := List.mem_of_getElem? (i := 155) (by rfl)
theorem zx_156 : Cond.selects N_R y_R_best y_R_best ∈ zT := List.mem_of_getElem? (i := 156) (by rfl)
theorem zx_157 : Cond.code y_R_takeBest b_R_takeBest 4 (some .boolean) ∈ zT := List.mem_of_getElem? (i := 157) (by rfl)
theorem zx_158 : Cond.instanceMethod y_R_takeBest ∈ zT := List.mem_of_getElem? (i := 158) (by rfl)
theorem zx_159 : Cond.selects N_R y_R_takeBest y_R_takeBest ∈ zT := List.mem_of_getElem? (i := 159) (by rfl)
theorem zx_160 : Cond.code y_R_isNeighbour b_R_isNeighbour 2 (some .boolean) ∈ zT := List.mem_of_getElem? (i := 160) (by rfl)
theorem zx_161 : Cond.instanceMethod y_R_isNeighbour ∈ zT := List.mem_of_getElem? (i := 161) (by rfl)
theorem zx_162 : Cond.selects N_R y_R_isNeighbour y_R_isNeighbour ∈ zT := List.mem_of_getElem? (i := 162) (by rfl)
theorem zx_163 : Cond.code y_D_updateAllBut b_D_updateAllBut 4 none ∈ zT := List.mem_of_getElem? (i := 163) (by rfl)
theorem zx_164 : Cond.instanceMethod y_D_updateAllBut ∈ zT := List.mem_of_getElem? (i := 164) (by rfl)
theorem zx_165 : Cond.selects N_D y_D_updateAllBut y_D_updateAllBut ∈ zT := List.mem_of_getElem? (i := 165) (by rfl)
theorem zx_166 : Cond.code y_R_measureAnew b_R_measureAnew 1 none ∈ zT := List.mem_of_getElem? (i := 166) (by rfl)
theorem zx_167 : Cond.instanceMethod y_R_measureAnew ∈ zT := List.mem_of_getElem? (i := 167) (by rfl)
theorem zx_168 : Cond.selects N_R y_R_measureAnew y_R_measureAnew ∈ zT := List.mem_of_getElem? (i := 168) (by rfl)
theorem zx_169 : Cond.code y_D_askAll b_D_askAll 3 none ∈ zT := List.mem_of_getElem? (i := 169) (by rfl)
theorem zx_170 : Cond.instanceMethod y_D_askAll ∈ zT := List.mem_of_getElem? (i := 170) (by rfl)
theorem zx_171 : Cond.selects N_D y_D_askAll y_D_askAll ∈ zT := List.mem_of_getElem? (i := 171) (by rfl)
theorem zx_172 : Cond.code y_D_look b_D_look 4 none ∈ zT := List.mem_of_getElem? (i := 172) (by rfl)
theorem zx_173 : Cond.instanceMethod y_D_look ∈ zT := List.mem_of_getElem? (i := 173) (by rfl)
theorem zx_174 : Cond.selects N_D y_D_look y_D_look ∈ zT := List.mem_of_getElem? (i := 174) (by rfl)
theorem zx_175 : Cond.code y_R_isWaiting b_R_isWaiting 5 (some .boolean) ∈ zT := List.mem_of_getElem? (i := 175) (by rfl)
theorem zx_176 : Cond.instanceMethod y_R_isWaiting ∈ zT := List.mem_of_getElem? (i := 176) (by rfl)
theorem zx_177 : Cond.selects N_R y_R_isWaiting y_R_isWaiting ∈ zT := List.mem_of_getElem? (i := 177) (by rfl)
theorem zx_178 : Cond.code y_R_calmDown b_R_calmDown 1 none ∈ zT := List.mem_of_getElem? (i := 178) (by rfl)
theorem zx_179 : Cond.instanceMethod y_R_calmDown ∈ zT := List.mem_of_getElem? (i := 179) (by rfl)
theorem zx_180 : Cond.selects N_R y_R_calmDown y_R_calmDown ∈ zT := List.mem_of_getElem? (i := 180) (by rfl)
theorem zx_181 : Cond.code y_D_endIfDone b_D_endIfDone 4 none ∈ zT := List.mem_of_getElem? (i := 181) (by rfl)
theorem zx_182 : Cond.instanceMethod y_D_endIfDone ∈ zT := List.mem_of_getElem? (i := 182) (by rfl)
theorem zx_183 : Cond.selects N_D y_D_endIfDone y_D_endIfDone ∈ zT := List.mem_of_getElem? (i := 183) (by rfl)
theorem zx_184 : Cond.code y_D_weighAgain b_D_weighAgain 5 none ∈ zT := List.mem_of_getElem? (i := 184) (by rfl)
theorem zx_185 : Cond.instanceMethod y_D_weighAgain ∈ zT := List.mem_of_getElem? (i := 185) (by rfl)
theorem zx_186 : Cond.selects N_D y_D_weighAgain y_D_weighAgain ∈ zT := List.mem_of_getElem? (i := 186) (by rfl)
theorem zx_187 : Cond.code y_D_connect b_D_connect 7 (some .int) ∈ zT := List.mem_of_getElem? (i := 187) (by rfl)
theorem zx_188 : Cond.instanceMethod y_D_connect ∈ zT := List.mem_of_getElem? (i := 188) (by rfl)
theorem zx_189 : Cond.selects N_D y_D_connect y_D_connect ∈ zT := List.mem_of_getElem? (i := 189) (by rfl)
theorem zx_190 : Cond.code y_D_isLink b_D_isLink 3 (some .boolean) ∈ zT := List.mem_of_getElem? (i := 190) (by rfl)
theorem zx_191 : Cond.instanceMethod y_D_isLink ∈ zT := List.mem_of_getElem? (i := 191) (by rfl)
theorem zx_192 : Cond.selects N_D y_D_isLink y_D_isLink ∈ zT := List.mem_of_getElem? (i := 192) (by rfl)
theorem zx_193 : Cond.code y_L_senderOf b_L_senderOf 1 (some .int) ∈ zT := List.mem_of_getElem? (i := 193) (by rfl)
theorem zx_194 : Cond.static y_L_senderOf ∈ zT := List.mem_of_getElem? (i := 194) (by rfl)
theorem zx_195 : Cond.code y_L_receiverOf b_L_receiverOf 1 (some .int) ∈ zT := List.mem_of_getElem? (i := 195) (by rfl)
theorem zx_196 : Cond.static y_L_receiverOf ∈ zT := List.mem_of_getElem? (i := 196) (by rfl)
theorem zx_197 : Cond.code y_L_isFromTo b_L_isFromTo 4 (some .boolean) ∈ zT := List.mem_of_getElem? (i := 197) (by rfl)
theorem zx_198 : Cond.instanceMethod y_L_isFromTo ∈ zT := List.mem_of_getElem? (i := 198) (by rfl)
theorem zx_199 : Cond.selects N_L y_L_isFromTo y_L_isFromTo ∈ zT := List.mem_of_getElem? (i := 199) (by rfl)
theorem zx_200 : Cond.code y_L_drop b_L_drop 5 (some .int) ∈ zT := List.mem_of_getElem? (i := 200) (by rfl)
theorem zx_201 : Cond.instanceMethod y_L_drop ∈ zT := List.mem_of_getElem? (i := 201) (by rfl)
theorem zx_202 : Cond.selects N_L y_L_drop y_L_drop ∈ zT := List.mem_of_getElem? (i := 202) (by rfl)
theorem zx_203 : Cond.code y_R_forget b_R_forget 2 none ∈ zT := List.mem_of_getElem? (i := 203) (by rfl)
theorem zx_204 : Cond.instanceMethod y_R_forget ∈ zT := List.mem_of_getElem? (i := 204) (by rfl)
theorem zx_205 : Cond.selects N_R y_R_forget y_R_forget ∈ zT := List.mem_of_getElem? (i := 205) (by rfl)
theorem zx_206 : Cond.code y_D_lose b_D_lose 5 none ∈ zT := List.mem_of_getElem? (i := 206) (by rfl)
theorem zx_207 : Cond.instanceMethod y_D_lose ∈ zT := List.mem_of_getElem? (i := 207) (by rfl)
theorem zx_208 : Cond.selects N_D y_D_lose y_D_lose ∈ zT := List.mem_of_getElem? (i := 208) (by rfl)
theorem zx_209 : Cond.code y_D_cut b_D_cut 6 (some .int) ∈ zT := List.mem_of_getElem? (i := 209) (by rfl)
theorem zx_210 : Cond.instanceMethod y_D_cut ∈ zT := List.mem_of_getElem? (i := 210) (by rfl)
theorem zx_211 : Cond.selects N_D y_D_cut y_D_cut ∈ zT := List.mem_of_getElem? (i := 211) (by rfl)
theorem zx_212 : Cond.code y_L_find b_L_find 6 (some .int) ∈ zT := List.mem_of_getElem? (i := 212) (by rfl)
theorem zx_213 : Cond.instanceMethod y_L_find ∈ zT := List.mem_of_getElem? (i := 213) (by rfl)
theorem zx_214 : Cond.selects N_L y_L_find y_L_find ∈ zT := List.mem_of_getElem? (i := 214) (by rfl)
theorem zx_215 : Cond.code y_L_take b_L_take 3 (some .int) ∈ zT := List.mem_of_getElem? (i := 215) (by rfl)
theorem zx_216 : Cond.instanceMethod y_L_take ∈ zT := List.mem_of_getElem? (i := 216) (by rfl)
theorem zx_217 : Cond.selects N_L y_L_take y_L_take ∈ zT := List.mem_of_getElem? (i := 217) (by rfl)
theorem zx_218 : Cond.code y_L_kindOf b_L_kindOf 1 (some .int) ∈ zT := List.mem_of_getElem? (i := 218) (by rfl)
theorem zx_219 : Cond.static y_L_kindOf ∈ zT := List.mem_of_getElem? (i := 219) (by rfl)
theorem zx_220 : Cond.code y_L_targetOf b_L_targetOf 1 (some .int) ∈ zT := List.mem_of_getElem? (i := 220) (by rfl)
theorem zx_221 : Cond.static y_L_targetOf ∈ zT := List.mem_of_getElem? (i := 221) (by rfl)
theorem zx_222 : Cond.code y_L_distanceOf b_L_distanceOf 1 (some .int) ∈ zT := List.mem_of_getElem? (i := 222) (by rfl)
theorem zx_223 : Cond.static y_L_distanceOf ∈ zT := List.mem_of_getElem? (i := 223) (by rfl)
theorem zx_224 : Cond.code y_D_hear b_D_hear 4 none ∈ zT := List.mem_of_getElem? (i := 224) (by rfl)
theorem zx_225 : Cond.instanceMethod y_D_hear ∈ zT := List.mem_of_getElem? (i := 225) (by rfl)
theorem zx_226 : Cond.selects N_D y_D_hear y_D_hear ∈ zT := List.mem_of_getElem? (i := 226) (by rfl)
theorem zx_227 : Cond.code y_D_bring b_D_bring 6 (some .int) ∈ zT := List.mem_of_getElem? (i := 227) (by rfl)
theorem zx_228 : Cond.instanceMethod y_D_bring ∈ zT := List.mem_of_getElem? (i := 228) (by rfl)
theorem zx_229 : Cond.selects N_D y_D_bring y_D_bring ∈ zT := List.mem_of_getElem? (i := 229) (by rfl)
theorem zx_230 : Cond.code y_D_deliver b_D_deliver 4 (some .int) ∈ zT := List.mem_of_getElem? (i := 230) (by rfl)
theorem zx_231 : Cond.instanceMethod y_D_deliver ∈ zT := List.mem_of_getElem? (i := 231) (by rfl)
theorem zx_232 : Cond.selects N_D y_D_deliver y_D_deliver ∈ zT := List.mem_of_getElem? (i := 232) (by rfl)
theorem zx_233 : Cond.code y_D_run b_D_run 3 (some .int) ∈ zT := List.mem_of_getElem? (i := 233) (by rfl)
theorem zx_234 : Cond.instanceMethod y_D_run ∈ zT := List.mem_of_getElem? (i := 234) (by rfl)
theorem zx_235 : Cond.selects N_D y_D_run y_D_run ∈ zT := List.mem_of_getElem? (i := 235) (by rfl)
theorem zx_236 : Cond.code y_D_cost b_D_cost 3 (some .int) ∈ zT := List.mem_of_getElem? (i := 236) (by rfl)
theorem zx_237 : Cond.instanceMethod y_D_cost ∈ zT := List.mem_of_getElem? (i := 237) (by rfl)
theorem zx_238 : Cond.selects N_D y_D_cost y_D_cost ∈ zT := List.mem_of_getElem? (i := 238) (by rfl)
theorem zx_239 : Cond.code y_D_isRoute b_D_isRoute 3 (some .boolean) ∈ zT := List.mem_of_getElem? (i := 239) (by rfl)
theorem zx_240 : Cond.instanceMethod y_D_isRoute ∈ zT := List.mem_of_getElem? (i := 240) (by rfl)
theorem zx_241 : Cond.selects N_D y_D_isRoute y_D_isRoute ∈ zT := List.mem_of_getElem? (i := 241) (by rfl)
theorem zx_242 : Cond.code y_D_distance b_D_distance 3 (some .int) ∈ zT := List.mem_of_getElem? (i := 242) (by rfl)
theorem zx_243 : Cond.instanceMethod y_D_distance ∈ zT := List.mem_of_getElem? (i := 243) (by rfl)
theorem zx_244 : Cond.selects N_D y_D_distance y_D_distance ∈ zT := List.mem_of_getElem? (i := 244) (by rfl)
theorem zx_245 : Cond.code y_D_limit b_D_limit 3 (some .int) ∈ zT := List.mem_of_getElem? (i := 245) (by rfl)
theorem zx_246 : Cond.instanceMethod y_D_limit ∈ zT := List.mem_of_getElem? (i := 246) (by rfl)
theorem zx_247 : Cond.selects N_D y_D_limit y_D_limit ∈ zT := List.mem_of_getElem? (i := 247) (by rfl)
theorem zx_248 : Cond.code y_D_next b_D_next 3 (some .int) ∈ zT := List.mem_of_getElem? (i := 248) (by rfl)
theorem zx_249 : Cond.instanceMethod y_D_next ∈ zT := List.mem_of_getElem? (i := 249) (by rfl)
theorem zx_250 : Cond.selects N_D y_D_next y_D_next ∈ zT := List.mem_of_getElem? (i := 250) (by rfl)
theorem zx_251 : Cond.code y_D_state b_D_state 4 (some .int) ∈ zT := List.mem_of_getElem? (i := 251) (by rfl)
theorem zx_252 : Cond.instanceMethod y_D_state ∈ zT := List.mem_of_getElem? (i := 252) (by rfl)
theorem zx_253 : Cond.selects N_D y_D_state y_D_state ∈ zT := List.mem_of_getElem? (i := 253) (by rfl)
theorem zx_254 : Cond.code y_D_told b_D_told 4 (some .int) ∈ zT := List.mem_of_getElem? (i := 254) (by rfl)
theorem zx_255 : Cond.instanceMethod y_D_told ∈ zT := List.mem_of_getElem? (i := 255) (by rfl)
theorem zx_256 : Cond.selects N_D y_D_told y_D_told ∈ zT := List.mem_of_getElem? (i := 256) (by rfl)
theorem zx_257 : Cond.code y_D_waits b_D_waits 4 (some .boolean) ∈ zT := List.mem_of_getElem? (i := 257) (by rfl)
theorem zx_258 : Cond.instanceMethod y_D_waits ∈ zT := List.mem_of_getElem? (i := 258) (by rfl)
theorem zx_259 : Cond.selects N_D y_D_waits y_D_waits ∈ zT := List.mem_of_getElem? (i := 259) (by rfl)
theorem zx_260 : Cond.code y_L_count b_L_count 5 (some .int) ∈ zT := List.mem_of_getElem? (i := 260) (by rfl)
theorem zx_261 : Cond.instanceMethod y_L_count ∈ zT := List.mem_of_getElem? (i := 261) (by rfl)
theorem zx_262 : Cond.selects N_L y_L_count y_L_count ∈ zT := List.mem_of_getElem? (i := 262) (by rfl)
theorem zx_263 : Cond.code y_D_flight b_D_flight 3 (some .int) ∈ zT := List.mem_of_getElem? (i := 263) (by rfl)
theorem zx_264 : Cond.instanceMethod y_D_flight ∈ zT := List.mem_of_getElem? (i := 264) (by rfl)
theorem zx_265 : Cond.selects N_D y_D_flight y_D_flight ∈ zT := List.mem_of_getElem? (i := 265) (by rfl)
theorem zx_266 : Cond.code y_D_message b_D_message 7 (some .int) ∈ zT := List.mem_of_getElem? (i := 266) (by rfl)
theorem zx_267 : Cond.instanceMethod y_D_message ∈ zT := List.mem_of_getElem? (i := 267) (by rfl)
theorem zx_268 : Cond.selects N_D y_D_message y_D_message ∈ zT := List.mem_of_getElem? (i := 268) (by rfl)
theorem zx_269 : Cond.code y_D_hops b_D_hops 5 (some .int) ∈ zT := List.mem_of_getElem? (i := 269) (by rfl)
theorem zx_270 : Cond.instanceMethod y_D_hops ∈ zT := List.mem_of_getElem? (i := 270) (by rfl)
theorem zx_271 : Cond.selects N_D y_D_hops y_D_hops ∈ zT := List.mem_of_getElem? (i := 271) (by rfl)
theorem zx_272 : Cond.code y_D_countBusy b_D_countBusy 6 (some .int) ∈ zT := List.mem_of_getElem? (i := 272) (by rfl)
theorem zx_273 : Cond.instanceMethod y_D_countBusy ∈ zT := List.mem_of_getElem? (i := 273) (by rfl)
theorem zx_274 : Cond.selects N_D y_D_countBusy y_D_countBusy ∈ zT := List.mem_of_getElem? (i := 274) (by rfl)
theorem zx_275 : Cond.code y_D_total b_D_total 2 (some .int) ∈ zT := List.mem_of_getElem? (i := 275) (by rfl)
theorem zx_276 : Cond.instanceMethod y_D_total ∈ zT := List.mem_of_getElem? (i := 276) (by rfl)
theorem zx_277 : Cond.selects N_D y_D_total y_D_total ∈ zT := List.mem_of_getElem? (i := 277) (by rfl)
theorem zx_278 : Cond.code y_M_isRouter b_M_isRouter 2 (some .boolean) ∈ zT := List.mem_of_getElem? (i := 278) (by rfl)
theorem zx_279 : Cond.initialized N_M ∈ zT := List.mem_of_getElem? (i := 279) (by rfl)
theorem zx_280 : Cond.instanceMethod y_M_isRouter ∈ zT := List.mem_of_getElem? (i := 280) (by rfl)
theorem zx_281 : Cond.selects N_M y_M_isRouter y_M_isRouter ∈ zT := List.mem_of_getElem? (i := 281) (by rfl)
theorem zx_282 : Cond.code y_M_isLink b_M_isLink 3 (some .boolean) ∈ zT := List.mem_of_getElem? (i := 282) (by rfl)
theorem zx_283 : Cond.instanceMethod y_M_isLink ∈ zT := List.mem_of_getElem? (i := 283) (by rfl)
theorem zx_284 : Cond.selects N_M y_M_isLink y_M_isLink ∈ zT := List.mem_of_getElem? (i := 284) (by rfl)
theorem zx_285 : Cond.code y_M_send b_M_send 5 none ∈ zT := List.mem_of_getElem? (i := 285) (by rfl)
theorem zx_286 : Cond.instanceMethod y_M_send ∈ zT := List.mem_of_getElem? (i := 286) (by rfl)
theorem zx_287 : Cond.selects N_M y_M_send y_M_send ∈ zT := List.mem_of_getElem? (i := 287) (by rfl)
theorem zx_288 : Cond.code y_M_tellAll b_M_tellAll 7 (some .int) ∈ zT := List.mem_of_getElem? (i := 288) (by rfl)
theorem zx_289 : Cond.instanceMethod y_M_tellAll ∈ zT := List.mem_of_getElem? (i := 289) (by rfl)
theorem zx_290 : Cond.selects N_M y_M_tellAll y_M_tellAll ∈ zT := List.mem_of_getElem? (i := 290) (by rfl)
theorem zx_291 : Cond.code y_M_takeOut b_M_takeOut 3 none ∈ zT := List.mem_of_getElem? (i := 291) (by rfl)
theorem zx_292 : Cond.instanceMethod y_M_takeOut ∈ zT := List.mem_of_getElem? (i := 292) (by rfl)
theorem zx_293 : Cond.selects N_M y_M_takeOut y_M_takeOut ∈ zT := List.mem_of_getElem? (i := 293) (by rfl)
theorem zx_294 : Cond.code y_M_placeOf b_M_placeOf 6 (some .int) ∈ zT := List.mem_of_getElem? (i := 294) (by rfl)
theorem zx_295 : Cond.instanceMethod y_M_placeOf ∈ zT := List.mem_of_getElem? (i := 295) (by rfl)
theorem zx_296 : Cond.selects N_M y_M_placeOf y_M_placeOf ∈ zT := List.mem_of_getElem? (i := 296) (by rfl)
theorem zx_297 : Cond.code y_M_through b_M_through 5 (some .int) ∈ zT := List.mem_of_getElem? (i := 297) (by rfl)
theorem zx_298 : Cond.instanceMethod y_M_through ∈ zT := List.mem_of_getElem? (i := 298) (by rfl)
theorem zx_299 : Cond.selects N_M y_M_through y_M_through ∈ zT := List.mem_of_getElem? (i := 299) (by rfl)
theorem zx_300 : Cond.code y_M_least b_M_least 6 (some .int) ∈ zT := List.mem_of_getElem? (i := 300) (by rfl)
theorem zx_301 : Cond.instanceMethod y_M_least ∈ zT := List.mem_of_getElem? (i := 301) (by rfl)
theorem zx_302 : Cond.selects N_M y_M_least y_M_least ∈ zT := List.mem_of_getElem? (i := 302) (by rfl)
theorem zx_303 : Cond.code y_M_isSure b_M_isSure 5 (some .boolean) ∈ zT := List.mem_of_getElem? (i := 303) (by rfl)
theorem zx_304 : Cond.instanceMethod y_M_isSure ∈ zT := List.mem_of_getElem? (i := 304) (by rfl)
theorem zx_305 : Cond.selects N_M y_M_isSure y_M_isSure ∈ zT := List.mem_of_getElem? (i := 305) (by rfl)
theorem zx_306 : Cond.code y_M_isFine b_M_isFine 6 (some .boolean) ∈ zT := List.mem_of_getElem? (i := 306) (by rfl)
theorem zx_307 : Cond.instanceMethod y_M_isFine ∈ zT := List.mem_of_getElem? (i := 307) (by rfl)
theorem zx_308 : Cond.selects N_M y_M_isFine y_M_isFine ∈ zT := List.mem_of_getElem? (i := 308) (by rfl)
theorem zx_309 : Cond.code y_M_settle b_M_settle 7 none ∈ zT := List.mem_of_getElem? (i := 309) (by rfl)
theorem zx_310 : Cond.instanceMethod y_M_settle ∈ zT := List.mem_of_getElem? (i := 310) (by rfl)
theorem zx_311 : Cond.selects N_M y_M_settle y_M_settle ∈ zT := List.mem_of_getElem? (i := 311) (by rfl)
theorem zx_312 : Cond.code y_M_askAll b_M_askAll 6 (some .boolean) ∈ zT := List.mem_of_getElem? (i := 312) (by rfl)
theorem zx_313 : Cond.instanceMethod y_M_askAll ∈ zT := List.mem_of_getElem? (i := 313) (by rfl)
theorem zx_314 : Cond.selects N_M y_M_askAll y_M_askAll ∈ zT := List.mem_of_getElem? (i := 314) (by rfl)
theorem zx_315 : Cond.code y_M_end b_M_end 7 none ∈ zT := List.mem_of_getElem? (i := 315) (by rfl)
theorem zx_316 : Cond.instanceMethod y_M_end ∈ zT := List.mem_of_getElem? (i := 316) (by rfl)
theorem zx_317 : Cond.selects N_M y_M_end y_M_end ∈ zT := List.mem_of_getElem? (i := 317) (by rfl)
theorem zx_318 : Cond.code y_M_look b_M_look 7 none ∈ zT := List.mem_of_getElem? (i := 318) (by rfl)
theorem zx_319 : Cond.instanceMethod y_M_look ∈ zT := List.mem_of_getElem? (i := 319) (by rfl)
theorem zx_320 : Cond.selects N_M y_M_look y_M_look ∈ zT := List.mem_of_getElem? (i := 320) (by rfl)
theorem zx_321 : Cond.code y_M_endIfDone b_M_endIfDone 5 none ∈ zT := List.mem_of_getElem? (i := 321) (by rfl)
theorem zx_322 : Cond.instanceMethod y_M_endIfDone ∈ zT := List.mem_of_getElem? (i := 322) (by rfl)
theorem zx_323 : Cond.selects N_M y_M_endIfDone y_M_endIfDone ∈ zT := List.mem_of_getElem? (i := 323) (by rfl)
theorem zx_324 : Cond.code y_M_hear b_M_hear 7 none ∈ zT := List.mem_of_getElem? (i := 324) (by rfl)
theorem zx_325 : Cond.instanceMethod y_M_hear ∈ zT := List.mem_of_getElem? (i := 325) (by rfl)
theorem zx_326 : Cond.selects N_M y_M_hear y_M_hear ∈ zT := List.mem_of_getElem? (i := 326) (by rfl)
theorem zx_327 : Cond.code y_M_recost b_M_recost 5 none ∈ zT := List.mem_of_getElem? (i := 327) (by rfl)
theorem zx_328 : Cond.instanceMethod y_M_recost ∈ zT := List.mem_of_getElem? (i := 328) (by rfl)
theorem zx_329 : Cond.selects N_M y_M_recost y_M_recost ∈ zT := List.mem_of_getElem? (i := 329) (by rfl)
theorem zx_330 : Cond.code y_M_greet b_M_greet 4 none ∈ zT := List.mem_of_getElem? (i := 330) (by rfl)
theorem zx_331 : Cond.instanceMethod y_M_greet ∈ zT := List.mem_of_getElem? (i := 331) (by rfl)
theorem zx_332 : Cond.selects N_M y_M_greet y_M_greet ∈ zT := List.mem_of_getElem? (i := 332) (by rfl)
theorem zx_333 : Cond.code y_M_lose b_M_lose 6 none ∈ zT := List.mem_of_getElem? (i := 333) (by rfl)
theorem zx_334 : Cond.instanceMethod y_M_lose ∈ zT := List.mem_of_getElem? (i := 334) (by rfl)
theorem zx_335 : Cond.selects N_M y_M_lose y_M_lose ∈ zT := List.mem_of_getElem? (i := 335) (by rfl)
theorem zx_336 : Cond.code y_M_links b_M_links 3 (some .int) ∈ zT := List.mem_of_getElem? (i := 336) (by rfl)
theorem zx_337 : Cond.instanceMethod y_M_links ∈ zT := List.mem_of_getElem? (i := 337) (by rfl)
theorem zx_338 : Cond.selects N_M y_M_links y_M_links ∈ zT := List.mem_of_getElem? (i := 338) (by rfl)
theorem zx_339 : Cond.code y_M_connect b_M_connect 7 (some .int) ∈ zT := List.mem_of_getElem? (i := 339) (by rfl)
theorem zx_340 : Cond.instanceMethod y_M_connect ∈ zT := List.mem_of_getElem? (i := 340) (by rfl)
theorem zx_341 : Cond.selects N_M y_M_connect y_M_connect ∈ zT := List.mem_of_getElem? (i := 341) (by rfl)
theorem zx_342 : Cond.code y_M_cut b_M_cut 5 (some .int) ∈ zT := List.mem_of_getElem? (i := 342) (by rfl)
theorem zx_343 : Cond.instanceMethod y_M_cut ∈ zT := List.mem_of_getElem? (i := 343) (by rfl)
theorem zx_344 : Cond.selects N_M y_M_cut y_M_cut ∈ zT := List.mem_of_getElem? (i := 344) (by rfl)
theorem zx_345 : Cond.code y_M_arrive b_M_arrive 7 (some .int) ∈ zT := List.mem_of_getElem? (i := 345) (by rfl)
theorem zx_346 : Cond.instanceMethod y_M_arrive ∈ zT := List.mem_of_getElem? (i := 346) (by rfl)
theorem zx_347 : Cond.selects N_M y_M_arrive y_M_arrive ∈ zT := List.mem_of_getElem? (i := 347) (by rfl)
theorem zx_348 : Cond.code y_M_deliver b_M_deliver 4 (some .int) ∈ zT := List.mem_of_getElem? (i := 348) (by rfl)
theorem zx_349 : Cond.instanceMethod y_M_deliver ∈ zT := List.mem_of_getElem? (i := 349) (by rfl)
theorem zx_350 : Cond.selects N_M y_M_deliver y_M_deliver ∈ zT := List.mem_of_getElem? (i := 350) (by rfl)
theorem zx_351 : Cond.code y_M_run b_M_run 4 (some .int) ∈ zT := List.mem_of_getElem? (i := 351) (by rfl)
theorem zx_352 : Cond.instanceMethod y_M_run ∈ zT := List.mem_of_getElem? (i := 352) (by rfl)
theorem zx_353 : Cond.selects N_M y_M_run y_M_run ∈ zT := List.mem_of_getElem? (i := 353) (by rfl)
theorem zx_354 : Cond.code y_M_cost b_M_cost 3 (some .int) ∈ zT := List.mem_of_getElem? (i := 354) (by rfl)
theorem zx_355 : Cond.instanceMethod y_M_cost ∈ zT := List.mem_of_getElem? (i := 355) (by rfl)
theorem zx_356 : Cond.selects N_M y_M_cost y_M_cost ∈ zT := List.mem_of_getElem? (i := 356) (by rfl)
theorem zx_357 : Cond.code y_M_distance b_M_distance 3 (some .int) ∈ zT := List.mem_of_getElem? (i := 357) (by rfl)
theorem zx_358 : Cond.instanceMethod y_M_distance ∈ zT := List.mem_of_getElem? (i := 358) (by rfl)
theorem zx_359 : Cond.selects N_M y_M_distance y_M_distance ∈ zT := List.mem_of_getElem? (i := 359) (by rfl)
theorem zx_360 : Cond.code y_M_limit b_M_limit 3 (some .int) ∈ zT := List.mem_of_getElem? (i := 360) (by rfl)
theorem zx_361 : Cond.instanceMethod y_M_limit ∈ zT := List.mem_of_getElem? (i := 361) (by rfl)
theorem zx_362 : Cond.selects N_M y_M_limit y_M_limit ∈ zT := List.mem_of_getElem? (i := 362) (by rfl)
theorem zx_363 : Cond.code y_M_next b_M_next 3 (some .int) ∈ zT := List.mem_of_getElem? (i := 363) (by rfl)
theorem zx_364 : Cond.instanceMethod y_M_next ∈ zT := List.mem_of_getElem? (i := 364) (by rfl)
theorem zx_365 : Cond.selects N_M y_M_next y_M_next ∈ zT := List.mem_of_getElem? (i := 365) (by rfl)
theorem zx_366 : Cond.code y_M_state b_M_state 4 (some .int) ∈ zT := List.mem_of_getElem? (i := 366) (by rfl)
theorem zx_367 : Cond.instanceMethod y_M_state ∈ zT := List.mem_of_getElem? (i := 367) (by rfl)
theorem zx_368 : Cond.selects N_M y_M_state y_M_state ∈ zT := List.mem_of_getElem? (i := 368) (by rfl)
theorem zx_369 : Cond.code y_M_told b_M_told 4 (some .int) ∈ zT := List.mem_of_getElem? (i := 369) (by rfl)
theorem zx_370 : Cond.instanceMethod y_M_told ∈ zT := List.mem_of_getElem? (i := 370) (by rfl)
theorem zx_371 : Cond.selects N_M y_M_told y_M_told ∈ zT := List.mem_of_getElem? (i := 371) (by rfl)
theorem zx_372 : Cond.code y_M_waits b_M_waits 4 (some .boolean) ∈ zT := List.mem_of_getElem? (i := 372) (by rfl)
theorem zx_373 : Cond.instanceMethod y_M_waits ∈ zT := List.mem_of_getElem? (i := 373) (by rfl)
theorem zx_374 : Cond.selects N_M y_M_waits y_M_waits ∈ zT := List.mem_of_getElem? (i := 374) (by rfl)
theorem zx_375 : Cond.code y_M_flight b_M_flight 5 (some .int) ∈ zT := List.mem_of_getElem? (i := 375) (by rfl)
theorem zx_376 : Cond.instanceMethod y_M_flight ∈ zT := List.mem_of_getElem? (i := 376) (by rfl)
theorem zx_377 : Cond.selects N_M y_M_flight y_M_flight ∈ zT := List.mem_of_getElem? (i := 377) (by rfl)
theorem zx_378 : Cond.code y_M_message b_M_message 6 (some .int) ∈ zT := List.mem_of_getElem? (i := 378) (by rfl)
theorem zx_379 : Cond.instanceMethod y_M_message ∈ zT := List.mem_of_getElem? (i := 379) (by rfl)
theorem zx_380 : Cond.selects N_M y_M_message y_M_message ∈ zT := List.mem_of_getElem? (i := 380) (by rfl)
theorem zx_381 : Cond.code y_M_hops b_M_hops 6 (some .int) ∈ zT := List.mem_of_getElem? (i := 381) (by rfl)
theorem zx_382 : Cond.instanceMethod y_M_hops ∈ zT := List.mem_of_getElem? (i := 382) (by rfl)
theorem zx_383 : Cond.selects N_M y_M_hops y_M_hops ∈ zT := List.mem_of_getElem? (i := 383) (by rfl)
theorem zx_384 : Cond.code y_M_total b_M_total 4 (some .int) ∈ zT := List.mem_of_getElem? (i := 384) (by rfl)
theorem zx_385 : Cond.instanceMethod y_M_total ∈ zT := List.mem_of_getElem? (i := 385) (by rfl)
theorem zx_386 : Cond.selects N_M y_M_total y_M_total ∈ zT := List.mem_of_getElem? (i := 386) (by rfl)
theorem zx_387 : u_lay N_D FT_D 0 ∈ zT := List.mem_of_getElem? (i := 387) (by rfl)
theorem zx_388 : u_lay N_D FT_D 1 ∈ zT := List.mem_of_getElem? (i := 388) (by rfl)
theorem zx_389 : u_lay N_D FT_D 2 ∈ zT := List.mem_of_getElem? (i := 389) (by rfl)
theorem zx_390 : u_lay N_D FT_D 3 ∈ zT := List.mem_of_getElem? (i := 390) (by rfl)
theorem zx_391 : u_lay N_D FT_D 4 ∈ zT := List.mem_of_getElem? (i := 391) (by rfl)
theorem zx_392 : u_lay N_R FT_R 0 ∈ zT := List.mem_of_getElem? (i := 392) (by rfl)
theorem zx_393 : u_lay N_R FT_R 1 ∈ zT := List.mem_of_getElem? (i := 393) (by rfl)
theorem zx_394 : u_lay N_R FT_R 2 ∈ zT := List.mem_of_getElem? (i := 394) (by rfl)
theorem zx_395 : u_lay N_R FT_R 3 ∈ zT := List.mem_of_getElem? (i := 395) (by rfl)
theorem zx_396 : u_lay N_R FT_R 4 ∈ zT := List.mem_of_getElem? (i := 396) (by rfl)
theorem zx_397 : u_lay N_R FT_R 5 ∈ zT := List.mem_of_getElem? (i := 397) (by rfl)
theorem zx_398 : u_lay N_R FT_R 6 ∈ zT := List.mem_of_getElem? (i := 398) (by rfl)
theorem zx_399 : u_lay N_R FT_R 7 ∈ zT := List.mem_of_getElem? (i := 399) (by rfl)
theorem zx_400 : u_lay N_R FT_R 8 ∈ zT := List.mem_of_getElem? (i := 400) (by rfl)
theorem zx_401 : u_lay N_R FT_R 9 ∈ zT := List.mem_of_getElem? (i := 401) (by rfl)
theorem zx_402 : u_lay N_R FT_R 10 ∈ zT := List.mem_of_getElem? (i := 402) (by rfl)
theorem zx_403 : u_lay N_L FT_L 0 ∈ zT := List.mem_of_getElem? (i := 403) (by rfl)
theorem zx_404 : u_lay N_L FT_L 1 ∈ zT := List.mem_of_getElem? (i := 404) (by rfl)
theorem zx_405 : u_lay N_L FT_L 2 ∈ zT := List.mem_of_getElem? (i := 405) (by rfl)
theorem zx_406 : u_lay N_L FT_L 3 ∈ zT := List.mem_of_getElem? (i := 406) (by rfl)
theorem zx_407 : u_lay N_M FT_M 0 ∈ zT := List.mem_of_getElem? (i := 407) (by rfl)
theorem zx_408 : u_lay N_M FT_M 1 ∈ zT := List.mem_of_getElem? (i := 408) (by rfl)
theorem zx_409 : u_lay N_M FT_M 2 ∈ zT := List.mem_of_getElem? (i := 409) (by rfl)
theorem zx_410 : u_lay N_M FT_M 3 ∈ zT := List.mem_of_getElem? (i := 410) (by rfl)
theorem zx_411 : u_lay N_M FT_M 4 ∈ zT := List.mem_of_getElem? (i := 411) (by rfl)
theorem zx_412 : u_lay N_M FT_M 5 ∈ zT := List.mem_of_getElem? (i := 412) (by rfl)
theorem zx_413 : u_lay N_M FT_M 6 ∈ zT := List.mem_of_getElem? (i := 413) (by rfl)
theorem zx_414 : u_lay N_M FT_M 7 ∈ zT := List.mem_of_getElem? (i := 414) (by rfl)
theorem zx_415 : u_lay N_M FT_M 8 ∈ zT := List.mem_of_getElem? (i := 415) (by rfl)
theorem zx_416 : u_lay N_M FT_M 9 ∈ zT := List.mem_of_getElem? (i := 416) (by rfl)
theorem zx_417 : u_lay N_M FT_M 10 ∈ zT := List.mem_of_getElem? (i := 417) (by rfl)
theorem zx_418 : u_lay N_M FT_M 11 ∈ zT := List.mem_of_getElem? (i := 418) (by rfl)
theorem zx_419 : u_lay N_M FT_M 12 ∈ zT := List.mem_of_getElem? (i := 419) (by rfl)
theorem zx_420 : u_lay N_M FT_M 13 ∈ zT := List.mem_of_getElem? (i := 420) (by rfl)
theorem zx_421 : u_lay N_M FT_M 14 ∈ zT := List.mem_of_getElem? (i := 421) (by rfl)
theorem zx_422 : u_lay N_M FT_M 15 ∈ zT := List.mem_of_getElem? (i := 422) (by rfl)
theorem zx_423 : u_lay N_M FT_M 16 ∈ zT := List.mem_of_getElem? (i := 423) (by rfl)
theorem zi_D : ∀ w ∈ u_ws N_D FT_D 5, w ∈ zT := by
  intro w hw
  obtain ⟨i, hi, rfl⟩ := List.mem_map.mp hw
  have hi := List.mem_range.mp hi
  match i, hi with
  | 0, _ => exact zx_387
  | 1, _ => exact zx_388
  | 2, _ => exact zx_389
  | 3, _ => exact zx_390
  | 4, _ => exact zx_391
  | (j + 5), h => omega
theorem zi_R : ∀ w ∈ u_ws N_R FT_R 11, w ∈ zT := by
  intro w hw
  obtain ⟨i, hi, rfl⟩ := List.mem_map.mp hw
  have hi := List.mem_range.mp hi
  match i, hi with
  | 0, _ => exact zx_392
  | 1, _ => exact zx_393
  | 2, _ => exact zx_394
  | 3, _ => exact zx_395
  | 4, _ => exact zx_396
  | 5, _ => exact zx_397
  | 6, _ => exact zx_398
  | 7, _ => exact zx_399
  | 8, _ => exact zx_400
  | 9, _ => exact zx_401
  | 10, _ => exact zx_402
  | (j + 11), h => omega
theorem zi_L : ∀ w ∈ u_ws N_L FT_L 4, w ∈ zT := by
  intro w hw
  obtain ⟨i, hi, rfl⟩ := List.mem_map.mp hw
  have hi := List.mem_range.mp hi
  match i, hi with
  | 0, _ => exact zx_403
  | 1, _ => exact zx_404
  | 2, _ => exact zx_405
  | 3, _ => exact zx_406
  | (j + 4), h => omega
theorem zi_M : ∀ w ∈ u_ws N_M FT_M 17, w ∈ zT := by
  intro w hw
  obtain ⟨i, hi, rfl⟩ := List.mem_map.mp hw
  have hi := List.mem_range.mp hi
  match i, hi with
  | 0, _ => exact zx_407
  | 1, _ => exact zx_408
  | 2, _ => exact zx_409
  | 3, _ => exact zx_410
  | 4, _ => exact zx_411
  | 5, _ => exact zx_412
  | 6, _ => exact zx_413
  | 7, _ => exact zx_414
  | 8, _ => exact zx_415
  | 9, _ => exact zx_416
  | 10, _ => exact zx_417
  | 11, _ => exact zx_418
  | 12, _ => exact zx_419
  | 13, _ => exact zx_420
  | 14, _ => exact zx_421
  | 15, _ => exact zx_422
  | 16, _ => exact zx_423
  | (j + 17), h => omega
theorem zT_good : zGood zT := fun w hw => good_of_word (List.all_eq_true.mp (show zT.all goodWord = true by decide +kernel) w hw)
theorem zn_D_isRouter : zNV zT y_D_isRouter b_D_isRouter 2 (some .boolean) 1 := ⟨⟨zx_125, zx_124, by decide, by decide, by decide +kernel⟩, zx_126, zx_127⟩
theorem zn_L_size : zNV zT y_L_size b_L_size 1 (some .int) 0 := ⟨⟨zx_129, zx_128, by decide, by decide, by decide +kernel⟩, zx_130, zx_131⟩
theorem zn_D_route : zNV zT y_D_route b_D_route 3 (some (.object N_R)) 2 := ⟨⟨zx_125, zx_132, by decide, by decide, by decide +kernel⟩, zx_133, zx_134⟩
theorem zn_L_send : zNV zT y_L_send b_L_send 4 none 3 := ⟨⟨zx_129, zx_135, by decide, by decide, by decide +kernel⟩, zx_136, zx_137⟩
theorem zn_D_greet : zNV zT y_D_greet b_D_greet 5 none 2 := ⟨⟨zx_125, zx_138, by decide, by decide, by decide +kernel⟩, zx_139, zx_140⟩
theorem zn_R_isOwn : zNV zT y_R_isOwn b_R_isOwn 1 (some .boolean) 0 := ⟨⟨zx_142, zx_141, by decide, by decide, by decide +kernel⟩, zx_143, zx_144⟩
theorem zn_R_through : zNV zT y_R_through b_R_through 2 (some .int) 1 := ⟨⟨zx_142, zx_145, by decide, by decide, by decide +kernel⟩, zx_146, zx_147⟩
theorem zn_R_growIfFarther : zNV zT y_R_growIfFarther b_R_growIfFarther 2 none 1 := ⟨⟨zx_142, zx_148, by decide, by decide, by decide +kernel⟩, zx_149, zx_150⟩
theorem zn_R_least : zNV zT y_R_least b_R_least 3 (some .int) 0 := ⟨⟨zx_142, zx_151, by decide, by decide, by decide +kernel⟩, zx_152, zx_153⟩
theorem zn_R_best : zNV zT y_R_best b_R_best 5 (some .int) 1 := ⟨⟨zx_142, zx_154, by decide, by decide, by decide +kernel⟩, zx_155, zx_156⟩
theorem zn_R_takeBest : zNV zT y_R_takeBest b_R_takeBest 4 (some .boolean) 0 := ⟨⟨zx_142, zx_157, by decide, by decide, by decide +kernel⟩, zx_158, zx_159⟩
theorem zn_R_isNeighbour : zNV zT y_R_isNeighbour b_R_isNeighbour 2 (some .boolean) 1 := ⟨⟨zx_142, zx_160, by decide, by decide, by decide +kernel⟩, zx_161, zx_162⟩
theorem zn_D_updateAllBut : zNV zT y_D_updateAllBut b_D_updateAllBut 4 none 2 := ⟨⟨zx_125, zx_163, by decide, by decide, by decide +kernel⟩, zx_164, zx_165⟩
theorem zn_R_measureAnew : zNV zT y_R_measureAnew b_R_measureAnew 1 none 0 := ⟨⟨zx_142, zx_166, by decide, by decide, by decide +kernel⟩, zx_167, zx_168⟩
theorem zn_D_askAll : zNV zT y_D_askAll b_D_askAll 3 none 1 := ⟨⟨zx_125, zx_169, by decide, by decide, by decide +kernel⟩, zx_170, zx_171⟩
theorem zn_D_look : zNV zT y_D_look b_D_look 4 none 2 := ⟨⟨zx_125, zx_172, by decide, by decide, by decide +kernel⟩, zx_173, zx_174⟩
theorem zn_R_isWaiting : zNV zT y_R_isWaiting b_R_isWaiting 5 (some .boolean) 0 := ⟨⟨zx_142, zx_175, by decide, by decide, by decide +kernel⟩, zx_176, zx_177⟩
theorem zn_R_calmDown : zNV zT y_R_calmDown b_R_calmDown 1 none 0 := ⟨⟨zx_142, zx_178, by decide, by decide, by decide +kernel⟩, zx_179, zx_180⟩
theorem zn_D_endIfDone : zNV zT y_D_endIfDone b_D_endIfDone 4 none 1 := ⟨⟨zx_125, zx_181, by decide, by decide, by decide +kernel⟩, zx_182, zx_183⟩
theorem zn_D_weighAgain : zNV zT y_D_weighAgain b_D_weighAgain 5 none 2 := ⟨⟨zx_125, zx_184, by decide, by decide, by decide +kernel⟩, zx_185, zx_186⟩
theorem zn_D_connect : zNV zT y_D_connect b_D_connect 7 (some .int) 3 := ⟨⟨zx_125, zx_187, by decide, by decide, by decide +kernel⟩, zx_188, zx_189⟩
theorem zn_D_isLink : zNV zT y_D_isLink b_D_isLink 3 (some .boolean) 2 := ⟨⟨zx_125, zx_190, by decide, by decide, by decide +kernel⟩, zx_191, zx_192⟩
theorem zn_L_senderOf : zN zT y_L_senderOf b_L_senderOf 1 (some .int) 1 ∧ Cond.static y_L_senderOf ∈ zT := ⟨⟨zx_129, zx_193, by decide, by decide, by decide +kernel⟩, zx_194⟩
theorem zn_L_receiverOf : zN zT y_L_receiverOf b_L_receiverOf 1 (some .int) 1 ∧ Cond.static y_L_receiverOf ∈ zT := ⟨⟨zx_129, zx_195, by decide, by decide, by decide +kernel⟩, zx_196⟩
theorem zn_L_isFromTo : zNV zT y_L_isFromTo b_L_isFromTo 4 (some .boolean) 3 := ⟨⟨zx_129, zx_197, by decide, by decide, by decide +kernel⟩, zx_198, zx_199⟩
theorem zn_L_drop : zNV zT y_L_drop b_L_drop 5 (some .int) 2 := ⟨⟨zx_129, zx_200, by decide, by decide, by decide +kernel⟩, zx_201, zx_202⟩
theorem zn_R_forget : zNV zT y_R_forget b_R_forget 2 none 1 := ⟨⟨zx_142, zx_203, by decide, by decide, by decide +kernel⟩, zx_204, zx_205⟩
theorem zn_D_lose : zNV zT y_D_lose b_D_lose 5 none 2 := ⟨⟨zx_125, zx_206, by decide, by decide, by decide +kernel⟩, zx_207, zx_208⟩
theorem zn_D_cut : zNV zT y_D_cut b_D_cut 6 (some .int) 2 := ⟨⟨zx_125, zx_209, by decide, by decide, by decide +kernel⟩, zx_210, zx_211⟩
theorem zn_L_find : zNV zT y_L_find b_L_find 6 (some .int) 3 := ⟨⟨zx_129, zx_212, by decide, by decide, by decide +kernel⟩, zx_213, zx_214⟩
theorem zn_L_take : zNV zT y_L_take b_L_take 3 (some .int) 1 := ⟨⟨zx_129, zx_215, by decide, by decide, by decide +kernel⟩, zx_216, zx_217⟩
theorem zn_L_kindOf : zN zT y_L_kindOf b_L_kindOf 1 (some .int) 1 ∧ Cond.static y_L_kindOf ∈ zT := ⟨⟨zx_129, zx_218, by decide, by decide, by decide +kernel⟩, zx_219⟩
theorem zn_L_targetOf : zN zT y_L_targetOf b_L_targetOf 1 (some .int) 1 ∧ Cond.static y_L_targetOf ∈ zT := ⟨⟨zx_129, zx_220, by decide, by decide, by decide +kernel⟩, zx_221⟩
theorem zn_L_distanceOf : zN zT y_L_distanceOf b_L_distanceOf 1 (some .int) 1 ∧ Cond.static y_L_distanceOf ∈ zT := ⟨⟨zx_129, zx_222, by decide, by decide, by decide +kernel⟩, zx_223⟩
theorem zn_D_hear : zNV zT y_D_hear b_D_hear 4 none 3 := ⟨⟨zx_125, zx_224, by decide, by decide, by decide +kernel⟩, zx_225, zx_226⟩
theorem zn_D_bring : zNV zT y_D_bring b_D_bring 6 (some .int) 1 := ⟨⟨zx_125, zx_227, by decide, by decide, by decide +kernel⟩, zx_228, zx_229⟩
theorem zn_D_deliver : zNV zT y_D_deliver b_D_deliver 4 (some .int) 2 := ⟨⟨zx_125, zx_230, by decide, by decide, by decide +kernel⟩, zx_231, zx_232⟩
theorem zn_D_run : zNV zT y_D_run b_D_run 3 (some .int) 1 := ⟨⟨zx_125, zx_233, by decide, by decide, by decide +kernel⟩, zx_234, zx_235⟩
theorem zn_D_cost : zNV zT y_D_cost b_D_cost 3 (some .int) 2 := ⟨⟨zx_125, zx_236, by decide, by decide, by decide +kernel⟩, zx_237, zx_238⟩
theorem zn_D_isRoute : zNV zT y_D_isRoute b_D_isRoute 3 (some .boolean) 2 := ⟨⟨zx_125, zx_239, by decide, by decide, by decide +kernel⟩, zx_240, zx_241⟩
theorem zn_D_distance : zNV zT y_D_distance b_D_distance 3 (some .int) 2 := ⟨⟨zx_125, zx_242, by decide, by decide, by decide +kernel⟩, zx_243, zx_244⟩
theorem zn_D_limit : zNV zT y_D_limit b_D_limit 3 (some .int) 2 := ⟨⟨zx_125, zx_245, by decide, by decide, by decide +kernel⟩, zx_246, zx_247⟩
theorem zn_D_next : zNV zT y_D_next b_D_next 3 (some .int) 2 := ⟨⟨zx_125, zx_248, by decide, by decide, by decide +kernel⟩, zx_249, zx_250⟩
theorem zn_D_state : zNV zT y_D_state b_D_state 4 (some .int) 2 := ⟨⟨zx_125, zx_251, by decide, by decide, by decide +kernel⟩, zx_252, zx_253⟩
theorem zn_D_told : zNV zT y_D_told b_D_told 4 (some .int) 3 := ⟨⟨zx_125, zx_254, by decide, by decide, by decide +kernel⟩, zx_255, zx_256⟩
theorem zn_D_waits : zNV zT y_D_waits b_D_waits 4 (some .boolean) 3 := ⟨⟨zx_125, zx_257, by decide, by decide, by decide +kernel⟩, zx_258, zx_259⟩
theorem zn_L_count : zNV zT y_L_count b_L_count 5 (some .int) 2 := ⟨⟨zx_129, zx_260, by decide, by decide, by decide +kernel⟩, zx_261, zx_262⟩
theorem zn_D_flight : zNV zT y_D_flight b_D_flight 3 (some .int) 2 := ⟨⟨zx_125, zx_263, by decide, by decide, by decide +kernel⟩, zx_264, zx_265⟩
theorem zn_D_message : zNV zT y_D_message b_D_message 7 (some .int) 4 := ⟨⟨zx_125, zx_266, by decide, by decide, by decide +kernel⟩, zx_267, zx_268⟩
theorem zn_D_hops : zNV zT y_D_hops b_D_hops 5 (some .int) 2 := ⟨⟨zx_125, zx_269, by decide, by decide, by decide +kernel⟩, zx_270, zx_271⟩
theorem zn_D_countBusy : zNV zT y_D_countBusy b_D_countBusy 6 (some .int) 0 := ⟨⟨zx_125, zx_272, by decide, by decide, by decide +kernel⟩, zx_273, zx_274⟩
theorem zn_D_total : zNV zT y_D_total b_D_total 2 (some .int) 1 := ⟨⟨zx_125, zx_275, by decide, by decide, by decide +kernel⟩, zx_276, zx_277⟩
theorem zn_M_isRouter : zNV zT y_M_isRouter b_M_isRouter 2 (some .boolean) 1 := ⟨⟨zx_279, zx_278, by decide, by decide, by decide +kernel⟩, zx_280, zx_281⟩
theorem zn_M_isLink : zNV zT y_M_isLink b_M_isLink 3 (some .boolean) 2 := ⟨⟨zx_279, zx_282, by decide, by decide, by decide +kernel⟩, zx_283, zx_284⟩
theorem zn_M_send : zNV zT y_M_send b_M_send 5 none 4 := ⟨⟨zx_279, zx_285, by decide, by decide, by decide +kernel⟩, zx_286, zx_287⟩
theorem zn_M_tellAll : zNV zT y_M_tellAll b_M_tellAll 7 (some .int) 4 := ⟨⟨zx_279, zx_288, by decide, by decide, by decide +kernel⟩, zx_289, zx_290⟩
theorem zn_M_takeOut : zNV zT y_M_takeOut b_M_takeOut 3 none 1 := ⟨⟨zx_279, zx_291, by decide, by decide, by decide +kernel⟩, zx_292, zx_293⟩
theorem zn_M_placeOf : zNV zT y_M_placeOf b_M_placeOf 6 (some .int) 3 := ⟨⟨zx_279, zx_294, by decide, by decide, by decide +kernel⟩, zx_295, zx_296⟩
theorem zn_M_through : zNV zT y_M_through b_M_through 5 (some .int) 3 := ⟨⟨zx_279, zx_297, by decide, by decide, by decide +kernel⟩, zx_298, zx_299⟩
theorem zn_M_least : zNV zT y_M_least b_M_least 6 (some .int) 2 := ⟨⟨zx_279, zx_300, by decide, by decide, by decide +kernel⟩, zx_301, zx_302⟩
theorem zn_M_isSure : zNV zT y_M_isSure b_M_isSure 5 (some .boolean) 4 := ⟨⟨zx_279, zx_303, by decide, by decide, by decide +kernel⟩, zx_304, zx_305⟩
theorem zn_M_isFine : zNV zT y_M_isFine b_M_isFine 6 (some .boolean) 2 := ⟨⟨zx_279, zx_306, by decide, by decide, by decide +kernel⟩, zx_307, zx_308⟩
theorem zn_M_settle : zNV zT y_M_settle b_M_settle 7 none 2 := ⟨⟨zx_279, zx_309, by decide, by decide, by decide +kernel⟩, zx_310, zx_311⟩
theorem zn_M_askAll : zNV zT y_M_askAll b_M_askAll 6 (some .boolean) 2 := ⟨⟨zx_279, zx_312, by decide, by decide, by decide +kernel⟩, zx_313, zx_314⟩
theorem zn_M_end : zNV zT y_M_end b_M_end 7 none 2 := ⟨⟨zx_279, zx_315, by decide, by decide, by decide +kernel⟩, zx_316, zx_317⟩
theorem zn_M_look : zNV zT y_M_look b_M_look 7 none 3 := ⟨⟨zx_279, zx_318, by decide, by decide, by decide +kernel⟩, zx_319, zx_320⟩
theorem zn_M_endIfDone : zNV zT y_M_endIfDone b_M_endIfDone 5 none 2 := ⟨⟨zx_279, zx_321, by decide, by decide, by decide +kernel⟩, zx_322, zx_323⟩
theorem zn_M_hear : zNV zT y_M_hear b_M_hear 7 none 5 := ⟨⟨zx_279, zx_324, by decide, by decide, by decide +kernel⟩, zx_325, zx_326⟩
theorem zn_M_recost : zNV zT y_M_recost b_M_recost 5 none 2 := ⟨⟨zx_279, zx_327, by decide, by decide, by decide +kernel⟩, zx_328, zx_329⟩
theorem zn_M_greet : zNV zT y_M_greet b_M_greet 4 none 2 := ⟨⟨zx_279, zx_330, by decide, by decide, by decide +kernel⟩, zx_331, zx_332⟩
theorem zn_M_lose : zNV zT y_M_lose b_M_lose 6 none 2 := ⟨⟨zx_279, zx_333, by decide, by decide, by decide +kernel⟩, zx_334, zx_335⟩
theorem zn_M_links : zNV zT y_M_links b_M_links 3 (some .int) 0 := ⟨⟨zx_279, zx_336, by decide, by decide, by decide +kernel⟩, zx_337, zx_338⟩
theorem zn_M_connect : zNV zT y_M_connect b_M_connect 7 (some .int) 3 := ⟨⟨zx_279, zx_339, by decide, by decide, by decide +kernel⟩, zx_340, zx_341⟩
theorem zn_M_cut : zNV zT y_M_cut b_M_cut 5 (some .int) 2 := ⟨⟨zx_279, zx_342, by decide, by decide, by decide +kernel⟩, zx_343, zx_344⟩
theorem zn_M_arrive : zNV zT y_M_arrive b_M_arrive 7 (some .int) 1 := ⟨⟨zx_279, zx_345, by decide, by decide, by decide +kernel⟩, zx_346, zx_347⟩
theorem zn_M_deliver : zNV zT y_M_deliver b_M_deliver 4 (some .int) 2 := ⟨⟨zx_279, zx_348, by decide, by decide, by decide +kernel⟩, zx_349, zx_350⟩
theorem zn_M_run : zNV zT y_M_run b_M_run 4 (some .int) 1 := ⟨⟨zx_279, zx_351, by decide, by decide, by decide +kernel⟩, zx_352, zx_353⟩
theorem zn_M_cost : zNV zT y_M_cost b_M_cost 3 (some .int) 2 := ⟨⟨zx_279, zx_354, by decide, by decide, by decide +kernel⟩, zx_355, zx_356⟩
theorem zn_M_distance : zNV zT y_M_distance b_M_distance 3 (some .int) 2 := ⟨⟨zx_279, zx_357, by decide, by decide, by decide +kernel⟩, zx_358, zx_359⟩
theorem zn_M_limit : zNV zT y_M_limit b_M_limit 3 (some .int) 2 := ⟨⟨zx_279, zx_360, by decide, by decide, by decide +kernel⟩, zx_361, zx_362⟩
theorem zn_M_next : zNV zT y_M_next b_M_next 3 (some .int) 2 := ⟨⟨zx_279, zx_363, by decide, by decide, by decide +kernel⟩, zx_364, zx_365⟩
theorem zn_M_state : zNV zT y_M_state b_M_state 4 (some .int) 2 := ⟨⟨zx_279, zx_366, by decide, by decide, by decide +kernel⟩, zx_367, zx_368⟩
theorem zn_M_told : zNV zT y_M_told b_M_told 4 (some .int) 3 := ⟨⟨zx_279, zx_369, by decide, by decide, by decide +kernel⟩, zx_370, zx_371⟩
theorem zn_M_waits : zNV zT y_M_waits b_M_waits 4 (some .boolean) 3 := ⟨⟨zx_279, zx_372, by decide, by decide, by decide +kernel⟩, zx_373, zx_374⟩
theorem zn_M_flight : zNV zT y_M_flight b_M_flight 5 (some .int) 2 := ⟨⟨zx_279, zx_375, by decide, by decide, by decide +kernel⟩, zx_376, zx_377⟩
theorem zn_M_message : zNV zT y_M_message b_M_message 6 (some .int) 4 := ⟨⟨zx_279, zx_378, by decide, by decide, by decide +kernel⟩, zx_379, zx_380⟩
theorem zn_M_hops : zNV zT y_M_hops b_M_hops 6 (some .int) 2 := ⟨⟨zx_279, zx_381, by decide, by decide, by decide +kernel⟩, zx_382, zx_383⟩
theorem zn_M_total : zNV zT y_M_total b_M_total 4 (some .int) 1 := ⟨⟨zx_279, zx_384, by decide, by decide, by decide +kernel⟩, zx_385, zx_386⟩
