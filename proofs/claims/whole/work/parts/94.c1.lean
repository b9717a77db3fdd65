/-! The constructors. -/
abbrev b_L_init : ByteArray := prog_2_method_1_code
def y_L_init : MethodName := ⟨N_L, "<init>", "()V"⟩
def w_L_init : List Cond := .code y_L_init b_L_init 1 none :: ([.methodLink N_L 3 objectInit, .instanceMethod objectInit, .code objectInit ⟨#[0xb1]⟩ 1 none, .arrayClass .int] ++ zT)
theorem d_L_init_0 : decode b_L_init 0 = .ok (.aload_n 0, 1) := by decide +kernel
theorem d_L_init_1 : decode b_L_init 1 = .ok (.invokespecial 3, 3) := by decide +kernel
theorem d_L_init_4 : decode b_L_init 4 = .ok (.aload_n 0, 1) := by decide +kernel
theorem d_L_init_5 : decode b_L_init 5 = .ok (.sipush 1024, 3) := by decide +kernel
theorem d_L_init_8 : decode b_L_init 8 = .ok (.newarray .int, 2) := by decide +kernel
theorem d_L_init_10 : decode b_L_init 10 = .ok (.putfield 11, 3) := by decide +kernel
theorem d_L_init_13 : decode b_L_init 13 = .ok (.aload_n 0, 1) := by decide +kernel
theorem d_L_init_14 : decode b_L_init 14 = .ok (.iconst 3, 1) := by decide +kernel
theorem d_L_init_15 : decode b_L_init 15 = .ok (.newarray .int, 2) := by decide +kernel
theorem d_L_init_17 : decode b_L_init 17 = .ok (.putfield 15, 3) := by decide +kernel
theorem d_L_init_20 : decode b_L_init 20 = .ok (.return_, 1) := by decide +kernel
/-- the array class of this name is one -/
theorem zty_int {dC : Nat → ClassId} {dI : Nat → Nat → Nat} {cI cZ cR cA cX : ClassId} {s : State} (hK : va_K (dC, dI) zcl (zty cI cZ cR cA) s) {t : List (ClassId × FieldType)} (h : va_K (dC, dI) zcl (t ++ [(cX, .int)]) s) : cX = cI := by
  have h1 := (hK.2 0 (cI, .int) rfl).2
  have h2 := (h.2 t.length (cX, .int) (by simp)).2
  have h1 : s.vm.findClass ("[" ++ FieldType.int.toString) = some cI := h1
  have h2 : s.vm.findClass ("[" ++ FieldType.int.toString) = some cX := h2
  exact Option.some.inj (h2.symm.trans h1)
