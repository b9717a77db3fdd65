/-! The reference's constructor: its two loops, then the whole. -/
theorem zV_pt {D : va_G} {cl : List vw_C} {ks : List zK} {ad : zK → Nat} {E : zK → (Nat → Int32) → va_E} {st : zS} {H : Heap} : zV D cl ks ad E st H ↔ ∀ j, j ∈ ks → va_at D cl (ad j, E j (st j.1 j.2)) H := by
  constructor
  · intro hP j hj
    obtain ⟨q, -, hq⟩ := zW_at (ad := ad) (ct := fun j => E j (st j.1 j.2)) hj
    exact hP q _ hq
  · intro h i q hq
    have hm := List.mem_of_getElem? hq
    obtain ⟨j, hj, rfl⟩ := List.mem_map.mp hm
    exact h j hj
def zLm (a : Nat) : Nat := if a = 0 then 1 else if a ≤ 7 then 36 else if a ≤ 9 then 216 else if a ≤ 14 then 1024 else 3
theorem zVm_to {D : va_G} {n : Nat} {cI cZ : ClassId} {ad : zK → Nat} {st st' : zS} {H : Heap} (hP : zV D zcl zKm ad (zmE n cI cZ ad) st H) (h : ∀ a i, i < zLm a → st a 0 i = st' a 0 i) : zV D zcl zKm ad (zmE n cI cZ ad) st' H := by
  have hat := zV_pt.mp hP
  refine zV_pt.mpr (fun j hj => ?_)
  have h0 := hat j hj
  obtain ⟨a, ha, rfl⟩ := List.mem_map.mp hj
  have ha := List.mem_range.mp ha
  match a, ha, h0 with
  | 0, _, h0 =>
    have e : st 0 0 0 = st' 0 0 0 := h 0 0 (by decide)
    have e2 : zmE n cI cZ ad (0, 0) (st 0 0) = zmE n cI cZ ad (0, 0) (st' 0 0) := by simp only [zmE, e]
    have h0 : va_at D zcl (ad (0, 0), zmE n cI cZ ad (0, 0) (st 0 0)) H := h0
    rw [e2] at h0
    exact h0
  | 1, _, h0 => exact zat_i h0 (fun i hi => h 1 i hi)
  | 2, _, h0 => exact zat_i h0 (fun i hi => h 2 i hi)
  | 3, _, h0 => exact zat_i h0 (fun i hi => h 3 i hi)
  | 4, _, h0 => exact zat_i h0 (fun i hi => h 4 i hi)
  | 5, _, h0 => exact zat_i h0 (fun i hi => h 5 i hi)
  | 6, _, h0 => exact zat_i h0 (fun i hi => h 6 i hi)
  | 7, _, h0 => exact zat_i h0 (fun i hi => h 7 i hi)
  | 8, _, h0 => exact zat_i h0 (fun i hi => h 8 i hi)
  | 9, _, h0 => exact zat_i h0 (fun i hi => h 9 i hi)
  | 10, _, h0 => exact zat_i h0 (fun i hi => h 10 i hi)
  | 11, _, h0 => exact zat_i h0 (fun i hi => h 11 i hi)
  | 12, _, h0 => exact zat_i h0 (fun i hi => h 12 i hi)
  | 13, _, h0 => exact zat_i h0 (fun i hi => h 13 i hi)
  | 14, _, h0 => exact zat_i h0 (fun i hi => h 14 i hi)
  | 15, _, h0 => exact zat_i h0 (fun i hi => h 15 i hi)
  | a + 16, ha, _ => exact absurd ha (by omega)
def zDg (i : Nat) : Int32 := if i / 6 = i % 6 then 0 else 10000
theorem zdm : ∀ i, i < 36 → ((nI i / 6 = nI i - nI i / 6 * 6) ↔ i / 6 = i % 6) := by decide +kernel
def zM1 (i : Nat) (st : zS) : Prop := (∀ j, j < i → st 2 0 j = zDg j ∧ st 3 0 j = zDg j ∧ st 4 0 j = -1) ∧ ∀ a j, a ≠ 2 → a ≠ 3 → a ≠ 4 → st a 0 j = 0
def zM2 (i : Nat) (st : zS) : Prop := (∀ j, j < 36 → st 2 0 j = zDg j ∧ st 3 0 j = zDg j ∧ st 4 0 j = -1) ∧ (∀ j, j < i → st 8 0 j = 10000) ∧ ∀ a j, a ≠ 2 → a ≠ 3 → a ≠ 4 → a ≠ 8 → st a 0 j = 0
theorem zs_e (st : zS) (a k i : Nat) (v : Int32) : zs st a k i v a k i = v := by
  unfold zs
  rw [if_pos ⟨rfl, rfl, rfl⟩]
theorem zs_n {st : zS} {a k i : Nat} {v : Int32} {a' k' i' : Nat} (h : a' ≠ a ∨ i' ≠ i) : zs st a k i v a' k' i' = st a' k' i' := by
  unfold zs
  rw [if_neg]
  rintro ⟨h1, -, h3⟩
  rcases h with h | h
  · exact h h1
  · exact h h3
theorem zM1_s {i : Nat} {st : zS} (h : zM1 i st) : zM1 (i + 1) (zs (zs (zs st 2 0 i (zDg i)) 3 0 i (zDg i)) 4 0 i (-1)) := by
  refine ⟨fun j hj => ?_, fun a j h2 h3 h4 => ?_⟩
  · by_cases e : j = i
    · subst e
      refine ⟨?_, ?_, zs_e _ _ _ _ _⟩
      · rw [zs_n (Or.inl (by decide)), zs_n (Or.inl (by decide)), zs_e]
      · rw [zs_n (Or.inl (by decide)), zs_e]
    · have := h.1 j (by omega)
      rw [zs_n (Or.inr e), zs_n (Or.inr e), zs_n (Or.inr e), zs_n (Or.inr e), zs_n (Or.inr e), zs_n (Or.inr e), zs_n (Or.inr e), zs_n (Or.inr e), zs_n (Or.inr e)]
      exact this
  · rw [zs_n (Or.inl h4), zs_n (Or.inl h3), zs_n (Or.inl h2)]
    exact h.2 a j h2 h3 h4
theorem zM2_0 {st : zS} (h : zM1 36 st) : zM2 0 st := ⟨h.1, fun j hj => absurd hj (by omega), fun a j h2 h3 h4 _ => h.2 a j h2 h3 h4⟩
theorem zM2_s {i : Nat} {st : zS} (h : zM2 i st) : zM2 (i + 1) (zs st 8 0 i 10000) := by
  refine ⟨fun j hj => ?_, fun j hj => ?_, fun a j h2 h3 h4 h8 => ?_⟩
  · rw [zs_n (Or.inl (by decide)), zs_n (Or.inl (by decide)), zs_n (Or.inl (by decide))]
    exact h.1 j hj
  · by_cases e : j = i
    · subst e; exact zs_e _ _ _ _ _
    · rw [zs_n (Or.inr e)]; exact h.2.1 j (by omega)
  · rw [zs_n (Or.inl h8)]; exact h.2.2 a j h2 h3 h4 h8
theorem zM2_e {D : va_G} {n : Nat} {cI cZ : ClassId} {ad : zK → Nat} {st : zS} {H : Heap} (h : zM2 216 st) (hP : zV D zcl zKm ad (zmE n cI cZ ad) st H) : zV D zcl zKm ad (zmE n cI cZ ad) zIm H := by
  refine zVm_to hP (fun a i hi => ?_)
  unfold zIm
  by_cases h2 : a = 2
  · subst h2; rw [if_pos (Or.inl rfl)]; exact (h.1 i hi).1
  by_cases h3 : a = 3
  · subst h3; rw [if_pos (Or.inr rfl)]; exact (h.1 i hi).2.1
  rw [if_neg (fun c => c.elim h2 h3)]
  by_cases h4 : a = 4
  · subst h4; rw [if_pos rfl]; exact (h.1 i hi).2.2
  rw [if_neg h4]
  by_cases h8 : a = 8
  · subst h8; rw [if_pos rfl]; exact h.2.1 i hi
  rw [if_neg h8]
  exact h.2.2 a i h2 h3 h4 h8
section CM
variable {p : Program} {l : Launch} {e : Env} {R : Room} {s : State} {m : MethodId} {args : Array Value} {below : List Frame} {meth : Method} {c : Code} {cells slots mc ms : Nat} {A : Nat → Prop}
variable {dC : Nat → ClassId} {dI : Nat → Nat → Nat} {cI cZ cR cA : ClassId} {n : Nat} {ad : zK → Nat} {Po : Heap → Prop} {x : Int32}
set_option maxHeartbeats 4000000 in
set_option maxRecDepth 100000 in
theorem M_loop2 (S : CallFix p m c b_M_init 3 s args zTi N_M) (hr : meth.sig.returnType = none) (hlk : meth.locks = false) (hK : va_K (dC, dI) zcl (zty cI cZ cR cA) s) (hD : zD A zKm ad) (hc : cells ≤ mc) (hs : slots ≤ ms) (hPo : ∀ H, zV (dC, dI) zcl zKm ad (zmE n cI cZ ad) zIm H → Po H) : ∀ (k i : Nat), i + k = 216 → ∀ (ls : Array Slot) (H : Heap) (locs : List Loc) (st : zS), zM2 i st → zV (dC, dI) zcl zKm ad (zmE n cI cZ ad) st H → va_S A s.heap H locs → lv_has ls 3 [(2, .int (nI i)), (0, .ref (ad (0, 0))), (1, .int x)] → W p l e R s m args below meth c H locs cells slots (zQi below A Po args s mc ms) (F0 m 226 ls []) := by
  intro k
  induction k with
  | zero =>
    intro i hi ls H locs st hst hP hS hl
    obtain rfl : i = 216 := by omega
    refine lv_iload_n S.1 S.2.1 d_M_init_226 rfl (lv_at hl 0 rfl) ?_
    refine lv_sipush (v := 216) S.1 S.2.1 d_M_init_227 (by decide) ?_
    refine lv_icmp_ge (tgt := 248) S.1 S.2.1 d_M_init_230 (by decide) (fun h => ?_) (fun h => absurd (nI_le (a := 216) (b := 216) (by omega) (by omega)) h)
    exact zi_ret S hr hlk hS hc hs d_M_init_248 (hPo H (zM2_e hst hP))
  | succ k ih =>
    intro i hi ls H locs st hst hP hS hl
    refine lv_iload_n S.1 S.2.1 d_M_init_226 rfl (lv_at hl 0 rfl) ?_
    refine lv_sipush (v := 216) S.1 S.2.1 d_M_init_227 (by decide) ?_
    refine lv_icmp_ge (tgt := 248) S.1 S.2.1 d_M_init_230 (by decide) (fun h => absurd h (nI_ge (a := i) (b := 216) (by omega) (by omega))) (fun h => ?_)
    refine lv_aload_n S.1 S.2.1 d_M_init_233 rfl (lv_at hl 1 rfl) ?_
    refine zr_get (C := N_M) (T := FT_M) (N := 17) S (fun w h => zwT (zi_M w h)) hK hP zkm_0 rfl rfl 8 (by decide) (zwi 44 rfl) (v := .ref (ad (8, 0))) rfl d_M_init_234 ?_
    refine lv_iload_n S.1 S.2.1 d_M_init_237 rfl (lv_at hl 0 rfl) ?_
    refine lv_sipush (v := 10000) S.1 S.2.1 d_M_init_238 (by decide) ?_
    refine zr_iast S hK hP hD hS zkm_8 (fun _ => rfl) 0 rfl (zo_in (by omega) (by omega)) d_M_init_241 (fun H1 locs1 hP1 hS1 => ?_)
    rw [zo_c (by omega)] at hP1
    refine lv_iinc (k := 0) (v := nI (i + 1)) S.1 S.2.1 d_M_init_242 hl rfl (nI_succ i).symm (by decide) rfl (fun ls hl => ?_)
    refine lv_goto (tgt := 226) S.1 S.2.1 d_M_init_245 (by decide) ?_
    exact ih (i + 1) (by omega) ls H1 locs1 _ (zM2_s hst) hP1 hS1 hl
set_option maxHeartbeats 4000000 in
set_option maxRecDepth 100000 in
theorem M_loop1 (S : CallFix p m c b_M_init 3 s args zTi N_M) (hr : meth.sig.returnType = none) (hlk : meth.locks = false) (hK : va_K (dC, dI) zcl (zty cI cZ cR cA) s) (hD : zD A zKm ad) (hc : cells ≤ mc) (hs : slots ≤ ms) (hPo : ∀ H, zV (dC, dI) zcl zKm ad (zmE n cI cZ ad) zIm H → Po H) : ∀ (k i : Nat), i + k = 36 → ∀ (ls : Array Slot) (H : Heap) (locs : List Loc) (st : zS), zM1 i st → zV (dC, dI) zcl zKm ad (zmE n cI cZ ad) st H → va_S A s.heap H locs → lv_has ls 3 [(2, .int (nI i)), (0, .ref (ad (0, 0))), (1, .int x)] → W p l e R s m args below meth c H locs cells slots (zQi below A Po args s mc ms) (F0 m 157 ls []) := by
  intro k
  induction k with
  | zero =>
    intro i hi ls H locs st hst hP hS hl
    obtain rfl : i = 36 := by omega
    refine lv_iload_n S.1 S.2.1 d_M_init_157 rfl (lv_at hl 0 rfl) ?_
    refine lv_bipush (v := 36) S.1 S.2.1 d_M_init_158 (by decide) ?_
    refine lv_icmp_ge (tgt := 224) S.1 S.2.1 d_M_init_160 (by decide) (fun h => ?_) (fun h => absurd (nI_le (a := 36) (b := 36) (by omega) (by omega)) h)
    refine lv_iconst (v := 0) S.1 S.2.1 d_M_init_224 (by decide) ?_
    refine lv_istore_n S.1 S.2.1 d_M_init_225 rfl hl (by decide) rfl (fun ls hl => ?_)
    exact M_loop2 S hr hlk hK hD hc hs hPo 216 0 (by omega) ls H locs st (zM2_0 hst) hP hS hl
  | succ k ih =>
    intro i hi ls H locs st hst hP hS hl
    have hi36 : i < 36 := by omega
    have h31 : i < 2 ^ 31 := by omega
    refine lv_iload_n S.1 S.2.1 d_M_init_157 rfl (lv_at hl 0 rfl) ?_
    refine lv_bipush (v := 36) S.1 S.2.1 d_M_init_158 (by decide) ?_
    refine lv_icmp_ge (tgt := 224) S.1 S.2.1 d_M_init_160 (by decide) (fun h => absurd h (nI_ge (a := i) (b := 36) (by omega) (by omega))) (fun h => ?_)
    refine lv_aload_n S.1 S.2.1 d_M_init_163 rfl (lv_at hl 1 rfl) ?_
    refine zr_get (C := N_M) (T := FT_M) (N := 17) S (fun w h => zwT (zi_M w h)) hK hP zkm_0 rfl rfl 2 (by decide) (zwi 38 rfl) (v := .ref (ad (2, 0))) rfl d_M_init_164 ?_
    refine lv_iload_n S.1 S.2.1 d_M_init_167 rfl (lv_at hl 0 rfl) ?_
    refine lv_iload_n S.1 S.2.1 d_M_init_168 rfl (lv_at hl 0 rfl) ?_
    refine lv_bipush (v := 6) S.1 S.2.1 d_M_init_169 (by decide) ?_
    refine lv_idiv S.1 S.2.1 d_M_init_171 (by decide) ?_
    refine lv_iload_n S.1 S.2.1 d_M_init_172 rfl (lv_at hl 0 rfl) ?_
    refine lv_bipush (v := 6) S.1 S.2.1 d_M_init_173 (by decide) ?_
    refine lv_irem S.1 S.2.1 d_M_init_175 (by decide) ?_
    have join1 : ∀ d : Int32, d = zDg i → W p l e R s m args below meth c H locs cells slots (zQi below A Po args s mc ms) (F0 m 186 ls [.int d, .int (nI i), .ref (ad (2, 0))]) := by
      intro d hd
      subst hd
      refine zr_iast S hK hP hD hS zkm_2 (fun _ => rfl) 0 rfl (zo_in (by omega) (by omega)) d_M_init_186 (fun H locs hP hS => ?_)
      rw [zo_c h31] at hP
      refine lv_aload_n S.1 S.2.1 d_M_init_187 rfl (lv_at hl 1 rfl) ?_
      refine zr_get (C := N_M) (T := FT_M) (N := 17) S (fun w h => zwT (zi_M w h)) hK hP zkm_0 rfl rfl 3 (by decide) (zwi 39 rfl) (v := .ref (ad (3, 0))) rfl d_M_init_188 ?_
      refine lv_iload_n S.1 S.2.1 d_M_init_191 rfl (lv_at hl 0 rfl) ?_
      refine lv_iload_n S.1 S.2.1 d_M_init_192 rfl (lv_at hl 0 rfl) ?_
      refine lv_bipush (v := 6) S.1 S.2.1 d_M_init_193 (by decide) ?_
      refine lv_idiv S.1 S.2.1 d_M_init_195 (by decide) ?_
      refine lv_iload_n S.1 S.2.1 d_M_init_196 rfl (lv_at hl 0 rfl) ?_
      refine lv_bipush (v := 6) S.1 S.2.1 d_M_init_197 (by decide) ?_
      refine lv_irem S.1 S.2.1 d_M_init_199 (by decide) ?_
      have join2 : ∀ d : Int32, d = zDg i → W p l e R s m args below meth c H locs cells slots (zQi below A Po args s mc ms) (F0 m 210 ls [.int d, .int (nI i), .ref (ad (3, 0))]) := by
        intro d hd
        subst hd
        refine zr_iast S hK hP hD hS zkm_3 (fun _ => rfl) 0 rfl (zo_in (by omega) (by omega)) d_M_init_210 (fun H locs hP hS => ?_)
        rw [zo_c h31] at hP
        refine lv_aload_n S.1 S.2.1 d_M_init_211 rfl (lv_at hl 1 rfl) ?_
        refine zr_get (C := N_M) (T := FT_M) (N := 17) S (fun w h => zwT (zi_M w h)) hK hP zkm_0 rfl rfl 4 (by decide) (zwi 40 rfl) (v := .ref (ad (4, 0))) rfl d_M_init_212 ?_
        refine lv_iload_n S.1 S.2.1 d_M_init_215 rfl (lv_at hl 0 rfl) ?_
        refine lv_iconst (v := -1) S.1 S.2.1 d_M_init_216 (by decide) ?_
        refine zr_iast S hK hP hD hS zkm_4 (fun _ => rfl) 0 rfl (zo_in (by omega) (by omega)) d_M_init_217 (fun H locs hP hS => ?_)
        rw [zo_c h31] at hP
        refine lv_iinc (k := 0) (v := nI (i + 1)) S.1 S.2.1 d_M_init_218 hl rfl (nI_succ i).symm (by decide) rfl (fun ls hl => ?_)
        refine lv_goto (tgt := 157) S.1 S.2.1 d_M_init_221 (by decide) ?_
        exact ih (i + 1) (by omega) ls H locs _ (zM1_s hst) hP hS hl
      refine lv_icmp_ne (tgt := 207) S.1 S.2.1 d_M_init_200 (by decide) (fun h => ?_) (fun h => ?_)
      · refine lv_sipush (v := 10000) S.1 S.2.1 d_M_init_207 (by decide) ?_
        exact join2 10000 (by unfold zDg; rw [if_neg (fun q => h ((zdm i hi36).mpr q))])
      · refine lv_iconst (v := 0) S.1 S.2.1 d_M_init_203 (by decide) ?_
        refine lv_goto (tgt := 210) S.1 S.2.1 d_M_init_204 (by decide) ?_
        exact join2 0 (by unfold zDg; rw [if_pos ((zdm i hi36).mp h)])
    refine lv_icmp_ne (tgt := 183) S.1 S.2.1 d_M_init_176 (by decide) (fun h => ?_) (fun h => ?_)
    · refine lv_sipush (v := 10000) S.1 S.2.1 d_M_init_183 (by decide) ?_
      exact join1 10000 (by unfold zDg; rw [if_neg (fun q => h ((zdm i hi36).mpr q))])
    · refine lv_iconst (v := 0) S.1 S.2.1 d_M_init_179 (by decide) ?_
      refine lv_goto (tgt := 186) S.1 S.2.1 d_M_init_180 (by decide) ?_
      exact join1 0 (by unfold zDg; rw [if_pos ((zdm i hi36).mp h)])
end CM
