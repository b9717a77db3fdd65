/-! The invariant, of the whole state. -/
def zOwn (n : Nat) (q : zR) : Prop := zDok (q 0) ∧ zIx n (q 2) ∧ q 3 = 0 ∧ ∀ j, j < n → q (20 + j) = 0
def zIv (n : Nat) (K : Nat → Nat → Nat → Int32) (C : Nat → Nat → Int32) (M : zM) : Prop :=
  (∀ r, r < n → zOwn n (M.1 (6 * r + r))) ∧
  (∀ r t, r < n → t < n → r ≠ t → zRw n (K r t) (M.1 (6 * r + t)) ∧ zBw n (M.1 (6 * r + t))) ∧
  (∀ k, k < 36 → ¬ (k / 6 < n ∧ k % 6 < n) → M.1 k 3 = 0) ∧
  ∀ x ∈ M.2.2, zLn n x ∧ 0 < C x.1 x.2.1
def zCc (n : Nat) (C : Nat → Nat → Int32) : Prop :=
  (∀ a b, a < 6 → b < 6 → ∃ c : Nat, c ≤ 100 ∧ C a b = nI c) ∧ (∀ a b, a < 6 → b < 6 → C a b = C b a) ∧ (∀ a, a < 6 → C a a = 0) ∧ ∀ a b, a < 6 → b < 6 → ¬ (a < n ∧ b < n) → C a b = 0
section ZI
variable {n : Nat} {K : Nat → Nat → Nat → Int32} {C : Nat → Nat → Int32} {M : zM}
theorem zCc.ok (h : zCc n C) (hn : n ≤ 6) {r : Nat} (hr : r < n) : zCok n (C r) := fun j hj => h.1 r j (by omega) (by omega)
theorem zIv_dok (h : zIv n K C M) {r t : Nat} (hr : r < n) (ht : t < n) : zDok (M.1 (6 * r + t) 0) := by
  by_cases e : r = t
  · subst e; exact (h.1 r hr).1
  · exact (h.2.1 r t hr ht e).1.d
theorem zIv_ap (hn : n ≤ 6) (h : zIv n K C M) {r t : Nat} (hr : r < n) (ht : t < n) (hne : r ≠ t) {x : zR × List zO} {cr : Nat → Int32} (h1 : zRw n cr x.1) (h2 : zOu n (C r) x.2) (h3 : zBw n x.1) : zIv n (fun a b => if a = r ∧ b = t then cr else K a b) C (zAp (6 * r + t) x M) := by
  obtain ⟨g1, g2, g3, g4⟩ := h
  refine ⟨fun r' hr' => ?_, fun r' t' hr' ht' hne' => ?_, fun k hk hno => ?_, fun y hy => ?_⟩
  · show zOwn n (va_up M.1 (6 * r + t) x.1 (6 * r' + r'))
    rw [zUp_n _ _ (by omega)]; exact g1 r' hr'
  · show zRw n (if r' = r ∧ t' = t then cr else K r' t') (va_up M.1 (6 * r + t) x.1 (6 * r' + t')) ∧ zBw n (va_up M.1 (6 * r + t) x.1 (6 * r' + t'))
    by_cases e : r' = r ∧ t' = t
    · obtain ⟨rfl, rfl⟩ := e
      rw [zUp_s, if_pos ⟨rfl, rfl⟩]; exact ⟨h1, h3⟩
    · rw [zUp_n _ _ (by omega), if_neg e]; exact g2 r' t' hr' ht' hne'
  · show va_up M.1 (6 * r + t) x.1 k 3 = 0
    rw [zUp_n _ _ (by omega)]; exact g3 k hk hno
  · have hy : y ∈ zPush (6 * r + t) x.2 M.2.2 := hy
    unfold zPush at hy
    rcases List.mem_append.mp hy with hy | hy
    · exact g4 y hy
    · obtain ⟨z, hz, rfl⟩ := List.mem_map.mp hy
      obtain ⟨q1, q2, q3, q4⟩ := h2 z hz
      have e6 := z6 (r := r) (t := t) (by omega)
      rw [e6.1, e6.2]
      exact ⟨⟨hr, q1, q3, ht, q4⟩, q2⟩
theorem zIv_out (hn : n ≤ 6) (h : zIv n K C M) {r t : Nat} (hr : r < n) (ht : t < n) {o : List zO} (h2 : zOu n (C r) o) : zIv n K C (zAp (6 * r + t) (M.1 (6 * r + t), o) M) := by
  obtain ⟨g1, g2, g3, g4⟩ := h
  have e : (zAp (6 * r + t) (M.1 (6 * r + t), o) M).1 = M.1 := zUp_eta _ _
  refine ⟨by rw [e]; exact g1, by rw [e]; exact g2, by rw [e]; exact g3, fun y hy => ?_⟩
  have hy : y ∈ zPush (6 * r + t) o M.2.2 := hy
  unfold zPush at hy
  rcases List.mem_append.mp hy with hy | hy
  · exact g4 y hy
  · obtain ⟨z, hz, rfl⟩ := List.mem_map.mp hy
    obtain ⟨q1, q2, q3, q4⟩ := h2 z hz
    have e6 := z6 (r := r) (t := t) (by omega)
    rw [e6.1, e6.2]
    exact ⟨⟨hr, q1, q3, ht, q4⟩, q2⟩
theorem zIv_sub (h : zIv n K C M) {S : Nat → Int32} {L : List zL} (hs : ∀ x ∈ L, x ∈ M.2.2) : zIv n K C (M.1, S, L) := ⟨h.1, h.2.1, h.2.2.1, fun x hx => h.2.2.2 x (hs x hx)⟩
theorem zIv_K {K' : Nat → Nat → Nat → Int32} (h : zIv n K C M) (hm : ∀ r t, r < n → t < n → r ≠ t → ∀ j, j < n → 0 < K r t j → 0 < K' r t j) : zIv n K' C M :=
  ⟨h.1, fun r t hr ht hne => ⟨zRw_mono (h.2.1 r t hr ht hne).1 (hm r t hr ht hne), (h.2.1 r t hr ht hne).2⟩, h.2.2.1, h.2.2.2⟩
theorem zIv_C {C' : Nat → Nat → Int32} (h : zIv n K C M) (hm : ∀ x ∈ M.2.2, zLn n x → 0 < C x.1 x.2.1 → 0 < C' x.1 x.2.1) : zIv n K C' M :=
  ⟨h.1, h.2.1, h.2.2.1, fun x hx => ⟨(h.2.2.2 x hx).1, hm x hx (h.2.2.2 x hx).1 (h.2.2.2 x hx).2⟩⟩
theorem zGrS_iv (hn : n ≤ 6) (h : zIv n K C M) {r o i : Nat} (hr : r < n) (ho : o < n) (hi : i < n) (hc : 0 < C r o) : zIv n K C (zGrS r o i M) := by
  unfold zGrS
  by_cases c : M.1 (6 * r + i) 0 = 10000
  · rw [if_pos c]; exact h
  · rw [if_neg c]
    refine zIv_out hn h hr hi (fun y hy => ?_)
    rw [List.mem_singleton.mp hy]
    exact ⟨ho, hc, (by decide : 0 < 3), zIv_dok h hr hi⟩
theorem zIt_iv {f : Nat → zM → zM} (hf : ∀ i M, i < n → zIv n K C M → zIv n K C (f i M)) (h : zIv n K C M) : ∀ i, i ≤ n → zIv n K C (zIt f i M)
  | 0, _ => h
  | i + 1, hi => hf i _ (by omega) (zIt_iv hf h i (by omega))
theorem zK_same (C : Nat → Nat → Int32) (r t : Nat) : (fun a b => if a = r ∧ b = t then C r else (fun a (_ : Nat) => C a) a b) = fun a (_ : Nat) => C a := by
  funext a b
  by_cases e : a = r ∧ b = t
  · rw [if_pos e, e.1]
  · rw [if_neg e]
theorem zWgS_iv (hn : n ≤ 6) (hC : zCc n C) (h : zIv n (fun a _ => C a) C M) {r o i : Nat} (hr : r < n) (hi : i < n) : zIv n (fun a _ => C a) C (zWgS C n r o i M) := by
  unfold zWgS
  by_cases c : r = i
  · rw [if_pos c]; exact h
  · rw [if_neg c]
    have hq := (h.2.1 r i hr hi c).1
    have : zRw n (C r) (if M.1 (6 * r + i) 3 = 0 then zLE (C r) (M.1 (6 * r + i)) n (-1) else zEd (C r) (zGrow (C r) (M.1 (6 * r + i)) (nI o)) n).1 ∧ zOu n (C r) (if M.1 (6 * r + i) 3 = 0 then zLE (C r) (M.1 (6 * r + i)) n (-1) else zEd (C r) (zGrow (C r) (M.1 (6 * r + i)) (nI o)) n).2 ∧ zBw n (if M.1 (6 * r + i) 3 = 0 then zLE (C r) (M.1 (6 * r + i)) n (-1) else zEd (C r) (zGrow (C r) (M.1 (6 * r + i)) (nI o)) n).1 := by
      by_cases c3 : M.1 (6 * r + i) 3 = 0
      · rw [if_pos c3]; exact zLE_ok hn (hC.ok hn hr) hq (Or.inl rfl)
      · rw [if_neg c3]; exact zEd_ok hn (hC.ok hn hr) (zGrow_ok hq _)
    have := zIv_ap hn h hr hi c this.1 this.2.1 this.2.2
    rw [zK_same] at this
    exact this
theorem zLoS_iv (hn : n ≤ 6) (hC : zCc n C) (h : zIv n K C M) {r o i : Nat} (hr : r < n) (ho : o < n) (hi : i < n) (hm : r ≠ i → ∀ j, j < n → j ≠ o → 0 < K r i j → 0 < C r j) : zIv n (fun a b => if a = r ∧ b = i then C r else K a b) C (zLoS C n r o i M) := by
  unfold zLoS
  by_cases c : r = i
  · rw [if_pos c]
    refine ⟨h.1, fun r' t' hr' ht' hne' => ?_, h.2.2⟩
    have e : ¬ (r' = r ∧ t' = i) := fun e => hne' (by rw [e.1, e.2, c])
    show zRw n (if r' = r ∧ t' = i then C r else K r' t') _ ∧ _
    rw [if_neg e]; exact h.2.1 r' t' hr' ht' hne'
  · rw [if_neg c]
    have hq := zForget_ok (cr' := C r) hn (h.2.1 r i hr hi c).1 ho (hm c)
    have : zRw n (C r) (if zForget (M.1 (6 * r + i)) o 3 = 0 then zLE (C r) (zForget (M.1 (6 * r + i)) o) n (-1) else zEd (C r) (zForget (M.1 (6 * r + i)) o) n).1 ∧ zOu n (C r) (if zForget (M.1 (6 * r + i)) o 3 = 0 then zLE (C r) (zForget (M.1 (6 * r + i)) o) n (-1) else zEd (C r) (zForget (M.1 (6 * r + i)) o) n).2 ∧ zBw n (if zForget (M.1 (6 * r + i)) o 3 = 0 then zLE (C r) (zForget (M.1 (6 * r + i)) o) n (-1) else zEd (C r) (zForget (M.1 (6 * r + i)) o) n).1 := by
      by_cases c3 : zForget (M.1 (6 * r + i)) o 3 = 0
      · rw [if_pos c3]; exact zLE_ok hn (hC.ok hn hr) hq (Or.inl rfl)
      · rw [if_neg c3]; exact zEd_ok hn (hC.ok hn hr) hq
    exact zIv_ap hn h hr hi c this.1 this.2.1 this.2.2
theorem zLoIt_iv (hn : n ≤ 6) (hC : zCc n C) (h : zIv n K C M) {r o : Nat} (hr : r < n) (ho : o < n) (hm : ∀ i, i < n → r ≠ i → ∀ j, j < n → j ≠ o → 0 < K r i j → 0 < C r j) : ∀ i, i ≤ n → zIv n (fun a b => if a = r ∧ b < i then C r else K a b) C (zIt (zLoS C n r o) i M)
  | 0, _ => by
    have e : (fun a b => if a = r ∧ b < 0 then C r else K a b) = K := by
      funext a b
      rw [if_neg (fun c => absurd c.2 (by omega))]
    rw [e]; exact h
  | i + 1, hi => by
    have ih := zLoIt_iv hn hC h hr ho hm i (by omega)
    have := zLoS_iv hn hC ih hr ho (show i < n by omega) (fun hne j hj hjo hp => by
      have hp : 0 < (if r = r ∧ i < i then C r else K r i) j := hp
      rw [if_neg (fun c => absurd c.2 (by omega))] at hp
      exact hm i (by omega) hne j hj hjo hp)
    have e : (fun a b => if a = r ∧ b = i then C r else (fun a b => if a = r ∧ b < i then C r else K a b) a b) = fun a b => if a = r ∧ b < i + 1 then C r else K a b := by
      funext a b
      show (if a = r ∧ b = i then C r else if a = r ∧ b < i then C r else K a b) = _
      by_cases c1 : a = r ∧ b = i
      · rw [if_pos c1, if_pos ⟨c1.1, by omega⟩]
      · rw [if_neg c1]
        by_cases c2 : a = r ∧ b < i
        · rw [if_pos c2, if_pos ⟨c2.1, by omega⟩]
        · rw [if_neg c2, if_neg (fun c => by
            rcases Nat.lt_or_ge b i with g | g
            · exact c2 ⟨c.1, g⟩
            · exact c1 ⟨c.1, by omega⟩)]
    rw [e] at this
    exact this
theorem zHr_len (cr : Nat → Int32) (q : zR) (n fr kd : Nat) : (zHr cr q n fr kd).2.length ≤ 3 * (n + 1) := by
  unfold zHr
  by_cases c : q 3 = 0
  · rw [if_pos c]; exact zLE_len cr q n _
  · rw [if_neg c]
    by_cases k : kd = 1
    · rw [if_pos k]
      by_cases e : nI fr = q 2
      · rw [if_pos e]; have := zEd_len cr (va_up (va_up q 4 1) 5 1) n; omega
      · rw [if_neg e]
        have := zEd_len cr q n
        show ([(fr, 2, q 0)] ++ (zEd cr q n).2).length ≤ _
        rw [List.length_append]
        show 1 + (zEd cr q n).2.length ≤ _
        omega
    · rw [if_neg k]; have := zEd_len cr (zGrow cr (if kd = 2 then va_up q (20 + fr) 0 else q) (nI fr)) n; omega
theorem zBr_len (hn : n ≤ 6) (x : zL) (M : zM) : (zBr C n x M).2.2.length ≤ M.2.2.length + 21 := by
  unfold zBr
  by_cases c : x.2.1 = x.2.2.2.1
  · rw [if_pos c]
    by_cases k : x.2.2.1 = 1
    · rw [if_pos k, zAp_len]
      show _ + 1 ≤ _
      omega
    · rw [if_neg k]; omega
  · rw [if_neg c, zAp_len]
    have := zHr_len (C x.2.1) (va_up (M.1 (6 * x.2.1 + x.2.2.2.1)) (10 + x.1) x.2.2.2.2) n x.1 x.2.2.1
    omega
theorem zBr_iv (hn : n ≤ 6) (hC : zCc n C) (h : zIv n (fun a _ => C a) C M) {x : zL} (hx : zLn n x) (hp : 0 < C x.1 x.2.1) : zIv n (fun a _ => C a) C (zBr C n x M) := by
  obtain ⟨fr, to, kd, tg, d⟩ := x
  obtain ⟨n1, n2, n3, n4, n5⟩ := hx
  dsimp only at n1 n2 n3 n4 n5 hp
  have hp' : 0 < C to fr := by rw [hC.2.1 to fr (by omega) (by omega)]; exact hp
  unfold zBr
  dsimp only
  by_cases c : to = tg
  · rw [if_pos c]
    by_cases k : kd = 1
    · rw [if_pos k]
      refine zIv_out hn h n2 n4 (fun y hy => ?_)
      rw [List.mem_singleton.mp hy]
      exact ⟨n1, hp', (by decide : 2 < 3), zIv_dok h n2 n4⟩
    · rw [if_neg k]; exact h
  · rw [if_neg c]
    obtain ⟨a1, a2, a3⟩ := zHr_ok (kd := kd) hn (hC.ok hn n2) (zRw_t hn (h.2.1 to tg n2 n4 c).1 n1 n5) n1 hp'
    have := zIv_ap hn h n2 n4 c a1 a2 a3
    rw [zK_same] at this
    exact this
end ZI
