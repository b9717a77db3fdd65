/-! The mail, and the finished world laid as the methods know it. -/
def zJk (n i : Nat) : List zK := zJ n i ++ [(3, 0), (4, 0), (5, 0)]
def zJm (ad : zK → Nat) (q q1 q2 : Nat) : zK → Nat := fun k => if k = (3, 0) then q else if k = (4, 0) then q1 else if k = (5, 0) then q2 else ad k
theorem zJm_3 (ad : zK → Nat) (q q1 q2 : Nat) : zJm ad q q1 q2 (3, 0) = q := by unfold zJm; rw [if_pos rfl]
theorem zJm_4 (ad : zK → Nat) (q q1 q2 : Nat) : zJm ad q q1 q2 (4, 0) = q1 := by unfold zJm; rw [if_neg (by simp), if_pos rfl]
theorem zJm_5 (ad : zK → Nat) (q q1 q2 : Nat) : zJm ad q q1 q2 (5, 0) = q2 := by unfold zJm; rw [if_neg (by simp), if_neg (by simp), if_pos rfl]
theorem zJm_n {ad : zK → Nat} {q q1 q2 a b : Nat} (h3 : a ≠ 3) (h4 : a ≠ 4) (h5 : a ≠ 5) : zJm ad q q1 q2 (a, b) = ad (a, b) := by
  unfold zJm
  rw [if_neg (fun e => h3 (by injection e)), if_neg (fun e => h4 (by injection e)), if_neg (fun e => h5 (by injection e))]
theorem zJ_no {n i : Nat} {j : zK} (h : j ∈ zJ n i) : j.1 ≠ 3 ∧ j.1 ≠ 4 ∧ j.1 ≠ 5 := by
  rcases zJ_mem.mp h with h | ⟨t, ht, h⟩
  · rcases zJ0_mem.mp h with rfl | rfl | rfl | ⟨r, _, rfl⟩ <;> simp
  · rcases h with rfl | rfl | rfl <;> simp
theorem zJm_o {ad : zK → Nat} {n i q q1 q2 : Nat} {k : zK} (h : k ∈ zJ n i) : zJm ad q q1 q2 k = ad k := by
  obtain ⟨h3, h4, h5⟩ := zJ_no h
  exact zJm_n h3 h4 h5
theorem zJc_m {n : Nat} {cI cZ cR cA : ClassId} {ml : Value} {ad : zK → Nat} {i q q1 q2 : Nat} {j : zK} (h : j ∈ zJ n i) : zJc n cI cZ cR cA i ml (zJm ad q q1 q2) j = zJc n cI cZ cR cA i ml ad j := by
  have e6 : ∀ r, zJm ad q q1 q2 (6, r) = ad (6, r) := fun r => zJm_n (by decide) (by decide) (by decide)
  have e7 : ∀ r, zJm ad q q1 q2 (7, r) = ad (7, r) := fun r => zJm_n (by decide) (by decide) (by decide)
  have e8 : ∀ r, zJm ad q q1 q2 (8, r) = ad (8, r) := fun r => zJm_n (by decide) (by decide) (by decide)
  have e9 : ∀ r, zJm ad q q1 q2 (9, r) = ad (9, r) := fun r => zJm_n (by decide) (by decide) (by decide)
  have e1 : zJm ad q q1 q2 (1, 0) = ad (1, 0) := zJm_n (by decide) (by decide) (by decide)
  have e2 : zJm ad q q1 q2 (2, 0) = ad (2, 0) := zJm_n (by decide) (by decide) (by decide)
  rcases zJ_mem.mp h with h | ⟨t, ht, h⟩
  · rcases zJ0_mem.mp h with rfl | rfl | rfl | ⟨r, _, rfl⟩
    · simp only [zJc, e1, e2]
    · simp only [zJc, e6]
    · simp only [zJc, e7]
    · rfl
  · rcases h with rfl | rfl | rfl
    · simp only [zJc, e6, e8, e9]
    · rfl
    · rfl
theorem zJk_mem {n i : Nat} {j : zK} : j ∈ zJk n i ↔ j ∈ zJ n i ∨ j = (3, 0) ∨ j = (4, 0) ∨ j = (5, 0) := by
  unfold zJk
  rw [List.mem_append]
  simp only [List.mem_cons, List.not_mem_nil, or_false]
theorem zJk_nd {n i : Nat} : (zJk n i).Nodup := by
  unfold zJk
  rw [List.nodup_append]
  refine ⟨zJ_nd i, by decide, fun a ha b hb => ?_⟩
  rintro rfl
  obtain ⟨h3, h4, h5⟩ := zJ_no ha
  simp only [List.mem_cons, List.not_mem_nil, or_false] at hb
  rcases hb with rfl | rfl | rfl
  · exact h3 rfl
  · exact h4 rfl
  · exact h5 rfl
theorem zJk_di {A : Nat → Prop} {n i q q1 q2 : Nat} {ad : zK → Nat} (h : zDi A (zJ n i) ad) (hq : ∀ j, j ∈ zJ n i → ad j ≠ q) (h1 : ∀ j, j ∈ zJ n i → ad j ≠ q1) (h2 : ∀ j, j ∈ zJ n i → ad j ≠ q2) (e1 : q ≠ q1) (e2 : q ≠ q2) (e3 : q1 ≠ q2) (a0 : A q) (a1 : A q1) (a2 : A q2) : zDi A (zJk n i) (zJm ad q q1 q2) := by
  refine ⟨fun j1 m1 j2 m2 e => ?_, fun j hj => ?_⟩
  · rcases zJk_mem.mp m1 with k1 | rfl | rfl | rfl <;> rcases zJk_mem.mp m2 with k2 | rfl | rfl | rfl
    · rw [zJm_o k1, zJm_o k2] at e; exact h.1 j1 k1 j2 k2 e
    · rw [zJm_o k1, zJm_3] at e; exact absurd e (hq j1 k1)
    · rw [zJm_o k1, zJm_4] at e; exact absurd e (h1 j1 k1)
    · rw [zJm_o k1, zJm_5] at e; exact absurd e (h2 j1 k1)
    · rw [zJm_o k2, zJm_3] at e; exact absurd e.symm (hq j2 k2)
    · rfl
    · rw [zJm_3, zJm_4] at e; exact absurd e e1
    · rw [zJm_3, zJm_5] at e; exact absurd e e2
    · rw [zJm_o k2, zJm_4] at e; exact absurd e.symm (h1 j2 k2)
    · rw [zJm_4, zJm_3] at e; exact absurd e.symm e1
    · rfl
    · rw [zJm_4, zJm_5] at e; exact absurd e e3
    · rw [zJm_o k2, zJm_5] at e; exact absurd e.symm (h2 j2 k2)
    · rw [zJm_5, zJm_3] at e; exact absurd e.symm e2
    · rw [zJm_5, zJm_4] at e; exact absurd e.symm e3
    · rfl
  · rcases zJk_mem.mp hj with k | rfl | rfl | rfl
    · rw [zJm_o k]; exact h.2 j k
    · rw [zJm_3]; exact a0
    · rw [zJm_4]; exact a1
    · rw [zJm_5]; exact a2
theorem zKs_mem {n : Nat} {j : zK} : j ∈ zKs n ↔ (j = (0, 0) ∨ j = (1, 0) ∨ j = (2, 0) ∨ j = (3, 0) ∨ j = (4, 0) ∨ j = (5, 0)) ∨ (∃ r, r < n ∧ j = (6, r)) ∨ ∃ k, (k < 36 ∧ k / 6 < n ∧ k % 6 < n) ∧ (j = (7, k) ∨ j = (8, k) ∨ j = (9, k)) := by
  simp only [zKs, List.mem_append, List.mem_cons, List.not_mem_nil, or_false, List.mem_map, List.mem_range, zk_rt]
  constructor
  · rintro ((((h | ⟨r, hr, h⟩) | ⟨k, hk, h⟩) | ⟨k, hk, h⟩) | ⟨k, hk, h⟩)
    · exact Or.inl h
    · exact Or.inr (Or.inl ⟨r, hr, h.symm⟩)
    · exact Or.inr (Or.inr ⟨k, hk, Or.inl h.symm⟩)
    · exact Or.inr (Or.inr ⟨k, hk, Or.inr (Or.inl h.symm)⟩)
    · exact Or.inr (Or.inr ⟨k, hk, Or.inr (Or.inr h.symm)⟩)
  · rintro (h | ⟨r, hr, h⟩ | ⟨k, hk, h | h | h⟩)
    · exact Or.inl (Or.inl (Or.inl (Or.inl h)))
    · exact Or.inl (Or.inl (Or.inl (Or.inr ⟨r, hr, h.symm⟩)))
    · exact Or.inl (Or.inl (Or.inr ⟨k, hk, h.symm⟩))
    · exact Or.inl (Or.inr ⟨k, hk, h.symm⟩)
    · exact Or.inr ⟨k, hk, h.symm⟩
theorem zKs_nd {n : Nat} (h : n ≤ 6) : (zKs n).Nodup := by
  rcases (by omega : n = 0 ∨ n = 1 ∨ n = 2 ∨ n = 3 ∨ n = 4 ∨ n = 5 ∨ n = 6) with rfl | rfl | rfl | rfl | rfl | rfl | rfl <;> decide +kernel
theorem ztt {n a b : Nat} (ha : a < n) (hb : b < n) : (a * n + b) / n = a ∧ (a * n + b) % n = b ∧ a * n + b < n * n := by
  have h0 : 0 < n := by omega
  refine ⟨?_, ?_, ?_⟩
  · rw [Nat.mul_comm, Nat.mul_add_div h0, Nat.div_eq_of_lt hb, Nat.add_zero]
  · rw [Nat.mul_comm, Nat.mul_add_mod, Nat.mod_eq_of_lt hb]
  · have : (a + 1) * n ≤ n * n := Nat.mul_le_mul_right n ha
    rw [Nat.add_mul, Nat.one_mul] at this
    omega
def zph (n : Nat) (j : zK) : zK := if 7 ≤ j.1 then (j.1, (j.2 / 6) * n + j.2 % 6) else j
theorem zph_lo {n a b : Nat} (h : a < 7) : zph n (a, b) = (a, b) := by unfold zph; rw [if_neg (by show ¬ 7 ≤ a; omega)]
theorem zph_hi {n a b : Nat} (h : 7 ≤ a) : zph n (a, b) = (a, (b / 6) * n + b % 6) := by unfold zph; rw [if_pos h]
theorem zph_in {n : Nat} {j : zK} (h : j ∈ zKs n) : zph n j ∈ zJk n (n * n) := by
  rcases zKs_mem.mp h with h | ⟨r, hr, rfl⟩ | ⟨k, ⟨h36, h1, h2⟩, h⟩
  · rcases h with rfl | rfl | rfl | rfl | rfl | rfl <;> rw [zph_lo (by decide)] <;> refine zJk_mem.mpr ?_
    · exact Or.inl (zJ_mem.mpr (Or.inl (zJ0_mem.mpr (Or.inl rfl))))
    · exact Or.inl (zJ_mem.mpr (Or.inl (zJ0_mem.mpr (Or.inr (Or.inl rfl)))))
    · exact Or.inl (zJ_mem.mpr (Or.inl (zJ0_mem.mpr (Or.inr (Or.inr (Or.inl rfl))))))
    · exact Or.inr (Or.inl rfl)
    · exact Or.inr (Or.inr (Or.inl rfl))
    · exact Or.inr (Or.inr (Or.inr rfl))
  · rw [zph_lo (by decide)]
    exact zJk_mem.mpr (Or.inl (zJ_mem.mpr (Or.inl (zJ0_mem.mpr (Or.inr (Or.inr (Or.inr ⟨r, hr, rfl⟩)))))))
  · have ht := (ztt h1 h2).2.2
    rcases h with rfl | rfl | rfl <;> rw [zph_hi (by decide)] <;> refine zJk_mem.mpr (Or.inl (zJ_mem.mpr (Or.inr ⟨_, ht, ?_⟩)))
    · exact Or.inl rfl
    · exact Or.inr (Or.inl rfl)
    · exact Or.inr (Or.inr rfl)
theorem zph_1 (n : Nat) (j : zK) : (zph n j).1 = j.1 := by
  unfold zph
  by_cases h : 7 ≤ j.1
  · rw [if_pos h]
  · rw [if_neg h]
theorem zph_inj {n : Nat} {j1 j2 : zK} (h1 : j1 ∈ zKs n) (h2 : j2 ∈ zKs n) (e : zph n j1 = zph n j2) : j1 = j2 := by
  have e1 : j1.1 = j2.1 := by rw [← zph_1 n j1, ← zph_1 n j2, e]
  by_cases c : 7 ≤ j1.1
  · have hk : ∀ j, j ∈ zKs n → 7 ≤ j.1 → j.2 / 6 < n ∧ j.2 % 6 < n := fun j hj h7 => by
      rcases zKs_mem.mp hj with h | ⟨r, hr, rfl⟩ | ⟨k, ⟨h36, g1, g2⟩, h⟩
      · rcases h with rfl | rfl | rfl | rfl | rfl | rfl <;> exact absurd h7 (by decide)
      · exact absurd h7 (by show ¬ 7 ≤ 6; decide)
      · rcases h with rfl | rfl | rfl <;> exact ⟨g1, g2⟩
    obtain ⟨a1, b1⟩ := hk j1 h1 c
    obtain ⟨a2, b2⟩ := hk j2 h2 (by omega)
    have e2 : (zph n j1).2 = (zph n j2).2 := by rw [e]
    unfold zph at e2
    rw [if_pos c, if_pos (by omega)] at e2
    have e2 : j1.2 / 6 * n + j1.2 % 6 = j2.2 / 6 * n + j2.2 % 6 := e2
    have d1 := (ztt a1 b1).1
    have d2 := (ztt a2 b2).1
    have m1 := (ztt a1 b1).2.1
    have m2 := (ztt a2 b2).2.1
    rw [e2] at d1 m1
    refine Prod.ext e1 ?_
    have x1 : j1.2 / 6 = j2.2 / 6 := d1.symm.trans d2
    have x2 : j1.2 % 6 = j2.2 % 6 := m1.symm.trans m2
    omega
  · unfold zph at e
    rw [if_neg c, if_neg (by omega)] at e
    exact e
theorem zRd_k {a b : Nat} (ha : a < 6) (hb : b < 6) : zRd (nI a) (nI b) = if a = b then 0 else 10000 := by
  unfold zRd
  by_cases h : a = b
  · rw [if_pos h, if_pos (by rw [h])]
  · rw [if_neg h, if_neg (fun e => h ((nI_eq (by omega) (by omega)).mp e))]
theorem zJ_end {D : va_G} {A : Nat → Prop} {n : Nat} {cI cZ cR cA : ClassId} {ad : zK → Nat} {H : Heap} (hn : 2 ≤ n ∧ n ≤ 6) (hD : zDi A (zJk n (n * n)) ad) (hP : ∀ j, j ∈ zJk n (n * n) → va_at D zcl (ad j, zJc n cI cZ cR cA (n * n) (.ref (ad (3, 0))) ad j) H) : ∃ ad1 : zK → Nat, ad1 (0, 0) = ad (0, 0) ∧ zD A (zKs n) ad1 ∧ zV D zcl (zKs n) ad1 (zcE n cI cZ cR cA ad1) zIc H := by
  refine ⟨fun j => ad (zph n j), rfl, zD_mk (zKs_nd hn.2) ⟨fun j1 m1 j2 m2 e => zph_inj m1 m2 (hD.1 _ (zph_in m1) _ (zph_in m2) e), fun j m => hD.2 _ (zph_in m)⟩, zV_pt.mpr (fun j m => ?_)⟩
  have h := hP _ (zph_in m)
  rcases zKs_mem.mp m with hj | ⟨r, hr, rfl⟩ | ⟨k, ⟨h36, h1, h2⟩, hj⟩
  · rcases hj with rfl | rfl | rfl | rfl | rfl | rfl
    · exact h
    · exact h
    · refine zat_q h (fun t ht => ?_)
      rw [if_pos ht]
      have hb : t % n < 6 := Nat.lt_of_lt_of_le (Nat.mod_lt _ (by omega)) hn.2
      have e : zph n (7, 6 * (t / n) + t % n) = (7, t) := by
        rw [zph_hi (by decide)]
        have e1 : (6 * (t / n) + t % n) / 6 = t / n := by omega
        have e2 : (6 * (t / n) + t % n) % 6 = t % n := by omega
        rw [e1, e2, Nat.mul_comm, Nat.div_add_mod]
      show some (ad (7, t)) = some (ad (zph n (7, 6 * (t / n) + t % n)))
      rw [e]
    · exact h
    · exact zat_i h (fun _ _ => rfl)
    · exact zat_i h (fun _ _ => rfl)
  · exact zat_i h (fun _ _ => rfl)
  · obtain ⟨t1, t2, t3⟩ := ztt h1 h2
    rcases hj with rfl | rfl | rfl
    · have e : zJc n cI cZ cR cA (n * n) (.ref (ad (3, 0))) ad (zph n (7, k)) = zcE n cI cZ cR cA (fun j => ad (zph n j)) (7, k) (zIc 7 k) := by
        rw [zph_hi (by decide)]
        simp only [zJc, zcE]
        rw [t1, t2, zRd_k (by omega) (by omega), zph_lo (by decide), zph_hi (by decide), zph_hi (by decide)]
        rfl
      rw [e] at h
      exact h
    · exact zat_i h (fun _ _ => rfl)
    · exact zat_i h (fun _ _ => rfl)
