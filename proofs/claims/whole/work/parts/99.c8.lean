/-! The program's constructor: the world while the routes are being made. -/
theorem zW_pt {D : va_G} {cl : List vw_C} {ks : List zK} {ad : zK → Nat} {ct : zK → va_E} {H : Heap} : va_P D cl (zW ks ad ct) H ↔ ∀ j, j ∈ ks → va_at D cl (ad j, ct j) H := by
  constructor
  · intro hP j hj
    obtain ⟨q, -, hq⟩ := zW_at (ad := ad) (ct := ct) hj
    exact hP q _ hq
  · intro h i q hq
    obtain ⟨j, hj, rfl⟩ := List.mem_map.mp (List.mem_of_getElem? hq)
    exact h j hj
def zDi (A : Nat → Prop) (ks : List zK) (ad : zK → Nat) : Prop := (∀ j1, j1 ∈ ks → ∀ j2, j2 ∈ ks → ad j1 = ad j2 → j1 = j2) ∧ ∀ j, j ∈ ks → A (ad j)
theorem zD_mk {A : Nat → Prop} {ks : List zK} {ad : zK → Nat} (hn : ks.Nodup) (h : zDi A ks ad) : zD A ks ad := fun ct => by
  have at' : ∀ (i : Nat) (q : Nat × va_E), (zW ks ad ct)[i]? = some q → ∃ j, ks[i]? = some j ∧ q.1 = ad j := fun i q hq => by
    rw [List.getElem?_map] at hq
    cases hk : ks[i]? with
    | none => rw [hk] at hq; cases hq
    | some j => rw [hk] at hq; cases hq; exact ⟨j, rfl, rfl⟩
  refine ⟨fun i j p q hi hj hpq => ?_, fun k q hq => ?_⟩
  · obtain ⟨a, ha, e1⟩ := at' i p hi
    obtain ⟨b, hb, e2⟩ := at' j q hj
    have hab := h.1 a (List.mem_of_getElem? ha) b (List.mem_of_getElem? hb) (by rw [← e1, ← e2]; exact hpq)
    subst hab
    have hi' := List.getElem?_eq_some_iff.mp ha
    have hj' := List.getElem?_eq_some_iff.mp hb
    obtain ⟨hi1, hi2⟩ := hi'
    obtain ⟨hj1, hj2⟩ := hj'
    have hp := List.pairwise_iff_getElem.mp hn
    rcases Nat.lt_trichotomy i j with c | c | c
    · exact absurd (hi2.trans hj2.symm) (hp i j hi1 hj1 c)
    · exact c
    · exact absurd (hj2.trans hi2.symm) (hp j i hj1 hi1 c)
  · obtain ⟨a, ha, e1⟩ := at' k q hq
    rw [e1]
    exact h.2 a (List.mem_of_getElem? ha)
def zJ0 (n : Nat) : List zK := [(0, 0), (1, 0), (2, 0)] ++ (List.range n).map (fun r => (6, r))
def zJ (n : Nat) : Nat → List zK
  | 0 => zJ0 n
  | i + 1 => zJ n i ++ [(7, i), (8, i), (9, i)]
theorem zJ0_mem {n : Nat} {j : zK} : j ∈ zJ0 n ↔ j = (0, 0) ∨ j = (1, 0) ∨ j = (2, 0) ∨ ∃ r, r < n ∧ j = (6, r) := by
  simp only [zJ0, List.mem_append, List.mem_cons, List.not_mem_nil, or_false, List.mem_map, List.mem_range]
  constructor
  · rintro ((h | h | h) | ⟨r, hr, h⟩)
    · exact Or.inl h
    · exact Or.inr (Or.inl h)
    · exact Or.inr (Or.inr (Or.inl h))
    · exact Or.inr (Or.inr (Or.inr ⟨r, hr, h.symm⟩))
  · rintro (h | h | h | ⟨r, hr, h⟩)
    · exact Or.inl (Or.inl h)
    · exact Or.inl (Or.inr (Or.inl h))
    · exact Or.inl (Or.inr (Or.inr h))
    · exact Or.inr ⟨r, hr, h.symm⟩
theorem zJ_mem {n : Nat} {j : zK} : ∀ {i : Nat}, j ∈ zJ n i ↔ j ∈ zJ0 n ∨ ∃ t, t < i ∧ (j = (7, t) ∨ j = (8, t) ∨ j = (9, t))
  | 0 => ⟨fun h => Or.inl h, fun h => h.elim id (fun ⟨t, ht, _⟩ => absurd ht (by omega))⟩
  | i + 1 => by
    rw [show zJ n (i + 1) = zJ n i ++ [(7, i), (8, i), (9, i)] from rfl, List.mem_append, zJ_mem (i := i)]
    simp only [List.mem_cons, List.not_mem_nil, or_false]
    constructor
    · rintro ((h | ⟨t, ht, h⟩) | h)
      · exact Or.inl h
      · exact Or.inr ⟨t, by omega, h⟩
      · exact Or.inr ⟨i, by omega, h⟩
    · rintro (h | ⟨t, ht, h⟩)
      · exact Or.inl (Or.inl h)
      · by_cases e : t = i
        · subst e; exact Or.inr h
        · exact Or.inl (Or.inr ⟨t, by omega, h⟩)
theorem zJ_nd {n : Nat} : ∀ i, (zJ n i).Nodup
  | 0 => by
    show (zJ0 n).Nodup
    unfold zJ0
    rw [List.nodup_append]
    refine ⟨by decide, ?_, fun a ha b hb => ?_⟩
    · exact List.pairwise_map.mpr (List.Pairwise.imp (fun h e => h (by injection e)) List.nodup_range)
    · obtain ⟨r, -, rfl⟩ := List.mem_map.mp hb
      simp only [List.mem_cons, List.not_mem_nil, or_false] at ha
      rintro rfl
      rcases ha with h | h | h <;> injection h with h1 <;> exact absurd h1 (by decide)
  | i + 1 => by
    show (zJ n i ++ [(7, i), (8, i), (9, i)]).Nodup
    rw [List.nodup_append]
    refine ⟨zJ_nd i, by simp, fun a ha b hb => ?_⟩
    rintro rfl
    simp only [List.mem_cons, List.not_mem_nil, or_false] at hb
    rcases zJ_mem.mp ha with h | ⟨t, ht, h⟩
    · rcases zJ0_mem.mp h with h | h | h | ⟨r, _, h⟩ <;> subst h <;> simp at hb
    · rcases h with h | h | h <;> subst h <;> simp at hb <;> omega
/-- what the cells hold while the routes are made: i of them stand in their row -/
def zJc (n : Nat) (cI cZ cR cA : ClassId) (i : Nat) (ml : Value) (ad : zK → Nat) (j : zK) : va_E := match j.1 with
  | 0 => .inr (0, [.int (nI n), .ref (ad (1, 0)), .ref (ad (2, 0)), ml, .int 0])
  | 1 => .inl (cA, n, zrefs (fun r => some (ad (6, r))))
  | 2 => .inl (cR, n * n, zrefs (fun t => if t < i then some (ad (7, t)) else none))
  | 3 => .inr (2, [.ref (ad (4, 0)), .ref (ad (5, 0)), .int 0, .int 0])
  | 4 => .inl (cI, 1024, .inl (fun _ => 0))
  | 5 => .inl (cI, 3, .inl (fun _ => 0))
  | 6 => .inl (cI, n, .inl (fun _ => 0))
  | 7 => .inr (1, [.int (nI (j.2 / n)), .int (nI (j.2 % n)), .ref (ad (6, j.2 / n)), .ref (ad (8, j.2)), .ref (ad (9, j.2)), .int (zRd (nI (j.2 / n)) (nI (j.2 % n))), .int (zRd (nI (j.2 / n)) (nI (j.2 % n))), .int (-1), .int 0, .int 0, .int 0])
  | 8 => .inl (cI, n, .inl (fun _ => 10000))
  | _ => .inl (cZ, n, .inl (fun _ => 0))
/-- one more route: its cell and its two rows -/
def zJa (ad : zK → Nat) (i q q1 q2 : Nat) : zK → Nat := fun k => if k = (7, i) then q else if k = (8, i) then q1 else if k = (9, i) then q2 else ad k
theorem zJa_7 (ad : zK → Nat) (i q q1 q2 : Nat) : zJa ad i q q1 q2 (7, i) = q := by unfold zJa; rw [if_pos rfl]
theorem zJa_8 (ad : zK → Nat) (i q q1 q2 : Nat) : zJa ad i q q1 q2 (8, i) = q1 := by unfold zJa; rw [if_neg (by simp), if_pos rfl]
theorem zJa_9 (ad : zK → Nat) (i q q1 q2 : Nat) : zJa ad i q q1 q2 (9, i) = q2 := by unfold zJa; rw [if_neg (by simp), if_neg (by simp), if_pos rfl]
theorem zJa_n {ad : zK → Nat} {i q q1 q2 : Nat} {k : zK} (h7 : k ≠ (7, i)) (h8 : k ≠ (8, i)) (h9 : k ≠ (9, i)) : zJa ad i q q1 q2 k = ad k := by unfold zJa; rw [if_neg h7, if_neg h8, if_neg h9]
theorem zJa_o {ad : zK → Nat} {n i q q1 q2 : Nat} {k : zK} (h : k ∈ zJ n i) : zJa ad i q q1 q2 k = ad k := by
  have hn : ∀ a, (a = 7 ∨ a = 8 ∨ a = 9) → k ≠ (a, i) := fun a ha e => by
    subst e
    rcases zJ_mem.mp h with h | ⟨t, ht, h⟩
    · rcases zJ0_mem.mp h with h | h | h | ⟨r, _, h⟩ <;> injection h with h1 <;> omega
    · rcases h with h | h | h <;> injection h with h1 h2 <;> omega
  exact zJa_n (hn 7 (by simp)) (hn 8 (by simp)) (hn 9 (by simp))
theorem zJa_lo {ad : zK → Nat} {i q q1 q2 a b : Nat} (h : a < 7 ∨ b ≠ i) : zJa ad i q q1 q2 (a, b) = ad (a, b) := by
  refine zJa_n ?_ ?_ ?_ <;> intro e <;> injection e with h1 h2 <;> omega
theorem zJc_o {n : Nat} {cI cZ cR cA : ClassId} {ml : Value} {ad : zK → Nat} {i q q1 q2 : Nat} {j : zK} (h : j ∈ zJ n i) : zJc n cI cZ cR cA i ml (zJa ad i q q1 q2) j = zJc n cI cZ cR cA i ml ad j := by
  rcases zJ_mem.mp h with h | ⟨t, ht, h⟩
  · rcases zJ0_mem.mp h with rfl | rfl | rfl | ⟨r, _, rfl⟩
    · simp only [zJc]; rw [zJa_lo (Or.inl (by decide)), zJa_lo (Or.inl (by decide))]
    · simp only [zJc]
      rw [show (fun r => some (zJa ad i q q1 q2 (6, r))) = (fun r => some (ad (6, r))) from funext fun r => by rw [zJa_lo (Or.inl (by decide))]]
    · simp only [zJc]
      rw [show (fun t => if t < i then some (zJa ad i q q1 q2 (7, t)) else none) = (fun t => if t < i then some (ad (7, t)) else none) from funext fun t => by
        by_cases c : t < i
        · rw [if_pos c, if_pos c, zJa_lo (Or.inr (by omega))]
        · rw [if_neg c, if_neg c]]
    · rfl
  · have hne : t ≠ i := by omega
    rcases h with rfl | rfl | rfl
    · simp only [zJc]; rw [zJa_lo (Or.inl (by decide)), zJa_lo (Or.inr hne), zJa_lo (Or.inr hne)]
    · rfl
    · rfl
theorem zJ_di {A : Nat → Prop} {n i q q1 q2 : Nat} {ad : zK → Nat} (h : zDi A (zJ n i) ad) (hq : ∀ j, j ∈ zJ n i → ad j ≠ q) (h1 : ∀ j, j ∈ zJ n i → ad j ≠ q1) (h2 : ∀ j, j ∈ zJ n i → ad j ≠ q2) (e1 : q ≠ q1) (e2 : q ≠ q2) (e3 : q1 ≠ q2) (a0 : A q) (a1 : A q1) (a2 : A q2) : zDi A (zJ n (i + 1)) (zJa ad i q q1 q2) := by
  have mem : ∀ j, j ∈ zJ n (i + 1) → j ∈ zJ n i ∨ j = (7, i) ∨ j = (8, i) ∨ j = (9, i) := fun j hj => by
    rcases List.mem_append.mp (show j ∈ zJ n i ++ [(7, i), (8, i), (9, i)] from hj) with h | h
    · exact Or.inl h
    · simp only [List.mem_cons, List.not_mem_nil, or_false] at h
      exact Or.inr h
  refine ⟨fun j1 m1 j2 m2 e => ?_, fun j hj => ?_⟩
  · rcases mem j1 m1 with k1 | rfl | rfl | rfl <;> rcases mem j2 m2 with k2 | rfl | rfl | rfl
    · rw [zJa_o k1, zJa_o k2] at e; exact h.1 j1 k1 j2 k2 e
    · rw [zJa_o k1, zJa_7] at e; exact absurd e (hq j1 k1)
    · rw [zJa_o k1, zJa_8] at e; exact absurd e (h1 j1 k1)
    · rw [zJa_o k1, zJa_9] at e; exact absurd e (h2 j1 k1)
    · rw [zJa_o k2, zJa_7] at e; exact absurd e.symm (hq j2 k2)
    · rfl
    · rw [zJa_7, zJa_8] at e; exact absurd e e1
    · rw [zJa_7, zJa_9] at e; exact absurd e e2
    · rw [zJa_o k2, zJa_8] at e; exact absurd e.symm (h1 j2 k2)
    · rw [zJa_8, zJa_7] at e; exact absurd e.symm e1
    · rfl
    · rw [zJa_8, zJa_9] at e; exact absurd e e3
    · rw [zJa_o k2, zJa_9] at e; exact absurd e.symm (h2 j2 k2)
    · rw [zJa_9, zJa_7] at e; exact absurd e.symm e2
    · rw [zJa_9, zJa_8] at e; exact absurd e.symm e3
    · rfl
  · rcases mem j hj with k | rfl | rfl | rfl
    · rw [zJa_o k]; exact h.2 j k
    · rw [zJa_7]; exact a0
    · rw [zJa_8]; exact a1
    · rw [zJa_9]; exact a2
