/-! New objects: the two states that a new program and a new reference begin with belong together. -/
def zP0 (k f : Nat) : Int32 := if f = 0 ∨ f = 1 then (if k / 6 = k % 6 then 0 else 10000) else if f = 2 then -1 else if 10 ≤ f ∧ f < 20 then 10000 else 0
def zIc : zS := fun a k i => if a = 7 then zP0 k i else if a = 8 then 10000 else 0
def zIm : zS := fun a _ i => if a = 2 ∨ a = 3 then (if i / 6 = i % 6 then 0 else 10000) else if a = 4 then -1 else if a = 8 then 10000 else 0
theorem zP0_w (k j : Nat) : zP0 k (20 + j) = 0 := by
  unfold zP0
  rw [if_neg (by omega), if_neg (by omega), if_neg (by omega)]
theorem zP0_t (k : Nat) {j : Nat} (hj : j < 6) : zP0 k (10 + j) = 10000 := by
  unfold zP0
  rw [if_neg (by omega), if_neg (by omega), if_pos (by omega)]
theorem zP0_d (k : Nat) : zDok (zP0 k 0) := by
  unfold zP0
  rw [if_pos (Or.inl rfl)]
  by_cases c : k / 6 = k % 6
  · rw [if_pos c]; exact ⟨0, by omega, rfl⟩
  · rw [if_neg c]; exact zDok_far
theorem zP0_2 (k : Nat) : zP0 k 2 = -1 := rfl
theorem zP0_3 (k : Nat) : zP0 k 3 = 0 := rfl
theorem zLc_zero : ∀ i, zLc (fun _ _ => 0) i = 0
  | 0 => rfl
  | i + 1 => by
    unfold zLc
    rw [if_neg (by decide)]
    exact zLc_zero i
theorem zGd_0 {n : Nat} (hn : n ≤ 6) : zGd n (fun _ _ => 0) (zP0, (fun _ => 0), []) 0 := by
  refine ⟨⟨fun a b _ _ => ⟨0, by omega, rfl⟩, fun _ _ _ _ => rfl, fun _ _ => rfl, fun _ _ _ _ _ => rfl⟩, ⟨fun r _ => ?_, fun r t _ _ _ => ⟨?_, ?_⟩, fun k _ _ => zP0_3 k, fun x hx => by cases hx⟩, by simp, ?_⟩
  · exact ⟨zP0_d _, Or.inl (zP0_2 (6 * r + r)), zP0_3 (6 * r + r), fun j _ => zP0_w _ j⟩
  · exact ⟨zP0_d _, Or.inl (zP0_2 (6 * r + t)), Or.inl rfl, Or.inl rfl, fun j hj => by
      show zDok (zP0 (6 * r + t) (10 + j))
      rw [zP0_t _ (by omega)]; exact zDok_far, fun j _ _ => zP0_w _ j⟩
  · exact fun h => absurd (zP0_3 (6 * r + t)) h
  · rw [zLc_zero]; rfl
theorem zRC_0 {n : Nat} (hn : n ≤ 6) : zRC n (fun _ _ => 0) zP0 (fun _ => 0) [] 0 zIc := by
  refine ⟨fun _ _ _ _ => rfl, fun k _ _ => ⟨fun f _ => rfl, fun j hj => ?_, fun j _ => ?_⟩, fun _ _ => rfl, rfl, 0, by simp, rfl, rfl, fun i x hx => by cases hx⟩
  · rw [zP0_t _ (by omega)]; rfl
  · rw [zP0_w]; rfl
theorem zRM_0 : zRM (fun _ _ => 0) zP0 (fun _ => 0) [] zIm := by
  refine ⟨fun _ _ _ _ => rfl, fun k _ => ⟨fun f hf => ?_, fun j hj => ⟨?_, ?_⟩⟩, fun _ _ => rfl, by simp, rfl, fun i x hx => by cases hx⟩
  · match f, hf with
    | 0, _ => rfl
    | 1, _ => rfl
    | 2, _ => rfl
    | 3, _ => rfl
    | 4, _ => rfl
    | 5, _ => rfl
  · rw [zP0_t _ (by omega)]; rfl
  · rw [zP0_w]; rfl
theorem zPr_0 {n : Nat} (hn : n ≤ 6) : zPr n zIc zIm := ⟨_, _, _, zGd_0 hn, zRC_0 hn, zRM_0⟩
