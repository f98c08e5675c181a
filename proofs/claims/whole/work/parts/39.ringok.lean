/-! what is so of every ring that is found -/
def rowOK (T : rTab) (xs ys : List Nat) : Prop := xs.length = ys.length ∧ xs.Nodup ∧ (∀ x, x ∈ xs → x < 8) ∧ ∀ (p x y : Nat), xs[p]? = some x → ys[p]? = some y → y < nC T ∧ T 8 y = x + 1 ∧ tru T y = true
theorem rowOK.nil {T : rTab} : rowOK T [] [] := ⟨rfl, List.Pairwise.nil, fun x hx => (nomatch hx), fun p x y h => (nomatch h)⟩
theorem mayJ_no {T : rTab} {xs ys : List Nat} {k : Nat} (h : mayJ T xs ys k = true) : k ∉ xs := by
  intro hk
  cases h0 : xs[0]? with
  | none =>
    obtain ⟨x, hx⟩ := List.mem_iff_getElem?.mp hk
    have h1 := (List.getElem?_eq_some_iff.mp hx).1
    have h2 := List.getElem?_eq_none_iff.mp h0
    omega
  | some c0 =>
    rw [mayJ_a h0 (Or.inr hk)] at h
    cases h
theorem rowOK.add {T : rTab} {xs ys : List Nat} {k j : Nat} (h : rowOK T xs ys) (hk : k < 8) (hm : mayJ T xs ys k = true) (hj : j ∈ offL T k (nD T)) : rowOK T (xs ++ [k]) (ys ++ [j]) := by
  obtain ⟨a, b, c, d⟩ := h
  obtain ⟨d0, _, hd0⟩ := List.mem_filterMap.mp hj
  have ho := offer_s hd0
  refine ⟨by rw [List.length_append, List.length_append, a]; rfl, ?_, fun x hx => ?_, fun p x y hx hy => ?_⟩
  · refine List.nodup_append.mpr ⟨b, List.pairwise_singleton _ _, fun x hx y hy e => ?_⟩
    rw [List.mem_singleton.mp hy] at e
    subst e
    exact mayJ_no hm hx
  · rcases List.mem_append.mp hx with z | z
    · exact c x z
    · rw [List.mem_singleton.mp z]
      exact hk
  · by_cases e : p < xs.length
    · rw [List.getElem?_append_left e] at hx
      rw [List.getElem?_append_left (by omega)] at hy
      exact d p x y hx hy
    · rw [List.getElem?_append_right (by omega)] at hx
      rw [List.getElem?_append_right (by omega), ← a] at hy
      have e0 : p - xs.length = 0 := by
        have := (List.getElem?_eq_some_iff.mp hx).1
        rw [List.length_singleton] at this
        omega
      rw [e0] at hx hy
      cases hx
      cases hy
      exact ⟨ho.1, ho.2.2.1, ho.2.2.2⟩
theorem lenF_ok {T : rTab} : ∀ (r : Nat) (xs ys : List Nat) (v : List Nat × List Nat), rowOK T xs ys → lenF T r xs ys = some v → rowOK T v.1 v.2 ∧ v.1.length = xs.length + r := by
  intro r
  induction r with
  | zero =>
    intro xs ys v h hv
    unfold lenF at hv
    split at hv
    · cases hv
      exact ⟨h, rfl⟩
    · cases hv
  | succ r ih =>
    intro xs ys v h hv
    unfold lenF at hv
    obtain ⟨k, hk, hfk⟩ := List.exists_of_findSome?_eq_some hv
    have hk8 := List.mem_range.mp hk
    by_cases hm : mayJ T xs ys k = true
    · have hfk : (if mayJ T xs ys k = true then (offL T k (nD T)).findSome? (fun j => if pleaB T xs ys k j = true then lenF T r (xs ++ [k]) (ys ++ [j]) else none) else none) = some v := hfk
      rw [if_pos hm] at hfk
      obtain ⟨j, hj, hfj⟩ := List.exists_of_findSome?_eq_some hfk
      by_cases hp : pleaB T xs ys k j = true
      · have hfj : (if pleaB T xs ys k j = true then lenF T r (xs ++ [k]) (ys ++ [j]) else none) = some v := hfj
        rw [if_pos hp] at hfj
        have := ih _ _ _ (h.add hk8 hm hj) hfj
        refine ⟨this.1, ?_⟩
        rw [this.2, List.length_append, List.length_singleton]
        omega
      · have hfj : (if pleaB T xs ys k j = true then lenF T r (xs ++ [k]) (ys ++ [j]) else none) = some v := hfj
        rw [if_neg hp] at hfj
        cases hfj
    · have hfk : (if mayJ T xs ys k = true then (offL T k (nD T)).findSome? (fun j => if pleaB T xs ys k j = true then lenF T r (xs ++ [k]) (ys ++ [j]) else none) else none) = some v := hfk
      rw [if_neg hm] at hfk
      cases hfk
theorem ringL_ok (T : rTab) : rowOK T (ringL T).1 (ringL T).2 ∧ ((ringL T).1.length = 0 ∨ (2 ≤ (ringL T).1.length ∧ (ringL T).1.length ≤ 4)) := by
  have key : ∀ n v, 2 ≤ n → n ≤ 4 → lenF T n [] [] = some v → rowOK T v.1 v.2 ∧ (v.1.length = 0 ∨ (2 ≤ v.1.length ∧ v.1.length ≤ 4)) := fun n v h2 h4 hv => by
    have h := lenF_ok n [] [] v rowOK.nil hv
    have h3 : v.1.length = 0 + n := h.2
    exact ⟨h.1, Or.inr (by omega)⟩
  unfold ringL
  cases h2 : lenF T 2 [] [] with
  | some v =>
    rw [ringO_s (n := 2) (by decide) (by decide) (fun m a b => by omega) h2]
    exact key 2 v (by decide) (by decide) h2
  | none =>
    cases h3 : lenF T 3 [] [] with
    | some v =>
      rw [ringO_s (n := 3) (by decide) (by decide) (fun m a b => by
        obtain rfl : m = 2 := by omega
        exact h2) h3]
      exact key 3 v (by decide) (by decide) h3
    | none =>
      cases h4 : lenF T 4 [] [] with
      | some v =>
        rw [ringO_s (n := 4) (by decide) (by decide) (fun m a b => by
          rcases (show m = 2 ∨ m = 3 by omega) with rfl | rfl
          · exact h2
          · exact h3) h4]
        exact key 4 v (by decide) (by decide) h4
      | none =>
        rw [ringO_n (fun m a b => by
          rcases (show m = 2 ∨ m = 3 ∨ m = 4 by omega) with rfl | rfl | rfl
          · exact h2
          · exact h3
          · exact h4)]
        exact ⟨rowOK.nil, Or.inl rfl⟩
