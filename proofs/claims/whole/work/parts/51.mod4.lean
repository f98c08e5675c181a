/-! the model: the search of a ring (printed by wip/whole/gen/mod4.py) -/
def pre (g : Nat → Nat) (n : Nat) : List Nat := (List.range n).map g
theorem pre_len {g : Nat → Nat} {n : Nat} : (pre g n).length = n := by
  unfold pre
  rw [List.length_map, List.length_range]
theorem pre_s {g : Nat → Nat} {n : Nat} : pre g (n + 1) = pre g n ++ [g n] := by
  unfold pre
  rw [List.range_succ, List.map_append]
  rfl
theorem pre_gd {g : Nat → Nat} {n i : Nat} (h : i < n) : (pre g n).getD i 0 = g i := by
  unfold pre
  rw [List.getD_eq_getElem?_getD, List.getElem?_map, List.getElem?_range h]
  rfl
theorem pre_congr {g h : Nat → Nat} {n : Nat} (e : ∀ k, k < n → g k = h k) : pre g n = pre h n := by
  unfold pre
  exact List.map_congr_left fun k hk => e k (List.mem_range.mp hk)
theorem pre_mem {g : Nat → Nat} {n x : Nat} (h : x ∈ pre g n) : ∃ k, k < n ∧ g k = x := by
  unfold pre at h
  obtain ⟨k, hk, e⟩ := List.mem_map.mp h
  exact ⟨k, List.mem_range.mp hk, e⟩
theorem pre_last {g : Nat → Nat} {n : Nat} (h : 1 ≤ n) : lastC (pre g n) = g (n - 1) := by
  unfold lastC
  rw [pre_len]
  exact pre_gd (by omega)
theorem pre_head {g : Nat → Nat} {n : Nat} (h : 1 ≤ n) : headC (pre g n) = g 0 := pre_gd (by omega)
def ndC (g : Nat → Nat) (c : Nat) : Nat → Bool
  | 0 => true
  | i + 1 => ndC g c i && (decide (i = 0) || decide (¬ g i / 16 = c / 16))
theorem nd_s {g : Nat → Nat} {c i : Nat} (h : 1 ≤ i) : ndC g c (i + 1) = (ndC g c i && decide (¬ g i / 16 = c / 16)) := by
  show (ndC g c i && (decide (i = 0) || decide (¬ g i / 16 = c / 16))) = _
  rw [decide_eq_false (show ¬ i = 0 by omega), Bool.false_or]
theorem nd_all {g : Nat → Nat} {c : Nat} : ∀ n, 1 ≤ n → ((pre g n).drop 1).all (fun x => decide (¬ x / 16 = c / 16)) = ndC g c n := by
  intro n
  induction n with
  | zero => intro h; omega
  | succ n ih =>
    intro _
    by_cases e : n = 0
    · subst e
      rfl
    · rw [pre_s, List.drop_append_of_le_length (by rw [pre_len]; omega), List.all_append, ih (by omega), nd_s (by omega)]
      show (ndC g c n && (decide (¬ g n / 16 = c / 16) && true)) = _
      rw [Bool.and_true]
theorem fol_e {T : rTab} {g : Nat → Nat} {c n : Nat} (h : 1 ≤ n) : folC T (pre g n) c = (okC T c && (takB T (g (n - 1)) c && ndC g c n)) := by
  unfold folC
  rw [pre_last h, nd_all n h]
def tryF (T : rTab) (r : Nat) (p : List Nat) (a : Nat) : Option (List Nat) := (List.range 128).findSome? (fun c => if a ≤ c then (if lowC p ≤ c ∧ folC T p c = true then srch T r (p ++ [c]) else none) else none)
theorem tryF_s {T : rTab} {r a : Nat} {p : List Nat} (h : a < 128) : tryF T r p a = (if lowC p ≤ a ∧ folC T p a = true then srch T r (p ++ [a]) else none).or (tryF T r p (a + 1)) := fs_from (f := fun c => if lowC p ≤ c ∧ folC T p c = true then srch T r (p ++ [c]) else none) 128 h
theorem tryF_e {T : rTab} {r a : Nat} {p : List Nat} (h : 128 ≤ a) : tryF T r p a = none := fs_end (f := fun c => if lowC p ≤ c ∧ folC T p c = true then srch T r (p ++ [c]) else none) h
theorem tryF_0 {T : rTab} {r a : Nat} {p : List Nat} (h : a ≤ lowC p) : tryF T r p a = srch T (r + 1) p := by
  unfold tryF
  show _ = (List.range 128).findSome? (fun c => if lowC p ≤ c ∧ folC T p c = true then srch T r (p ++ [c]) else none)
  refine fs_congr fun c _ => ?_
  by_cases g : lowC p ≤ c ∧ folC T p c = true
  · rw [if_pos (by omega)]
  · rw [if_neg g]
    split <;> rfl
def kont (T : rTab) (n : Nat) (g : Nat → Nat) : Nat → Option (List Nat)
  | 0 => none
  | v + 1 => (tryF T (n - 1 - (v + 1)) (pre g (v + 1)) (g (v + 1) + 1)).or (kont T n g v)
theorem kont_congr {T : rTab} {n : Nat} {g h : Nat → Nat} : ∀ v, (∀ k, k ≤ v → g k = h k) → kont T n g v = kont T n h v := by
  intro v
  induction v with
  | zero => exact fun _ => rfl
  | succ v ih =>
    intro e
    show (tryF T (n - 1 - (v + 1)) (pre g (v + 1)) (g (v + 1) + 1)).or (kont T n g v) = (tryF T (n - 1 - (v + 1)) (pre h (v + 1)) (h (v + 1) + 1)).or (kont T n h v)
    rw [ih (fun k hk => e k (by omega)), e (v + 1) (Nat.le_refl _), pre_congr (fun k hk => e k (by omega))]
def muC (g : Nat → Nat) : Nat → Nat
  | 0 => 0
  | v + 1 => muC g v + (128 - g (v + 1)) * 200 ^ (3 - v)
theorem muC_congr {g h : Nat → Nat} : ∀ v, (∀ k, k ≤ v → g k = h k) → muC g v = muC h v := by
  intro v
  induction v with
  | zero => exact fun _ => rfl
  | succ v ih =>
    intro e
    show muC g v + (128 - g (v + 1)) * 200 ^ (3 - v) = muC h v + (128 - h (v + 1)) * 200 ^ (3 - v)
    rw [ih (fun k hk => e k (by omega)), e (v + 1) (Nat.le_refl _)]
def upN (g : Nat → Nat) (i x : Nat) : Nat → Nat := fun k => if k = i then x else g k
theorem upN_e {g : Nat → Nat} {i x : Nat} : upN g i x i = x := if_pos rfl
theorem upN_n {g : Nat → Nat} {i x k : Nat} (h : k ≠ i) : upN g i x k = g k := if_neg h
/-- where the search stands: at the level v, with the row of codes g -/
def sI (T : rTab) (n f v : Nat) (g : Nat → Nat) : Prop := v < n ∧ n ≤ 4 ∧ g 0 = f ∧ (∀ k, k < v → okC T (g k) = true) ∧ (∀ k, k ≤ v → g k < 128) ∧ (∀ k, 1 ≤ k → k ≤ v → 16 * (f / 16 + 1) ≤ g k + 1) ∧ kont T n g v = srch T (n - 1) [f]
section SI
variable {T : rTab} {n f v : Nat} {g : Nat → Nat}
theorem sI_low (h : sI T n f v g) (h1 : 1 ≤ v) : lowC (pre g v) = 16 * (f / 16 + 1) := by
  unfold lowC
  rw [pre_head h1, h.2.2.1]
theorem sI_0 (hf : okC T f = true) (hf2 : f < 112) (h2 : 2 ≤ n) (h4 : n ≤ 4) : sI T n f 1 (upN (fun _ => f) 1 (16 * (f / 16 + 1) - 1)) := by
  refine ⟨by omega, h4, upN_n (by decide), fun k hk => ?_, fun k hk => ?_, fun k h1 hk => ?_, ?_⟩
  · obtain rfl : k = 0 := by omega
    rw [upN_n (by decide)]
    exact hf
  · by_cases e : k = 1
    · rw [e, upN_e]
      omega
    · rw [upN_n e]
      omega
  · obtain rfl : k = 1 := by omega
    rw [upN_e]
    omega
  · have hp : pre (upN (fun _ => f) 1 (16 * (f / 16 + 1) - 1)) 1 = [f] := by
      show [upN (fun _ => f) 1 (16 * (f / 16 + 1) - 1) 0] = [f]
      rw [upN_n (by decide)]
    show (tryF T (n - 1 - 1) (pre (upN (fun _ => f) 1 (16 * (f / 16 + 1) - 1)) 1) (upN (fun _ => f) 1 (16 * (f / 16 + 1) - 1) 1 + 1)).or none = _
    rw [hp, upN_e, Option.or_none, tryF_0 (by show _ ≤ 16 * (f / 16 + 1); omega)]
    congr 1
    omega
theorem sI_z (h : sI T n f 0 g) : srch T (n - 1) [f] = none := h.2.2.2.2.2.2.symm
/-- the level is left -/
theorem sI_pop (h : sI T n f (v + 1) g) (hc : g (v + 1) + 1 = 128) {x : Nat} : sI T n f v (upN g (v + 1) x) ∧ muC (upN g (v + 1) x) v < muC g (v + 1) := by
  obtain ⟨a1, a2, a3, a4, a5, a6, a7⟩ := h
  have e : ∀ k, k ≤ v → upN g (v + 1) x k = g k := fun k hk => upN_n (by omega)
  refine ⟨⟨by omega, a2, by rw [e 0 (by omega)]; exact a3, fun k hk => by rw [e k (by omega)]; exact a4 k (by omega), fun k hk => by rw [e k hk]; exact a5 k (by omega), fun k h1 hk => by rw [e k hk]; exact a6 k h1 (by omega), ?_⟩, ?_⟩
  · rw [kont_congr v e, ← a7]
    show _ = (tryF T (n - 1 - (v + 1)) (pre g (v + 1)) (g (v + 1) + 1)).or (kont T n g v)
    rw [tryF_e (by omega)]
    rfl
  · rw [muC_congr v e]
    show muC g v < muC g v + (128 - g (v + 1)) * 200 ^ (3 - v)
    have h1 : 128 - g (v + 1) = 1 := by omega
    have h2 : 0 < 200 ^ (3 - v) := Nat.pow_pos (by decide)
    rw [h1]
    omega
/-- the next number is tried, in vain -/
theorem sI_skip (h : sI T n f (v + 1) g) (hc : g (v + 1) + 1 < 128) (hn : (if lowC (pre g (v + 1)) ≤ g (v + 1) + 1 ∧ folC T (pre g (v + 1)) (g (v + 1) + 1) = true then srch T (n - 1 - (v + 1)) (pre g (v + 1) ++ [g (v + 1) + 1]) else none) = none) : sI T n f (v + 1) (upN g (v + 1) (g (v + 1) + 1)) ∧ muC (upN g (v + 1) (g (v + 1) + 1)) (v + 1) < muC g (v + 1) := by
  obtain ⟨a1, a2, a3, a4, a5, a6, a7⟩ := h
  have e : ∀ k, k ≤ v → upN g (v + 1) (g (v + 1) + 1) k = g k := fun k hk => upN_n (by omega)
  refine ⟨⟨a1, a2, by rw [e 0 (by omega)]; exact a3, fun k hk => by rw [e k (by omega)]; exact a4 k hk, fun k hk => ?_, fun k h1 hk => ?_, ?_⟩, ?_⟩
  · by_cases q : k = v + 1
    · rw [q, upN_e]
      exact hc
    · rw [e k (by omega)]
      exact a5 k hk
  · by_cases q : k = v + 1
    · rw [q, upN_e]
      have := a6 (v + 1) (by omega) (Nat.le_refl _)
      omega
    · rw [e k (by omega)]
      exact a6 k h1 hk
  · rw [← a7]
    show (tryF T (n - 1 - (v + 1)) (pre (upN g (v + 1) (g (v + 1) + 1)) (v + 1)) (upN g (v + 1) (g (v + 1) + 1) (v + 1) + 1)).or (kont T n (upN g (v + 1) (g (v + 1) + 1)) v) = (tryF T (n - 1 - (v + 1)) (pre g (v + 1)) (g (v + 1) + 1)).or (kont T n g v)
    rw [kont_congr v e, pre_congr (fun k hk => e k (by omega)), upN_e, tryF_s hc, hn]
    rfl
  · show muC (upN g (v + 1) (g (v + 1) + 1)) v + (128 - upN g (v + 1) (g (v + 1) + 1) (v + 1)) * 200 ^ (3 - v) < muC g v + (128 - g (v + 1)) * 200 ^ (3 - v)
    rw [muC_congr v e, upN_e]
    have h2 : 0 < 200 ^ (3 - v) := Nat.pow_pos (by decide)
    have h3 : 128 - g (v + 1) = (128 - (g (v + 1) + 1)) + 1 := by omega
    rw [h3, Nat.add_mul]
    omega
theorem sI_no (hn : folC T (pre g (v + 1)) (g (v + 1) + 1) = false) : (if lowC (pre g (v + 1)) ≤ g (v + 1) + 1 ∧ folC T (pre g (v + 1)) (g (v + 1) + 1) = true then srch T (n - 1 - (v + 1)) (pre g (v + 1) ++ [g (v + 1) + 1]) else none) = none := if_neg fun z => by
  rw [hn] at z
  exact absurd z.2 Bool.false_ne_true
/-- a level more -/
theorem sI_push (h : sI T n f (v + 1) g) (hc : g (v + 1) + 1 < 128) (hy : folC T (pre g (v + 1)) (g (v + 1) + 1) = true) (hv : v + 1 < n - 1) (hf : f < 112) : sI T n f (v + 2) (upN (upN g (v + 1) (g (v + 1) + 1)) (v + 2) (16 * (f / 16 + 1) - 1)) ∧ muC (upN (upN g (v + 1) (g (v + 1) + 1)) (v + 2) (16 * (f / 16 + 1) - 1)) (v + 2) < muC g (v + 1) := by
  have hlw := sI_low h (by omega)
  obtain ⟨a1, a2, a3, a4, a5, a6, a7⟩ := h
  have e : ∀ k, k ≤ v → upN (upN g (v + 1) (g (v + 1) + 1)) (v + 2) (16 * (f / 16 + 1) - 1) k = g k := fun k hk => (upN_n (by omega)).trans (upN_n (by omega))
  have e1 : upN (upN g (v + 1) (g (v + 1) + 1)) (v + 2) (16 * (f / 16 + 1) - 1) (v + 1) = g (v + 1) + 1 := (upN_n (by omega)).trans upN_e
  have e2 : upN (upN g (v + 1) (g (v + 1) + 1)) (v + 2) (16 * (f / 16 + 1) - 1) (v + 2) = 16 * (f / 16 + 1) - 1 := upN_e
  have hok : okC T (g (v + 1) + 1) = true := by
    unfold folC at hy
    rw [Bool.and_eq_true] at hy
    exact hy.1
  have hp : pre (upN (upN g (v + 1) (g (v + 1) + 1)) (v + 2) (16 * (f / 16 + 1) - 1)) (v + 2) = pre g (v + 1) ++ [g (v + 1) + 1] := by
    rw [pre_s, e1, pre_congr (fun k hk => e k (by omega))]
  refine ⟨⟨by omega, a2, by rw [e 0 (by omega)]; exact a3, fun k hk => ?_, fun k hk => ?_, fun k h1 hk => ?_, ?_⟩, ?_⟩
  · by_cases q : k = v + 1
    · rw [q, e1]
      exact hok
    · rw [e k (by omega)]
      exact a4 k (by omega)
  · by_cases q : k = v + 1
    · rw [q, e1]
      exact hc
    · by_cases q2 : k = v + 2
      · rw [q2, e2]
        omega
      · rw [e k (by omega)]
        exact a5 k (by omega)
  · by_cases q : k = v + 1
    · rw [q, e1]
      have := a6 (v + 1) (by omega) (Nat.le_refl _)
      omega
    · by_cases q2 : k = v + 2
      · rw [q2, e2]
        omega
      · rw [e k (by omega)]
        exact a6 k h1 (by omega)
  · rw [← a7]
    show (tryF T (n - 1 - (v + 2)) (pre (upN (upN g (v + 1) (g (v + 1) + 1)) (v + 2) (16 * (f / 16 + 1) - 1)) (v + 2)) (upN (upN g (v + 1) (g (v + 1) + 1)) (v + 2) (16 * (f / 16 + 1) - 1) (v + 2) + 1)).or ((tryF T (n - 1 - (v + 1)) (pre (upN (upN g (v + 1) (g (v + 1) + 1)) (v + 2) (16 * (f / 16 + 1) - 1)) (v + 1)) (upN (upN g (v + 1) (g (v + 1) + 1)) (v + 2) (16 * (f / 16 + 1) - 1) (v + 1) + 1)).or (kont T n (upN (upN g (v + 1) (g (v + 1) + 1)) (v + 2) (16 * (f / 16 + 1) - 1)) v)) = (tryF T (n - 1 - (v + 1)) (pre g (v + 1)) (g (v + 1) + 1)).or (kont T n g v)
    have hl2 : lowC (pre g (v + 1) ++ [g (v + 1) + 1]) = 16 * (f / 16 + 1) := by
      unfold lowC
      rw [headC_app (by rw [pre_len]; omega)]
      exact hlw
    have h5 := a6 (v + 1) (by omega) (Nat.le_refl _)
    rw [hp, e2, e1, kont_congr v e, pre_congr (fun k hk => e k (by omega)), tryF_s hc, if_pos ⟨by omega, hy⟩, tryF_0 (by omega), show n - 1 - (v + 2) + 1 = n - 1 - (v + 1) by omega, Option.or_assoc]
  · show (muC (upN (upN g (v + 1) (g (v + 1) + 1)) (v + 2) (16 * (f / 16 + 1) - 1)) v + (128 - upN (upN g (v + 1) (g (v + 1) + 1)) (v + 2) (16 * (f / 16 + 1) - 1) (v + 1)) * 200 ^ (3 - v)) + (128 - upN (upN g (v + 1) (g (v + 1) + 1)) (v + 2) (16 * (f / 16 + 1) - 1) (v + 2)) * 200 ^ (3 - (v + 1)) < muC g v + (128 - g (v + 1)) * 200 ^ (3 - v)
    rw [muC_congr v e, e1, e2]
    have h2 : 0 < 200 ^ (3 - (v + 1)) := Nat.pow_pos (by decide)
    have h4 : 200 ^ (3 - v) = 200 * 200 ^ (3 - (v + 1)) := by
      rw [show 3 - v = (3 - (v + 1)) + 1 by omega, Nat.pow_succ, Nat.mul_comm]
    have h3 : 128 - g (v + 1) = (128 - (g (v + 1) + 1)) + 1 := by omega
    have h6 : (128 - (16 * (f / 16 + 1) - 1)) * 200 ^ (3 - (v + 1)) ≤ 128 * 200 ^ (3 - (v + 1)) := Nat.mul_le_mul_right _ (by omega)
    rw [h3, Nat.add_mul]
    omega
/-- the ring is found -/
theorem sI_end (h : sI T n f (v + 1) g) (hc : g (v + 1) + 1 < 128) (hy : folC T (pre g (v + 1)) (g (v + 1) + 1) = true) (hv : n - 1 ≤ v + 1) (ht : takB T (g (v + 1) + 1) f = true) : srch T (n - 1) [f] = some (pre g (v + 1) ++ [g (v + 1) + 1]) := by
  have hlw := sI_low h (by omega)
  obtain ⟨a1, a2, a3, a4, a5, a6, a7⟩ := h
  have h5 := a6 (v + 1) (by omega) (Nat.le_refl _)
  have hs : srch T 0 (pre g (v + 1) ++ [g (v + 1) + 1]) = some (pre g (v + 1) ++ [g (v + 1) + 1]) := by
    show (if takB T (lastC (pre g (v + 1) ++ [g (v + 1) + 1])) (headC (pre g (v + 1) ++ [g (v + 1) + 1])) = true then some (pre g (v + 1) ++ [g (v + 1) + 1]) else none) = _
    rw [lastC_app, headC_app (by rw [pre_len]; omega), pre_head (by omega), a3, if_pos ht]
  rw [← a7]
  show (tryF T (n - 1 - (v + 1)) (pre g (v + 1)) (g (v + 1) + 1)).or (kont T n g v) = _
  rw [tryF_s hc, if_pos ⟨by omega, hy⟩, show n - 1 - (v + 1) = 0 by omega, hs]
  rfl
theorem sI_nt (h : sI T n f (v + 1) g) (hv : n - 1 ≤ v + 1) (ht : takB T (g (v + 1) + 1) f = false) : (if lowC (pre g (v + 1)) ≤ g (v + 1) + 1 ∧ folC T (pre g (v + 1)) (g (v + 1) + 1) = true then srch T (n - 1 - (v + 1)) (pre g (v + 1) ++ [g (v + 1) + 1]) else none) = none := by
  split
  · rw [show n - 1 - (v + 1) = 0 by omega]
    show (if takB T (lastC (pre g (v + 1) ++ [g (v + 1) + 1])) (headC (pre g (v + 1) ++ [g (v + 1) + 1])) = true then some (pre g (v + 1) ++ [g (v + 1) + 1]) else none) = _
    rw [lastC_app, headC_app (by rw [pre_len]; omega), pre_head (by omega), h.2.2.1, if_neg (by rw [ht]; exact Bool.false_ne_true)]
  · rfl
end SI
theorem fs_hit {β : Type} {f : Nat → Option β} {c m : Nat} {v : β} (hc : c < m) (hv : f c = some v) (hz : ∀ x, x < c → f x = none) : (List.range m).findSome? f = some v := by
  induction m with
  | zero => omega
  | succ m ih =>
    rw [List.range_succ, fs_app, fs_one]
    by_cases e : c = m
    · rw [List.findSome?_eq_none_iff.mpr fun x hx => hz x (by have := List.mem_range.mp hx; omega), ← e, hv]
      rfl
    · rw [ih (by omega)]
      rfl
theorem gd_upd {ra : Nat → Int32} {i k : Nat} {x : Int32} : upd ra i x k = if k = i then x else ra k := by
  by_cases e : k = i
  · rw [e, pk_us, if_pos rfl]
  · rw [pk_un e, if_neg e]

set_option maxHeartbeats 4000000 in
set_option maxRecDepth 100000 in
theorem c_X5_takes {G : rG} {l : Launch} {T : rTab} {th : Int32} {rg : Nat → Int32} {C : rC} {ad : rA} (hN : mNu T) {y z : Nat} (hy : y % 16 < nD T) (hy9 : y < 128) (hz : z % 16 < nD T) (hz9 : z < 128) : rMet G l yX5_takes cX5_takes 4 (some .boolean) (rmP 4) [.ref (ad 30 0), .int (nI y), .int (nI z)] (mC G T th rg C ad) ad (rPure (mC G T th rg C ad) ad (.int (bI (takB T y z)))) := by
  refine rMet.of (by decide) ?_
  intro p e s m below meth c hx hb hml hr hlocks hown hname hK hZ hS
  have hown : s.vm.findClass RX5 = some m.cls := hown
  have hA : ∀ q : Nat, s.heap.size ≤ q → (rF (mC G T th rg C ad) ad s.heap.size) q := rF.new
  refine r_entry _ (Nat.le_of_ble_eq_true rfl) (fun ls hl => ?_)
  have hl : lv_has ls 4 [(0, .ref (ad 30 0)), (1, .int (nI y)), (2, .int (nI z))] := hl
  have hnD := hN.hD
  have hnC := hN.hC
  have hnS := hN.hS
  have hkn := hN.kn (k := z / 16) (by omega)
  have hp1 := priceBy_le T (y % 16)
  have hp2 := priceBy_le T (z % 16)
  have hw1 := wN_le ((T 10 (z / 16)).testBit (y % 16))
  have hm9 : T 11 (z / 16) * priceBy T (z % 16) ≤ 100 * 20000 := Nat.mul_le_mul hkn.2 hp2
  refine lv_iload_n hx hb dX5_takes_0 rfl (lv_at hl 2 rfl) ?_
  refine lv_bipush (v := nI 16) hx hb dX5_takes_1 (by decide) ?_
  refine lv_idiv hx hb dX5_takes_3 (by decide) ?_
  refine r_top (y := nI (z / 16)) (pk_div (by omega) (by decide) (by decide)) ?_
  refine lv_istore_n (lv' := [(3, .int (nI (z / 16))), (0, .ref (ad 30 0)), (1, .int (nI y)), (2, .int (nI z))]) hx hb dX5_takes_4 rfl hl (by decide) rfl (fun ls hl => ?_)
  refine lv_aload_n hx hb dX5_takes_5 rfl (lv_at hl 1 rfl) ?_
  refine gf_X5_37 hx hb hown hK hS mC_30 rfl dX5_takes_6 ?_
  refine lv_iload_n hx hb dX5_takes_9 rfl (lv_at hl 0 rfl) ?_
  refine r_iald hx hb hK.1 hS 0 mC_40 rfl (nI_in0 (by omega) (by omega)) (v := nI (T 10 (z / 16))) (tA_at (by omega)) dX5_takes_10 ?_
  refine lv_iload_n hx hb dX5_takes_11 rfl (lv_at hl 2 rfl) ?_
  refine lv_bipush (v := nI 16) hx hb dX5_takes_12 (by decide) ?_
  refine lv_irem hx hb dX5_takes_14 (by decide) ?_
  refine r_top (y := nI (y % 16)) (pk_rem (by omega) (by decide) (by decide)) ?_
  refine lv_ishr hx hb dX5_takes_15 ?_
  refine r_top (y := nI (T 10 (z / 16) / 2 ^ (y % 16))) (shr_i (by omega) (by omega)) ?_
  refine lv_iconst (v := nI 1) hx hb dX5_takes_16 (by decide) ?_
  refine lv_iand hx hb dX5_takes_17 ?_
  refine r_top (y := nI (wN ((T 10 (z / 16)).testBit (y % 16)))) ((nx_and _ _).trans (by rw [shr_and]; rfl)) ?_
  refine lv_iconst (v := nI 1) hx hb dX5_takes_18 (by decide) ?_
  refine r_icmp_ne (a := wN ((T 10 (z / 16)).testBit (y % 16))) (b := 1) (tgt := 55) hx hb (by omega) (by omega) dX5_takes_19 (by decide) (fun q19 => ?_) (fun q19 => ?_)
  · -- T
    refine lv_iconst (v := nI 0) hx hb dX5_takes_55 (by decide) ?_
    exact r_zret hx hb hr hlocks hS rfl (⟨by unfold takB; rw [wN_f q19]; rfl, rfl, rfl⟩) (Nat.zero_le _) (Nat.zero_le _) dX5_takes_56
  · -- F
    refine lv_bipush (v := nI 100) hx hb dX5_takes_22 (by decide) ?_
    refine lv_aload_n hx hb dX5_takes_24 rfl (lv_at hl 1 rfl) ?_
    refine lv_iload_n hx hb dX5_takes_25 rfl (lv_at hl 2 rfl) ?_
    refine lv_bipush (v := nI 16) hx hb dX5_takes_26 (by decide) ?_
    refine lv_irem hx hb dX5_takes_28 (by decide) ?_
    refine r_top (y := nI (y % 16)) (pk_rem (by omega) (by decide) (by decide)) ?_
    refine cl_X5_93 hx hb hml hown hK hZ hS hA (c_X5_priceBy hN hy) mC_30 rfl hl.1 (Nat.le_of_ble_eq_true rfl) ⟨Nat.le_of_ble_eq_true rfl, Nat.le_of_ble_eq_true rfl⟩ ⟨Nat.zero_le _, Nat.zero_le _⟩ rfl dX5_takes_29 (r_kp (fun H locs hS => ?_))
    refine lv_imul hx hb dX5_takes_32 ?_
    refine r_top (pk_mul _ _) ?_
    refine lv_aload_n hx hb dX5_takes_33 rfl (lv_at hl 1 rfl) ?_
    refine gf_X5_40 hx hb hown hK hS mC_30 rfl dX5_takes_34 ?_
    refine lv_iload_n hx hb dX5_takes_37 rfl (lv_at hl 0 rfl) ?_
    refine r_iald hx hb hK.1 hS 0 mC_41 rfl (nI_in0 (by omega) (by omega)) (v := nI (T 11 (z / 16))) (tA_at (by omega)) dX5_takes_38 ?_
    refine lv_aload_n hx hb dX5_takes_39 rfl (lv_at hl 1 rfl) ?_
    refine lv_iload_n hx hb dX5_takes_40 rfl (lv_at hl 3 rfl) ?_
    refine lv_bipush (v := nI 16) hx hb dX5_takes_41 (by decide) ?_
    refine lv_irem hx hb dX5_takes_43 (by decide) ?_
    refine r_top (y := nI (z % 16)) (pk_rem (by omega) (by decide) (by decide)) ?_
    refine cl_X5_93 hx hb hml hown hK hZ hS hA (c_X5_priceBy hN hz) mC_30 rfl hl.1 (Nat.le_of_ble_eq_true rfl) ⟨Nat.le_of_ble_eq_true rfl, Nat.le_of_ble_eq_true rfl⟩ ⟨Nat.zero_le _, Nat.zero_le _⟩ rfl dX5_takes_44 (r_kp (fun H locs hS => ?_))
    refine lv_imul hx hb dX5_takes_47 ?_
    refine r_top (pk_mul _ _) ?_
    refine r_icmp_lt (a := 100 * (priceBy T (y % 16))) (b := (T 11 (z / 16)) * (priceBy T (z % 16))) (tgt := 55) hx hb (by omega) (by omega) dX5_takes_48 (by decide) (fun q48 => ?_) (fun q48 => ?_)
    · -- T
      refine lv_iconst (v := nI 0) hx hb dX5_takes_55 (by decide) ?_
      exact r_zret hx hb hr hlocks hS rfl (⟨by unfold takB; rw [decide_eq_false (show ¬ _ ≤ _ by omega), Bool.and_false]; rfl, rfl, rfl⟩) (Nat.zero_le _) (Nat.zero_le _) dX5_takes_56
    · -- F
      refine lv_iconst (v := nI 1) hx hb dX5_takes_51 (by decide) ?_
      refine lv_goto (tgt := 56) hx hb dX5_takes_52 (by decide) ?_
      exact r_zret hx hb hr hlocks hS rfl (⟨by unfold takB; rw [wN_t q19, decide_eq_true (show _ ≤ _ from q48)]; rfl, rfl, rfl⟩) (Nat.zero_le _) (Nat.zero_le _) dX5_takes_56

set_option maxHeartbeats 4000000 in
set_option maxRecDepth 100000 in
theorem c_X5_canFollow {G : rG} {l : Launch} {T : rTab} {th : Int32} {rg : Nat → Int32} {C : rC} {ad : rA} (hN : mNu T) {g9 : Nat → Nat} {v : Nat} (hv1 : 1 ≤ v) (hv3 : v ≤ 3) (hg : ∀ k, k ≤ v → rg k = nI (g9 k)) (hb9 : ∀ k, k ≤ v → g9 k < 128) (hok : ∀ k, k < v → okC T (g9 k) = true) : rMet G l yX5_canFollow cX5_canFollow 5 (some .boolean) (rmP 6) [.ref (ad 30 0), .int (nI v)] (mC G T th rg C ad) ad (rPure (mC G T th rg C ad) ad (.int (bI (folC T (pre g9 v) (g9 v))))) := by
  refine rMet.of (by decide) ?_
  intro p e s m below meth c hx hb hml hr hlocks hown hname hK hZ hS
  have hown : s.vm.findClass RX5 = some m.cls := hown
  have hA : ∀ q : Nat, s.heap.size ≤ q → (rF (mC G T th rg C ad) ad s.heap.size) q := rF.new
  refine r_entry _ (Nat.le_of_ble_eq_true rfl) (fun ls hl => ?_)
  have hl : lv_has ls 5 [(0, .ref (ad 30 0)), (1, .int (nI v))] := hl
  have hnD := hN.hD
  have hnC := hN.hC
  have hnS := hN.hS
  have hbv := hb9 v (Nat.le_refl _)
  have hbw := hb9 (v - 1) (by omega)
  have hokw := okC_s (hok (v - 1) (by omega))
  refine lv_aload_n hx hb dX5_canFollow_0 rfl (lv_at hl 0 rfl) ?_
  refine gf_X5_49 hx hb hown hK hS mC_30 rfl dX5_canFollow_1 ?_
  refine lv_iload_n hx hb dX5_canFollow_4 rfl (lv_at hl 1 rfl) ?_
  refine r_iald hx hb hK.1 hS 0 mC_44 rfl (nI_in0 (by omega) (by omega)) (v := nI (g9 v)) (by rw [nI_clamp (by omega)]; exact hg _ (Nat.le_refl _)) dX5_canFollow_5 ?_
  refine lv_istore_n (lv' := [(2, .int (nI (g9 v))), (0, .ref (ad 30 0)), (1, .int (nI v))]) hx hb dX5_canFollow_6 rfl hl (by decide) rfl (fun ls hl => ?_)
  refine lv_iload_n hx hb dX5_canFollow_7 rfl (lv_at hl 0 rfl) ?_
  refine lv_bipush (v := nI 16) hx hb dX5_canFollow_8 (by decide) ?_
  refine lv_irem hx hb dX5_canFollow_10 (by decide) ?_
  refine r_top (y := nI ((g9 v) % 16)) (pk_rem (by omega) (by decide) (by decide)) ?_
  refine lv_aload_n hx hb dX5_canFollow_11 rfl (lv_at hl 1 rfl) ?_
  refine gf_X5_56 hx hb hown hK hS mC_30 (v := .int (nI (nD T))) rfl dX5_canFollow_12 ?_
  refine r_icmp_ge (a := (g9 v) % 16) (b := nD T) (tgt := 54) hx hb (by omega) (by omega) dX5_canFollow_15 (by decide) (fun q15 => ?_) (fun q15 => ?_)
  · -- T
    have hf9 : okC T (g9 v) = false := okC_a (by omega)
    refine lv_iconst (v := nI 0) hx hb dX5_canFollow_54 (by decide) ?_
    refine lv_istore_n (lv' := [(3, .int (nI 0)), (2, .int (nI (g9 v))), (0, .ref (ad 30 0)), (1, .int (nI v))]) hx hb dX5_canFollow_55 rfl hl (by decide) rfl (fun ls hl => ?_)
    refine lv_iconst (v := nI 1) hx hb dX5_canFollow_56 (by decide) ?_
    refine lv_istore (lv' := [(4, .int (nI 1)), (3, .int (nI 0)), (2, .int (nI (g9 v))), (0, .ref (ad 30 0)), (1, .int (nI v))]) hx hb dX5_canFollow_57 hl (by decide) rfl (fun ls hl => ?_)
    refine r_loop (σ := Nat) (fun i => v - i) (fun i H locs ls => (1 ≤ i) ∧ (i ≤ v) ∧ rS G.1 (rF (mC G T th rg C ad) ad s.heap.size) s.heap (mC G T th rg C ad) ad H locs ∧ lv_has ls 5 [(4, .int (nI i)), (3, .int (bI (false && ndC g9 (g9 v) i))), (2, .int (nI (g9 v))), (0, .ref (ad 30 0)), (1, .int (nI v))]) (fun _ => 0) (fun _ => 0) (fun z ih H locs ls hI => ?_) 1 (Nat.zero_le _) (Nat.zero_le _) ⟨Nat.le_refl 1, hv1, hS, lv_sub hl [0, 1, 2, 3, 4] rfl⟩
    obtain ⟨i, rfl⟩ : ∃ y, y = z := ⟨_, rfl⟩
    obtain ⟨hi1, hil, hS, hl⟩ := hI
    try dsimp only at hi1 hil hS hl ih ⊢
    refine lv_iload hx hb dX5_canFollow_59 (lv_at hl 0 rfl) ?_
    refine lv_iload_n hx hb dX5_canFollow_61 rfl (lv_at hl 4 rfl) ?_
    refine r_icmp_ge (a := i) (b := v) (tgt := 98) hx hb (by omega) (by omega) dX5_canFollow_62 (by decide) (fun q62 => ?_) (fun q62 => ?_)
    · -- T
      have hiv : i = v := by omega
      rw [hiv] at hl
      refine lv_iload_n hx hb dX5_canFollow_98 rfl (lv_at hl 1 rfl) ?_
      exact r_zret hx hb hr hlocks hS (bI_z _) (⟨by rw [fol_e hv1, hf9]; rfl, rfl, rfl⟩) (Nat.zero_le _) (Nat.zero_le _) dX5_canFollow_99
    · -- F
      have hbi := hb9 i (by omega)
      refine lv_iload_n hx hb dX5_canFollow_65 rfl (lv_at hl 1 rfl) ?_
      refine r_ifb_eq (b := (false && ndC g9 (g9 v) i)) (tgt := 90) hx hb dX5_canFollow_66 (by decide) (fun q66 => ?_) (fun q66 => ?_)
      · -- T
        refine lv_iconst (v := nI 0) hx hb dX5_canFollow_90 (by decide) ?_
        refine r_top (y := bI (false && ndC g9 (g9 v) (i + 1))) (by rw [nd_s hi1, ← Bool.and_assoc, q66]; rfl) ?_
        refine lv_istore_n (lv' := [(3, .int (bI (false && ndC g9 (g9 v) (i + 1)))), (4, .int (nI i)), (2, .int (nI (g9 v))), (0, .ref (ad 30 0)), (1, .int (nI v))]) hx hb dX5_canFollow_91 rfl hl (by decide) rfl (fun ls hl => ?_)
        refine lv_iinc (v := nI (i + 1)) (lv' := [(4, .int (nI (i + 1))), (3, .int (bI (false && ndC g9 (g9 v) (i + 1)))), (2, .int (nI (g9 v))), (0, .ref (ad 30 0)), (1, .int (nI v))]) hx hb dX5_canFollow_92 hl (k := 1) rfl (nI_inc _) (by decide) rfl (fun ls hl => ?_)
        refine lv_goto (tgt := 59) hx hb dX5_canFollow_95 (by decide) ?_
        exact ih (i + 1) (show v - (i + 1) < v - i by omega) _ _ _ ⟨(show 1 ≤ i + 1 by omega), (show i + 1 ≤ v by omega), hS, lv_sub hl [0, 1, 2, 3, 4] rfl⟩
      · -- F
        refine lv_aload_n hx hb dX5_canFollow_69 rfl (lv_at hl 3 rfl) ?_
        refine gf_X5_49 hx hb hown hK hS mC_30 rfl dX5_canFollow_70 ?_
        refine lv_iload hx hb dX5_canFollow_73 (lv_at hl 0 rfl) ?_
        refine r_iald hx hb hK.1 hS 0 mC_44 rfl (nI_in0 (by omega) (by omega)) (v := nI (g9 i)) (by rw [nI_clamp (by omega)]; exact hg _ (by omega)) dX5_canFollow_75 ?_
        refine lv_bipush (v := nI 16) hx hb dX5_canFollow_76 (by decide) ?_
        refine lv_idiv hx hb dX5_canFollow_78 (by decide) ?_
        refine r_top (y := nI ((g9 i) / 16)) (pk_div (by omega) (by decide) (by decide)) ?_
        refine lv_iload_n hx hb dX5_canFollow_79 rfl (lv_at hl 2 rfl) ?_
        refine lv_bipush (v := nI 16) hx hb dX5_canFollow_80 (by decide) ?_
        refine lv_idiv hx hb dX5_canFollow_82 (by decide) ?_
        refine r_top (y := nI ((g9 v) / 16)) (pk_div (by omega) (by decide) (by decide)) ?_
        refine r_icmp_eq (a := (g9 i) / 16) (b := (g9 v) / 16) (tgt := 90) hx hb (by omega) (by omega) dX5_canFollow_83 (by decide) (fun q83 => ?_) (fun q83 => ?_)
        · -- T
          refine lv_iconst (v := nI 0) hx hb dX5_canFollow_90 (by decide) ?_
          refine r_top (y := bI (false && ndC g9 (g9 v) (i + 1))) (by rw [nd_s hi1, decide_eq_false (fun z => z q83), Bool.and_false, Bool.and_false]; rfl) ?_
          refine lv_istore_n (lv' := [(3, .int (bI (false && ndC g9 (g9 v) (i + 1)))), (4, .int (nI i)), (2, .int (nI (g9 v))), (0, .ref (ad 30 0)), (1, .int (nI v))]) hx hb dX5_canFollow_91 rfl hl (by decide) rfl (fun ls hl => ?_)
          refine lv_iinc (v := nI (i + 1)) (lv' := [(4, .int (nI (i + 1))), (3, .int (bI (false && ndC g9 (g9 v) (i + 1)))), (2, .int (nI (g9 v))), (0, .ref (ad 30 0)), (1, .int (nI v))]) hx hb dX5_canFollow_92 hl (k := 1) rfl (nI_inc _) (by decide) rfl (fun ls hl => ?_)
          refine lv_goto (tgt := 59) hx hb dX5_canFollow_95 (by decide) ?_
          exact ih (i + 1) (show v - (i + 1) < v - i by omega) _ _ _ ⟨(show 1 ≤ i + 1 by omega), (show i + 1 ≤ v by omega), hS, lv_sub hl [0, 1, 2, 3, 4] rfl⟩
        · -- F
          refine lv_iconst (v := nI 1) hx hb dX5_canFollow_86 (by decide) ?_
          refine lv_goto (tgt := 91) hx hb dX5_canFollow_87 (by decide) ?_
          refine r_top (y := bI (false && ndC g9 (g9 v) (i + 1))) (by rw [nd_s hi1, ← Bool.and_assoc, q66, decide_eq_true q83]; rfl) ?_
          refine lv_istore_n (lv' := [(3, .int (bI (false && ndC g9 (g9 v) (i + 1)))), (4, .int (nI i)), (2, .int (nI (g9 v))), (0, .ref (ad 30 0)), (1, .int (nI v))]) hx hb dX5_canFollow_91 rfl hl (by decide) rfl (fun ls hl => ?_)
          refine lv_iinc (v := nI (i + 1)) (lv' := [(4, .int (nI (i + 1))), (3, .int (bI (false && ndC g9 (g9 v) (i + 1)))), (2, .int (nI (g9 v))), (0, .ref (ad 30 0)), (1, .int (nI v))]) hx hb dX5_canFollow_92 hl (k := 1) rfl (nI_inc _) (by decide) rfl (fun ls hl => ?_)
          refine lv_goto (tgt := 59) hx hb dX5_canFollow_95 (by decide) ?_
          exact ih (i + 1) (show v - (i + 1) < v - i by omega) _ _ _ ⟨(show 1 ≤ i + 1 by omega), (show i + 1 ≤ v by omega), hS, lv_sub hl [0, 1, 2, 3, 4] rfl⟩
  · -- F
    have hd9 : g9 v % 16 < nD T := by omega
    refine lv_aload_n hx hb dX5_canFollow_18 rfl (lv_at hl 1 rfl) ?_
    refine lv_iload_n hx hb dX5_canFollow_19 rfl (lv_at hl 0 rfl) ?_
    refine lv_bipush (v := nI 16) hx hb dX5_canFollow_20 (by decide) ?_
    refine lv_idiv hx hb dX5_canFollow_22 (by decide) ?_
    refine r_top (y := nI ((g9 v) / 16)) (pk_div (by omega) (by decide) (by decide)) ?_
    refine lv_iload_n hx hb dX5_canFollow_23 rfl (lv_at hl 0 rfl) ?_
    refine lv_bipush (v := nI 16) hx hb dX5_canFollow_24 (by decide) ?_
    refine lv_irem hx hb dX5_canFollow_26 (by decide) ?_
    refine r_top (y := nI ((g9 v) % 16)) (pk_rem (by omega) (by decide) (by decide)) ?_
    refine cl_X5_109 hx hb hml hown hK hZ hS hA (c_X5_offer hN (by omega) hd9) mC_30 rfl hl.1 (Nat.le_of_ble_eq_true rfl) ⟨Nat.le_of_ble_eq_true rfl, Nat.le_of_ble_eq_true rfl⟩ ⟨Nat.zero_le _, Nat.zero_le _⟩ rfl dX5_canFollow_27 (r_kp (fun H locs hS => ?_))
    refine lv_iconst (v := (-1)) hx hb dX5_canFollow_30 (by decide) ?_
    refine r_oeq (tgt := 54) hx hb (of_bd hnC) dX5_canFollow_31 (by decide) (fun q31 => ?_) (fun x31 q31 => ?_)
    · -- T
      have hf9 : okC T (g9 v) = false := okC_b q31
      refine lv_iconst (v := nI 0) hx hb dX5_canFollow_54 (by decide) ?_
      refine lv_istore_n (lv' := [(3, .int (nI 0)), (2, .int (nI (g9 v))), (0, .ref (ad 30 0)), (1, .int (nI v))]) hx hb dX5_canFollow_55 rfl hl (by decide) rfl (fun ls hl => ?_)
      refine lv_iconst (v := nI 1) hx hb dX5_canFollow_56 (by decide) ?_
      refine lv_istore (lv' := [(4, .int (nI 1)), (3, .int (nI 0)), (2, .int (nI (g9 v))), (0, .ref (ad 30 0)), (1, .int (nI v))]) hx hb dX5_canFollow_57 hl (by decide) rfl (fun ls hl => ?_)
      refine r_loop (σ := Nat) (fun i => v - i) (fun i H locs ls => (1 ≤ i) ∧ (i ≤ v) ∧ rS G.1 (rF (mC G T th rg C ad) ad s.heap.size) s.heap (mC G T th rg C ad) ad H locs ∧ lv_has ls 5 [(4, .int (nI i)), (3, .int (bI (false && ndC g9 (g9 v) i))), (2, .int (nI (g9 v))), (0, .ref (ad 30 0)), (1, .int (nI v))]) (fun _ => 0) (fun _ => 0) (fun z ih H locs ls hI => ?_) 1 (Nat.zero_le _) (Nat.zero_le _) ⟨Nat.le_refl 1, hv1, hS, lv_sub hl [0, 1, 2, 3, 4] rfl⟩
      obtain ⟨i, rfl⟩ : ∃ y, y = z := ⟨_, rfl⟩
      obtain ⟨hi1, hil, hS, hl⟩ := hI
      try dsimp only at hi1 hil hS hl ih ⊢
      refine lv_iload hx hb dX5_canFollow_59 (lv_at hl 0 rfl) ?_
      refine lv_iload_n hx hb dX5_canFollow_61 rfl (lv_at hl 4 rfl) ?_
      refine r_icmp_ge (a := i) (b := v) (tgt := 98) hx hb (by omega) (by omega) dX5_canFollow_62 (by decide) (fun q62 => ?_) (fun q62 => ?_)
      · -- T
        have hiv : i = v := by omega
        rw [hiv] at hl
        refine lv_iload_n hx hb dX5_canFollow_98 rfl (lv_at hl 1 rfl) ?_
        exact r_zret hx hb hr hlocks hS (bI_z _) (⟨by rw [fol_e hv1, hf9]; rfl, rfl, rfl⟩) (Nat.zero_le _) (Nat.zero_le _) dX5_canFollow_99
      · -- F
        have hbi := hb9 i (by omega)
        refine lv_iload_n hx hb dX5_canFollow_65 rfl (lv_at hl 1 rfl) ?_
        refine r_ifb_eq (b := (false && ndC g9 (g9 v) i)) (tgt := 90) hx hb dX5_canFollow_66 (by decide) (fun q66 => ?_) (fun q66 => ?_)
        · -- T
          refine lv_iconst (v := nI 0) hx hb dX5_canFollow_90 (by decide) ?_
          refine r_top (y := bI (false && ndC g9 (g9 v) (i + 1))) (by rw [nd_s hi1, ← Bool.and_assoc, q66]; rfl) ?_
          refine lv_istore_n (lv' := [(3, .int (bI (false && ndC g9 (g9 v) (i + 1)))), (4, .int (nI i)), (2, .int (nI (g9 v))), (0, .ref (ad 30 0)), (1, .int (nI v))]) hx hb dX5_canFollow_91 rfl hl (by decide) rfl (fun ls hl => ?_)
          refine lv_iinc (v := nI (i + 1)) (lv' := [(4, .int (nI (i + 1))), (3, .int (bI (false && ndC g9 (g9 v) (i + 1)))), (2, .int (nI (g9 v))), (0, .ref (ad 30 0)), (1, .int (nI v))]) hx hb dX5_canFollow_92 hl (k := 1) rfl (nI_inc _) (by decide) rfl (fun ls hl => ?_)
          refine lv_goto (tgt := 59) hx hb dX5_canFollow_95 (by decide) ?_
          exact ih (i + 1) (show v - (i + 1) < v - i by omega) _ _ _ ⟨(show 1 ≤ i + 1 by omega), (show i + 1 ≤ v by omega), hS, lv_sub hl [0, 1, 2, 3, 4] rfl⟩
        · -- F
          refine lv_aload_n hx hb dX5_canFollow_69 rfl (lv_at hl 3 rfl) ?_
          refine gf_X5_49 hx hb hown hK hS mC_30 rfl dX5_canFollow_70 ?_
          refine lv_iload hx hb dX5_canFollow_73 (lv_at hl 0 rfl) ?_
          refine r_iald hx hb hK.1 hS 0 mC_44 rfl (nI_in0 (by omega) (by omega)) (v := nI (g9 i)) (by rw [nI_clamp (by omega)]; exact hg _ (by omega)) dX5_canFollow_75 ?_
          refine lv_bipush (v := nI 16) hx hb dX5_canFollow_76 (by decide) ?_
          refine lv_idiv hx hb dX5_canFollow_78 (by decide) ?_
          refine r_top (y := nI ((g9 i) / 16)) (pk_div (by omega) (by decide) (by decide)) ?_
          refine lv_iload_n hx hb dX5_canFollow_79 rfl (lv_at hl 2 rfl) ?_
          refine lv_bipush (v := nI 16) hx hb dX5_canFollow_80 (by decide) ?_
          refine lv_idiv hx hb dX5_canFollow_82 (by decide) ?_
          refine r_top (y := nI ((g9 v) / 16)) (pk_div (by omega) (by decide) (by decide)) ?_
          refine r_icmp_eq (a := (g9 i) / 16) (b := (g9 v) / 16) (tgt := 90) hx hb (by omega) (by omega) dX5_canFollow_83 (by decide) (fun q83 => ?_) (fun q83 => ?_)
          · -- T
            refine lv_iconst (v := nI 0) hx hb dX5_canFollow_90 (by decide) ?_
            refine r_top (y := bI (false && ndC g9 (g9 v) (i + 1))) (by rw [nd_s hi1, decide_eq_false (fun z => z q83), Bool.and_false, Bool.and_false]; rfl) ?_
            refine lv_istore_n (lv' := [(3, .int (bI (false && ndC g9 (g9 v) (i + 1)))), (4, .int (nI i)), (2, .int (nI (g9 v))), (0, .ref (ad 30 0)), (1, .int (nI v))]) hx hb dX5_canFollow_91 rfl hl (by decide) rfl (fun ls hl => ?_)
            refine lv_iinc (v := nI (i + 1)) (lv' := [(4, .int (nI (i + 1))), (3, .int (bI (false && ndC g9 (g9 v) (i + 1)))), (2, .int (nI (g9 v))), (0, .ref (ad 30 0)), (1, .int (nI v))]) hx hb dX5_canFollow_92 hl (k := 1) rfl (nI_inc _) (by decide) rfl (fun ls hl => ?_)
            refine lv_goto (tgt := 59) hx hb dX5_canFollow_95 (by decide) ?_
            exact ih (i + 1) (show v - (i + 1) < v - i by omega) _ _ _ ⟨(show 1 ≤ i + 1 by omega), (show i + 1 ≤ v by omega), hS, lv_sub hl [0, 1, 2, 3, 4] rfl⟩
          · -- F
            refine lv_iconst (v := nI 1) hx hb dX5_canFollow_86 (by decide) ?_
            refine lv_goto (tgt := 91) hx hb dX5_canFollow_87 (by decide) ?_
            refine r_top (y := bI (false && ndC g9 (g9 v) (i + 1))) (by rw [nd_s hi1, ← Bool.and_assoc, q66, decide_eq_true q83]; rfl) ?_
            refine lv_istore_n (lv' := [(3, .int (bI (false && ndC g9 (g9 v) (i + 1)))), (4, .int (nI i)), (2, .int (nI (g9 v))), (0, .ref (ad 30 0)), (1, .int (nI v))]) hx hb dX5_canFollow_91 rfl hl (by decide) rfl (fun ls hl => ?_)
            refine lv_iinc (v := nI (i + 1)) (lv' := [(4, .int (nI (i + 1))), (3, .int (bI (false && ndC g9 (g9 v) (i + 1)))), (2, .int (nI (g9 v))), (0, .ref (ad 30 0)), (1, .int (nI v))]) hx hb dX5_canFollow_92 hl (k := 1) rfl (nI_inc _) (by decide) rfl (fun ls hl => ?_)
            refine lv_goto (tgt := 59) hx hb dX5_canFollow_95 (by decide) ?_
            exact ih (i + 1) (show v - (i + 1) < v - i by omega) _ _ _ ⟨(show 1 ≤ i + 1 by omega), (show i + 1 ≤ v by omega), hS, lv_sub hl [0, 1, 2, 3, 4] rfl⟩
    · -- F
      have hf9 : okC T (g9 v) = true := (okC_i hd9 q31).1
      refine lv_aload_n hx hb dX5_canFollow_34 rfl (lv_at hl 1 rfl) ?_
      refine lv_aload_n hx hb dX5_canFollow_35 rfl (lv_at hl 1 rfl) ?_
      refine gf_X5_49 hx hb hown hK hS mC_30 rfl dX5_canFollow_36 ?_
      refine lv_iload_n hx hb dX5_canFollow_39 rfl (lv_at hl 2 rfl) ?_
      refine lv_iconst (v := nI 1) hx hb dX5_canFollow_40 (by decide) ?_
      refine lv_isub hx hb dX5_canFollow_41 ?_
      refine r_top (y := nI (v - 1)) (pk_sub (by omega)) ?_
      refine r_iald hx hb hK.1 hS 0 mC_44 rfl (nI_in0 (by omega) (by omega)) (v := nI (g9 (v - 1))) (by rw [nI_clamp (by omega)]; exact hg _ (by omega)) dX5_canFollow_42 ?_
      refine lv_iload_n hx hb dX5_canFollow_43 rfl (lv_at hl 0 rfl) ?_
      refine cl_X5_112 hx hb hml hown hK hZ hS hA (c_X5_takes hN hokw.1 hbw hd9 hbv) mC_30 rfl hl.1 (Nat.le_of_ble_eq_true rfl) ⟨Nat.le_of_ble_eq_true rfl, Nat.le_of_ble_eq_true rfl⟩ ⟨Nat.zero_le _, Nat.zero_le _⟩ rfl dX5_canFollow_44 (r_kp (fun H locs hS => ?_))
      refine r_ifb_eq (b := (takB T (g9 (v - 1)) (g9 v))) (tgt := 54) hx hb dX5_canFollow_47 (by decide) (fun q47 => ?_) (fun q47 => ?_)
      · -- T
        refine lv_iconst (v := nI 0) hx hb dX5_canFollow_54 (by decide) ?_
        refine lv_istore_n (lv' := [(3, .int (nI 0)), (2, .int (nI (g9 v))), (0, .ref (ad 30 0)), (1, .int (nI v))]) hx hb dX5_canFollow_55 rfl hl (by decide) rfl (fun ls hl => ?_)
        refine lv_iconst (v := nI 1) hx hb dX5_canFollow_56 (by decide) ?_
        refine lv_istore (lv' := [(4, .int (nI 1)), (3, .int (nI 0)), (2, .int (nI (g9 v))), (0, .ref (ad 30 0)), (1, .int (nI v))]) hx hb dX5_canFollow_57 hl (by decide) rfl (fun ls hl => ?_)
        refine r_loop (σ := Nat) (fun i => v - i) (fun i H locs ls => (1 ≤ i) ∧ (i ≤ v) ∧ rS G.1 (rF (mC G T th rg C ad) ad s.heap.size) s.heap (mC G T th rg C ad) ad H locs ∧ lv_has ls 5 [(4, .int (nI i)), (3, .int (bI (false && ndC g9 (g9 v) i))), (2, .int (nI (g9 v))), (0, .ref (ad 30 0)), (1, .int (nI v))]) (fun _ => 0) (fun _ => 0) (fun z ih H locs ls hI => ?_) 1 (Nat.zero_le _) (Nat.zero_le _) ⟨Nat.le_refl 1, hv1, hS, lv_sub hl [0, 1, 2, 3, 4] rfl⟩
        obtain ⟨i, rfl⟩ : ∃ y, y = z := ⟨_, rfl⟩
        obtain ⟨hi1, hil, hS, hl⟩ := hI
        try dsimp only at hi1 hil hS hl ih ⊢
        refine lv_iload hx hb dX5_canFollow_59 (lv_at hl 0 rfl) ?_
        refine lv_iload_n hx hb dX5_canFollow_61 rfl (lv_at hl 4 rfl) ?_
        refine r_icmp_ge (a := i) (b := v) (tgt := 98) hx hb (by omega) (by omega) dX5_canFollow_62 (by decide) (fun q62 => ?_) (fun q62 => ?_)
        · -- T
          have hiv : i = v := by omega
          rw [hiv] at hl
          refine lv_iload_n hx hb dX5_canFollow_98 rfl (lv_at hl 1 rfl) ?_
          exact r_zret hx hb hr hlocks hS (bI_z _) (⟨by rw [fol_e hv1, hf9, q47]; rfl, rfl, rfl⟩) (Nat.zero_le _) (Nat.zero_le _) dX5_canFollow_99
        · -- F
          have hbi := hb9 i (by omega)
          refine lv_iload_n hx hb dX5_canFollow_65 rfl (lv_at hl 1 rfl) ?_
          refine r_ifb_eq (b := (false && ndC g9 (g9 v) i)) (tgt := 90) hx hb dX5_canFollow_66 (by decide) (fun q66 => ?_) (fun q66 => ?_)
          · -- T
            refine lv_iconst (v := nI 0) hx hb dX5_canFollow_90 (by decide) ?_
            refine r_top (y := bI (false && ndC g9 (g9 v) (i + 1))) (by rw [nd_s hi1, ← Bool.and_assoc, q66]; rfl) ?_
            refine lv_istore_n (lv' := [(3, .int (bI (false && ndC g9 (g9 v) (i + 1)))), (4, .int (nI i)), (2, .int (nI (g9 v))), (0, .ref (ad 30 0)), (1, .int (nI v))]) hx hb dX5_canFollow_91 rfl hl (by decide) rfl (fun ls hl => ?_)
            refine lv_iinc (v := nI (i + 1)) (lv' := [(4, .int (nI (i + 1))), (3, .int (bI (false && ndC g9 (g9 v) (i + 1)))), (2, .int (nI (g9 v))), (0, .ref (ad 30 0)), (1, .int (nI v))]) hx hb dX5_canFollow_92 hl (k := 1) rfl (nI_inc _) (by decide) rfl (fun ls hl => ?_)
            refine lv_goto (tgt := 59) hx hb dX5_canFollow_95 (by decide) ?_
            exact ih (i + 1) (show v - (i + 1) < v - i by omega) _ _ _ ⟨(show 1 ≤ i + 1 by omega), (show i + 1 ≤ v by omega), hS, lv_sub hl [0, 1, 2, 3, 4] rfl⟩
          · -- F
            refine lv_aload_n hx hb dX5_canFollow_69 rfl (lv_at hl 3 rfl) ?_
            refine gf_X5_49 hx hb hown hK hS mC_30 rfl dX5_canFollow_70 ?_
            refine lv_iload hx hb dX5_canFollow_73 (lv_at hl 0 rfl) ?_
            refine r_iald hx hb hK.1 hS 0 mC_44 rfl (nI_in0 (by omega) (by omega)) (v := nI (g9 i)) (by rw [nI_clamp (by omega)]; exact hg _ (by omega)) dX5_canFollow_75 ?_
            refine lv_bipush (v := nI 16) hx hb dX5_canFollow_76 (by decide) ?_
            refine lv_idiv hx hb dX5_canFollow_78 (by decide) ?_
            refine r_top (y := nI ((g9 i) / 16)) (pk_div (by omega) (by decide) (by decide)) ?_
            refine lv_iload_n hx hb dX5_canFollow_79 rfl (lv_at hl 2 rfl) ?_
            refine lv_bipush (v := nI 16) hx hb dX5_canFollow_80 (by decide) ?_
            refine lv_idiv hx hb dX5_canFollow_82 (by decide) ?_
            refine r_top (y := nI ((g9 v) / 16)) (pk_div (by omega) (by decide) (by decide)) ?_
            refine r_icmp_eq (a := (g9 i) / 16) (b := (g9 v) / 16) (tgt := 90) hx hb (by omega) (by omega) dX5_canFollow_83 (by decide) (fun q83 => ?_) (fun q83 => ?_)
            · -- T
              refine lv_iconst (v := nI 0) hx hb dX5_canFollow_90 (by decide) ?_
              refine r_top (y := bI (false && ndC g9 (g9 v) (i + 1))) (by rw [nd_s hi1, decide_eq_false (fun z => z q83), Bool.and_false, Bool.and_false]; rfl) ?_
              refine lv_istore_n (lv' := [(3, .int (bI (false && ndC g9 (g9 v) (i + 1)))), (4, .int (nI i)), (2, .int (nI (g9 v))), (0, .ref (ad 30 0)), (1, .int (nI v))]) hx hb dX5_canFollow_91 rfl hl (by decide) rfl (fun ls hl => ?_)
              refine lv_iinc (v := nI (i + 1)) (lv' := [(4, .int (nI (i + 1))), (3, .int (bI (false && ndC g9 (g9 v) (i + 1)))), (2, .int (nI (g9 v))), (0, .ref (ad 30 0)), (1, .int (nI v))]) hx hb dX5_canFollow_92 hl (k := 1) rfl (nI_inc _) (by decide) rfl (fun ls hl => ?_)
              refine lv_goto (tgt := 59) hx hb dX5_canFollow_95 (by decide) ?_
              exact ih (i + 1) (show v - (i + 1) < v - i by omega) _ _ _ ⟨(show 1 ≤ i + 1 by omega), (show i + 1 ≤ v by omega), hS, lv_sub hl [0, 1, 2, 3, 4] rfl⟩
            · -- F
              refine lv_iconst (v := nI 1) hx hb dX5_canFollow_86 (by decide) ?_
              refine lv_goto (tgt := 91) hx hb dX5_canFollow_87 (by decide) ?_
              refine r_top (y := bI (false && ndC g9 (g9 v) (i + 1))) (by rw [nd_s hi1, ← Bool.and_assoc, q66, decide_eq_true q83]; rfl) ?_
              refine lv_istore_n (lv' := [(3, .int (bI (false && ndC g9 (g9 v) (i + 1)))), (4, .int (nI i)), (2, .int (nI (g9 v))), (0, .ref (ad 30 0)), (1, .int (nI v))]) hx hb dX5_canFollow_91 rfl hl (by decide) rfl (fun ls hl => ?_)
              refine lv_iinc (v := nI (i + 1)) (lv' := [(4, .int (nI (i + 1))), (3, .int (bI (false && ndC g9 (g9 v) (i + 1)))), (2, .int (nI (g9 v))), (0, .ref (ad 30 0)), (1, .int (nI v))]) hx hb dX5_canFollow_92 hl (k := 1) rfl (nI_inc _) (by decide) rfl (fun ls hl => ?_)
              refine lv_goto (tgt := 59) hx hb dX5_canFollow_95 (by decide) ?_
              exact ih (i + 1) (show v - (i + 1) < v - i by omega) _ _ _ ⟨(show 1 ≤ i + 1 by omega), (show i + 1 ≤ v by omega), hS, lv_sub hl [0, 1, 2, 3, 4] rfl⟩
      · -- F
        refine lv_iconst (v := nI 1) hx hb dX5_canFollow_50 (by decide) ?_
        refine lv_goto (tgt := 55) hx hb dX5_canFollow_51 (by decide) ?_
        refine lv_istore_n (lv' := [(3, .int (nI 1)), (2, .int (nI (g9 v))), (0, .ref (ad 30 0)), (1, .int (nI v))]) hx hb dX5_canFollow_55 rfl hl (by decide) rfl (fun ls hl => ?_)
        refine lv_iconst (v := nI 1) hx hb dX5_canFollow_56 (by decide) ?_
        refine lv_istore (lv' := [(4, .int (nI 1)), (3, .int (nI 1)), (2, .int (nI (g9 v))), (0, .ref (ad 30 0)), (1, .int (nI v))]) hx hb dX5_canFollow_57 hl (by decide) rfl (fun ls hl => ?_)
        refine r_loop (σ := Nat) (fun i => v - i) (fun i H locs ls => (1 ≤ i) ∧ (i ≤ v) ∧ rS G.1 (rF (mC G T th rg C ad) ad s.heap.size) s.heap (mC G T th rg C ad) ad H locs ∧ lv_has ls 5 [(4, .int (nI i)), (3, .int (bI (true && ndC g9 (g9 v) i))), (2, .int (nI (g9 v))), (0, .ref (ad 30 0)), (1, .int (nI v))]) (fun _ => 0) (fun _ => 0) (fun z ih H locs ls hI => ?_) 1 (Nat.zero_le _) (Nat.zero_le _) ⟨Nat.le_refl 1, hv1, hS, lv_sub hl [0, 1, 2, 3, 4] rfl⟩
        obtain ⟨i, rfl⟩ : ∃ y, y = z := ⟨_, rfl⟩
        obtain ⟨hi1, hil, hS, hl⟩ := hI
        try dsimp only at hi1 hil hS hl ih ⊢
        refine lv_iload hx hb dX5_canFollow_59 (lv_at hl 0 rfl) ?_
        refine lv_iload_n hx hb dX5_canFollow_61 rfl (lv_at hl 4 rfl) ?_
        refine r_icmp_ge (a := i) (b := v) (tgt := 98) hx hb (by omega) (by omega) dX5_canFollow_62 (by decide) (fun q62 => ?_) (fun q62 => ?_)
        · -- T
          have hiv : i = v := by omega
          rw [hiv] at hl
          refine lv_iload_n hx hb dX5_canFollow_98 rfl (lv_at hl 1 rfl) ?_
          exact r_zret hx hb hr hlocks hS (bI_z _) (⟨by rw [fol_e hv1, hf9, q47]; rfl, rfl, rfl⟩) (Nat.zero_le _) (Nat.zero_le _) dX5_canFollow_99
        · -- F
          have hbi := hb9 i (by omega)
          refine lv_iload_n hx hb dX5_canFollow_65 rfl (lv_at hl 1 rfl) ?_
          refine r_ifb_eq (b := (true && ndC g9 (g9 v) i)) (tgt := 90) hx hb dX5_canFollow_66 (by decide) (fun q66 => ?_) (fun q66 => ?_)
          · -- T
            refine lv_iconst (v := nI 0) hx hb dX5_canFollow_90 (by decide) ?_
            refine r_top (y := bI (true && ndC g9 (g9 v) (i + 1))) (by rw [nd_s hi1, ← Bool.and_assoc, q66]; rfl) ?_
            refine lv_istore_n (lv' := [(3, .int (bI (true && ndC g9 (g9 v) (i + 1)))), (4, .int (nI i)), (2, .int (nI (g9 v))), (0, .ref (ad 30 0)), (1, .int (nI v))]) hx hb dX5_canFollow_91 rfl hl (by decide) rfl (fun ls hl => ?_)
            refine lv_iinc (v := nI (i + 1)) (lv' := [(4, .int (nI (i + 1))), (3, .int (bI (true && ndC g9 (g9 v) (i + 1)))), (2, .int (nI (g9 v))), (0, .ref (ad 30 0)), (1, .int (nI v))]) hx hb dX5_canFollow_92 hl (k := 1) rfl (nI_inc _) (by decide) rfl (fun ls hl => ?_)
            refine lv_goto (tgt := 59) hx hb dX5_canFollow_95 (by decide) ?_
            exact ih (i + 1) (show v - (i + 1) < v - i by omega) _ _ _ ⟨(show 1 ≤ i + 1 by omega), (show i + 1 ≤ v by omega), hS, lv_sub hl [0, 1, 2, 3, 4] rfl⟩
          · -- F
            refine lv_aload_n hx hb dX5_canFollow_69 rfl (lv_at hl 3 rfl) ?_
            refine gf_X5_49 hx hb hown hK hS mC_30 rfl dX5_canFollow_70 ?_
            refine lv_iload hx hb dX5_canFollow_73 (lv_at hl 0 rfl) ?_
            refine r_iald hx hb hK.1 hS 0 mC_44 rfl (nI_in0 (by omega) (by omega)) (v := nI (g9 i)) (by rw [nI_clamp (by omega)]; exact hg _ (by omega)) dX5_canFollow_75 ?_
            refine lv_bipush (v := nI 16) hx hb dX5_canFollow_76 (by decide) ?_
            refine lv_idiv hx hb dX5_canFollow_78 (by decide) ?_
            refine r_top (y := nI ((g9 i) / 16)) (pk_div (by omega) (by decide) (by decide)) ?_
            refine lv_iload_n hx hb dX5_canFollow_79 rfl (lv_at hl 2 rfl) ?_
            refine lv_bipush (v := nI 16) hx hb dX5_canFollow_80 (by decide) ?_
            refine lv_idiv hx hb dX5_canFollow_82 (by decide) ?_
            refine r_top (y := nI ((g9 v) / 16)) (pk_div (by omega) (by decide) (by decide)) ?_
            refine r_icmp_eq (a := (g9 i) / 16) (b := (g9 v) / 16) (tgt := 90) hx hb (by omega) (by omega) dX5_canFollow_83 (by decide) (fun q83 => ?_) (fun q83 => ?_)
            · -- T
              refine lv_iconst (v := nI 0) hx hb dX5_canFollow_90 (by decide) ?_
              refine r_top (y := bI (true && ndC g9 (g9 v) (i + 1))) (by rw [nd_s hi1, decide_eq_false (fun z => z q83), Bool.and_false, Bool.and_false]; rfl) ?_
              refine lv_istore_n (lv' := [(3, .int (bI (true && ndC g9 (g9 v) (i + 1)))), (4, .int (nI i)), (2, .int (nI (g9 v))), (0, .ref (ad 30 0)), (1, .int (nI v))]) hx hb dX5_canFollow_91 rfl hl (by decide) rfl (fun ls hl => ?_)
              refine lv_iinc (v := nI (i + 1)) (lv' := [(4, .int (nI (i + 1))), (3, .int (bI (true && ndC g9 (g9 v) (i + 1)))), (2, .int (nI (g9 v))), (0, .ref (ad 30 0)), (1, .int (nI v))]) hx hb dX5_canFollow_92 hl (k := 1) rfl (nI_inc _) (by decide) rfl (fun ls hl => ?_)
              refine lv_goto (tgt := 59) hx hb dX5_canFollow_95 (by decide) ?_
              exact ih (i + 1) (show v - (i + 1) < v - i by omega) _ _ _ ⟨(show 1 ≤ i + 1 by omega), (show i + 1 ≤ v by omega), hS, lv_sub hl [0, 1, 2, 3, 4] rfl⟩
            · -- F
              refine lv_iconst (v := nI 1) hx hb dX5_canFollow_86 (by decide) ?_
              refine lv_goto (tgt := 91) hx hb dX5_canFollow_87 (by decide) ?_
              refine r_top (y := bI (true && ndC g9 (g9 v) (i + 1))) (by rw [nd_s hi1, ← Bool.and_assoc, q66, decide_eq_true q83]; rfl) ?_
              refine lv_istore_n (lv' := [(3, .int (bI (true && ndC g9 (g9 v) (i + 1)))), (4, .int (nI i)), (2, .int (nI (g9 v))), (0, .ref (ad 30 0)), (1, .int (nI v))]) hx hb dX5_canFollow_91 rfl hl (by decide) rfl (fun ls hl => ?_)
              refine lv_iinc (v := nI (i + 1)) (lv' := [(4, .int (nI (i + 1))), (3, .int (bI (true && ndC g9 (g9 v) (i + 1)))), (2, .int (nI (g9 v))), (0, .ref (ad 30 0)), (1, .int (nI v))]) hx hb dX5_canFollow_92 hl (k := 1) rfl (nI_inc _) (by decide) rfl (fun ls hl => ?_)
              refine lv_goto (tgt := 59) hx hb dX5_canFollow_95 (by decide) ?_
              exact ih (i + 1) (show v - (i + 1) < v - i by omega) _ _ _ ⟨(show 1 ≤ i + 1 by omega), (show i + 1 ≤ v by omega), hS, lv_sub hl [0, 1, 2, 3, 4] rfl⟩

def ffP (G : rG) (T : rTab) (th : Int32) (n f : Nat) (C : rC) (ad : rA) : Value → rC → rA → Prop := fun r C' ad' => r = .int (bI (srch T (n - 1) [f]).isSome) ∧ ∃ rg', (mC G T th rg' C ad = C' ∧ ad = ad') ∧ ∀ p, srch T (n - 1) [f] = some p → ∀ k, k < n → rg' k = nI (p.getD k 0)

set_option maxHeartbeats 4000000 in
set_option maxRecDepth 100000 in
theorem c_X5_findsFrom {G : rG} {l : Launch} {T : rTab} {th : Int32} {rg : Nat → Int32} {C : rC} {ad : rA} (hN : mNu T) {f n : Nat} (hf : okC T f = true) (hf2 : f < 112) (hn2 : 2 ≤ n) (hn4 : n ≤ 4) : rMet G l yX5_findsFrom cX5_findsFrom 5 (some .boolean) (rmP 7) [.ref (ad 30 0), .int (nI f), .int (nI n)] (mC G T th rg C ad) ad (rRet (ffP G T th n f C ad)) := by
  refine rMet.of (by decide) ?_
  intro p e s m below meth c hx hb hml hr hlocks hown hname hK hZ hS
  have hown : s.vm.findClass RX5 = some m.cls := hown
  have hA : ∀ q : Nat, s.heap.size ≤ q → (rF (mC G T th rg C ad) ad s.heap.size) q := rF.new
  refine r_entry _ (Nat.le_of_ble_eq_true rfl) (fun ls hl => ?_)
  have hl : lv_has ls 5 [(0, .ref (ad 30 0)), (1, .int (nI f)), (2, .int (nI n))] := hl
  have hnD := hN.hD
  have hnC := hN.hC
  have hnS := hN.hS
  have hfs := okC_s hf
  refine lv_aload_n hx hb dX5_findsFrom_0 rfl (lv_at hl 0 rfl) ?_
  refine gf_X5_49 hx hb hown hK hS mC_30 rfl dX5_findsFrom_1 ?_
  refine lv_iconst (v := nI 0) hx hb dX5_findsFrom_4 (by decide) ?_
  refine lv_iload_n hx hb dX5_findsFrom_5 rfl (lv_at hl 1 rfl) ?_
  refine r_iast hx hb hK.1 hS 0 mC_44 rfl (nI_in0 (by omega) (by omega)) (f' := upd rg 0 (nI f)) (by rw [nI_clamp (by omega)]) dX5_findsFrom_6 (fun H locs hS => ?_)
  rw [mC_p44] at hS
  refine lv_iconst (v := nI 1) hx hb dX5_findsFrom_7 (by decide) ?_
  refine lv_istore_n (lv' := [(3, .int (nI 1)), (0, .ref (ad 30 0)), (1, .int (nI f)), (2, .int (nI n))]) hx hb dX5_findsFrom_8 rfl hl (by decide) rfl (fun ls hl => ?_)
  refine lv_bipush (v := nI 16) hx hb dX5_findsFrom_9 (by decide) ?_
  refine lv_iload_n hx hb dX5_findsFrom_11 rfl (lv_at hl 2 rfl) ?_
  refine lv_bipush (v := nI 16) hx hb dX5_findsFrom_12 (by decide) ?_
  refine lv_idiv hx hb dX5_findsFrom_14 (by decide) ?_
  refine r_top (y := nI (f / 16)) (pk_div (by omega) (by decide) (by decide)) ?_
  refine lv_iconst (v := nI 1) hx hb dX5_findsFrom_15 (by decide) ?_
  refine lv_iadd hx hb dX5_findsFrom_16 ?_
  refine r_top (nI_add _ _) ?_
  refine lv_imul hx hb dX5_findsFrom_17 ?_
  refine r_top (pk_mul _ _) ?_
  refine lv_istore (lv' := [(4, .int (nI (16 * (f / 16 + 1)))), (3, .int (nI 1)), (0, .ref (ad 30 0)), (1, .int (nI f)), (2, .int (nI n))]) hx hb dX5_findsFrom_18 hl (by decide) rfl (fun ls hl => ?_)
  refine lv_aload_n hx hb dX5_findsFrom_20 rfl (lv_at hl 2 rfl) ?_
  refine gf_X5_49 hx hb hown hK hS mC_30 rfl dX5_findsFrom_21 ?_
  refine lv_iconst (v := nI 1) hx hb dX5_findsFrom_24 (by decide) ?_
  refine lv_iload hx hb dX5_findsFrom_25 (lv_at hl 0 rfl) ?_
  refine lv_iconst (v := nI 1) hx hb dX5_findsFrom_27 (by decide) ?_
  refine lv_isub hx hb dX5_findsFrom_28 ?_
  refine r_top (y := nI (16 * (f / 16 + 1) - 1)) (pk_sub (by omega)) ?_
  refine r_iast hx hb hK.1 hS 0 mC_44 rfl (nI_in0 (by omega) (by omega)) (f' := upd (upd rg 0 (nI f)) 1 (nI (16 * (f / 16 + 1) - 1))) (by rw [nI_clamp (by omega)]) dX5_findsFrom_29 (fun H locs hS => ?_)
  rw [mC_p44] at hS
  obtain ⟨ra, hra⟩ : ∃ z, z = upd (upd rg 0 (nI f)) 1 (nI (16 * (f / 16 + 1) - 1)) := ⟨_, rfl⟩
  rw [← hra] at hS
  have hg0 : ∀ k, k ≤ 1 → ra k = nI (upN (fun _ => f) 1 (16 * (f / 16 + 1) - 1) k) := fun k hk => by
    rw [hra, gd_upd, gd_upd]
    unfold upN
    by_cases e : k = 1
    · rw [if_pos e, if_pos e]
    · rw [if_neg e, if_neg e, if_pos (by omega)]
  refine r_loop (σ := Nat × (Nat → Nat) × (Nat → Int32)) (fun ⟨v, g9, ra⟩ => muC g9 v) (fun ⟨v, g9, ra⟩ H locs ls => (sI T n f v g9) ∧ (∀ k, k ≤ v → ra k = nI (g9 k)) ∧ rS G.1 (rF (mC G T th rg C ad) ad s.heap.size) s.heap (mC G T th ra C ad) ad H locs ∧ lv_has ls 5 [(3, .int (nI v)), (4, .int (nI (16 * (f / 16 + 1)))), (0, .ref (ad 30 0)), (1, .int (nI f)), (2, .int (nI n))]) (fun _ => 0) (fun _ => 0) (fun z ih H locs ls hI => ?_) (1, upN (fun _ => f) 1 (16 * (f / 16 + 1) - 1), ra) (Nat.zero_le _) (Nat.zero_le _) ⟨(sI_0 hf hf2 hn2 hn4), hg0, hS, lv_sub hl [1, 0, 2, 3, 4] rfl⟩
  obtain ⟨v, g9, ra⟩ := z
  obtain ⟨hsI, hg, hS, hl⟩ := hI
  try dsimp only at hsI hg hS hl ih ⊢
  refine lv_iload_n hx hb dX5_findsFrom_30 rfl (lv_at hl 0 rfl) ?_
  have hvn := hsI.1
  refine r_if_le (a := v) (tgt := 109) hx hb (by omega) dX5_findsFrom_31 (by decide) (fun q31 => ?_) (fun q31 => ?_)
  · -- T
    rw [q31] at hsI
    have hno := sI_z hsI
    refine lv_iconst (v := nI 0) hx hb dX5_findsFrom_109 (by decide) ?_
    exact r_zret hx hb hr hlocks hS rfl (⟨_, rfl, by rw [hno]; rfl, ra, ⟨rfl, rfl⟩, fun p hp => by rw [hno] at hp; cases hp⟩) (Nat.zero_le _) (Nat.zero_le _) dX5_findsFrom_110
  · -- F
    obtain ⟨u, rfl⟩ : ∃ u, v = u + 1 := ⟨v - 1, by omega⟩
    have hb9 := hsI.2.2.2.2.1 (u + 1) (Nat.le_refl _)
    refine lv_aload_n hx hb dX5_findsFrom_34 rfl (lv_at hl 2 rfl) ?_
    refine gf_X5_49 hx hb hown hK hS mC_30 rfl dX5_findsFrom_35 ?_
    refine lv_iload_n hx hb dX5_findsFrom_38 rfl (lv_at hl 0 rfl) ?_
    refine lv_dup2_11 hx hb dX5_findsFrom_39 rfl rfl ?_
    refine r_iald hx hb hK.1 hS 0 mC_44 rfl (nI_in0 (by omega) (by omega)) (v := nI (g9 (u + 1))) (by rw [nI_clamp (by omega)]; exact hg _ (Nat.le_refl _)) dX5_findsFrom_40 ?_
    refine lv_iconst (v := nI 1) hx hb dX5_findsFrom_41 (by decide) ?_
    refine lv_iadd hx hb dX5_findsFrom_42 ?_
    refine r_top (nI_add _ _) ?_
    refine r_iast hx hb hK.1 hS 0 mC_44 rfl (nI_in0 (by omega) (by omega)) (f' := upd ra (u + 1) (nI (g9 (u + 1) + 1))) (by rw [nI_clamp (by omega)]) dX5_findsFrom_43 (fun H locs hS => ?_)
    rw [mC_p44] at hS
    obtain ⟨rb, hrb⟩ : ∃ z, z = upd ra (u + 1) (nI (g9 (u + 1) + 1)) := ⟨_, rfl⟩
    rw [← hrb] at hS
    have hg2 : ∀ k, k ≤ u + 1 → rb k = nI (upN g9 (u + 1) (g9 (u + 1) + 1) k) := fun k hk => by
      rw [hrb, gd_upd]
      unfold upN
      by_cases e : k = u + 1
      · rw [if_pos e, if_pos e]
      · rw [if_neg e, if_neg e]
        exact hg k hk
    refine lv_aload_n hx hb dX5_findsFrom_44 rfl (lv_at hl 2 rfl) ?_
    refine gf_X5_49 hx hb hown hK hS mC_30 rfl dX5_findsFrom_45 ?_
    refine lv_iload_n hx hb dX5_findsFrom_48 rfl (lv_at hl 0 rfl) ?_
    refine r_iald hx hb hK.1 hS 0 mC_44 rfl (nI_in0 (by omega) (by omega)) (v := nI (g9 (u + 1) + 1)) (by rw [nI_clamp (by omega), hg2 _ (Nat.le_refl _), upN_e]) dX5_findsFrom_49 ?_
    refine lv_sipush (v := nI 128) hx hb dX5_findsFrom_50 (by decide) ?_
    refine r_icmp_ne (a := g9 (u + 1) + 1) (b := 128) (tgt := 62) hx hb (by omega) (by omega) dX5_findsFrom_53 (by decide) (fun q53 => ?_) (fun q53 => ?_)
    · -- T
      have hlt : g9 (u + 1) + 1 < 128 := by omega
      refine lv_aload_n hx hb dX5_findsFrom_62 rfl (lv_at hl 2 rfl) ?_
      refine lv_iload_n hx hb dX5_findsFrom_63 rfl (lv_at hl 0 rfl) ?_
      refine cl_X5_116 hx hb hml hown hK hZ hS hA (c_X5_canFollow (rg := rb) hN (g9 := upN g9 (u + 1) (g9 (u + 1) + 1)) (v := u + 1) (by omega) (by omega) hg2 (fun k hk => by unfold upN; split; exact hlt; exact hsI.2.2.2.2.1 k hk) (fun k hk => by rw [upN_n (by omega)]; exact hsI.2.2.2.1 k hk)) mC_30 rfl hl.1 (Nat.le_of_ble_eq_true rfl) ⟨Nat.le_of_ble_eq_true rfl, Nat.le_of_ble_eq_true rfl⟩ ⟨Nat.zero_le _, Nat.zero_le _⟩ rfl dX5_findsFrom_64 (r_kp (fun H locs hS => ?_))
      refine r_top (y := bI (folC T (pre g9 (u + 1)) (g9 (u + 1) + 1))) (by rw [upN_e, pre_congr (h := g9) (fun k hk => upN_n (by omega))]) ?_
      refine r_ifb_eq (b := (folC T (pre g9 (u + 1)) (g9 (u + 1) + 1))) (tgt := 30) hx hb dX5_findsFrom_67 (by decide) (fun q67 => ?_) (fun q67 => ?_)
      · -- T
        exact ih (u + 1, upN g9 (u + 1) (g9 (u + 1) + 1), rb) (sI_skip hsI hlt (sI_no q67)).2 _ _ _ ⟨(sI_skip hsI hlt (sI_no q67)).1, hg2, hS, lv_sub hl [0, 1, 2, 3, 4] rfl⟩
      · -- F
        refine lv_iload_n hx hb dX5_findsFrom_70 rfl (lv_at hl 0 rfl) ?_
        refine lv_iload_n hx hb dX5_findsFrom_71 rfl (lv_at hl 4 rfl) ?_
        refine lv_iconst (v := nI 1) hx hb dX5_findsFrom_72 (by decide) ?_
        refine lv_isub hx hb dX5_findsFrom_73 ?_
        refine r_top (y := nI (n - 1)) (pk_sub (by omega)) ?_
        refine r_icmp_ge (a := u + 1) (b := n - 1) (tgt := 93) hx hb (by omega) (by omega) dX5_findsFrom_74 (by decide) (fun q74 => ?_) (fun q74 => ?_)
        · -- T
          refine lv_aload_n hx hb dX5_findsFrom_93 rfl (lv_at hl 2 rfl) ?_
          refine lv_aload_n hx hb dX5_findsFrom_94 rfl (lv_at hl 2 rfl) ?_
          refine gf_X5_49 hx hb hown hK hS mC_30 rfl dX5_findsFrom_95 ?_
          refine lv_iload_n hx hb dX5_findsFrom_98 rfl (lv_at hl 0 rfl) ?_
          refine r_iald hx hb hK.1 hS 0 mC_44 rfl (nI_in0 (by omega) (by omega)) (v := nI (g9 (u + 1) + 1)) (by rw [nI_clamp (by omega), hg2 _ (Nat.le_refl _), upN_e]) dX5_findsFrom_99 ?_
          refine lv_iload_n hx hb dX5_findsFrom_100 rfl (lv_at hl 3 rfl) ?_
          have hoc : okC T (g9 (u + 1) + 1) = true := by
            have h7 := q67
            unfold folC at h7
            rw [Bool.and_eq_true] at h7
            exact h7.1
          refine cl_X5_112 hx hb hml hown hK hZ hS hA (c_X5_takes hN (okC_s hoc).1 hlt hfs.1 (by omega)) mC_30 rfl hl.1 (Nat.le_of_ble_eq_true rfl) ⟨Nat.le_of_ble_eq_true rfl, Nat.le_of_ble_eq_true rfl⟩ ⟨Nat.zero_le _, Nat.zero_le _⟩ rfl dX5_findsFrom_101 (r_kp (fun H locs hS => ?_))
          refine r_ifb_eq (b := (takB T (g9 (u + 1) + 1) f)) (tgt := 30) hx hb dX5_findsFrom_104 (by decide) (fun q104 => ?_) (fun q104 => ?_)
          · -- T
            exact ih (u + 1, upN g9 (u + 1) (g9 (u + 1) + 1), rb) (sI_skip hsI hlt (sI_nt hsI q74 q104)).2 _ _ _ ⟨(sI_skip hsI hlt (sI_nt hsI q74 q104)).1, hg2, hS, lv_sub hl [0, 1, 2, 3, 4] rfl⟩
          · -- F
            have hse := sI_end hsI hlt q67 q74 q104
            refine lv_iconst (v := nI 1) hx hb dX5_findsFrom_107 (by decide) ?_
            exact r_zret hx hb hr hlocks hS rfl (⟨_, rfl, by rw [hse]; rfl, rb, ⟨rfl, rfl⟩, fun p hp k hk => by
              rw [hse] at hp
              cases hp
              rw [hg2 k (by omega)]
              by_cases e : k = u + 1
              · rw [e, upN_e]
                have hq := gd_last (p := pre g9 (u + 1)) (c := g9 (u + 1) + 1)
                rw [pre_len] at hq
                rw [hq]
              · rw [upN_n e, gd_app (by rw [pre_len]; omega), pre_gd (by omega)]⟩) (Nat.zero_le _) (Nat.zero_le _) dX5_findsFrom_108
        · -- F
          refine lv_iinc (v := nI (u + 1 + 1)) (lv' := [(3, .int (nI (u + 1 + 1))), (4, .int (nI (16 * (f / 16 + 1)))), (0, .ref (ad 30 0)), (1, .int (nI f)), (2, .int (nI n))]) hx hb dX5_findsFrom_77 hl (k := 0) rfl (nI_inc _) (by decide) rfl (fun ls hl => ?_)
          refine lv_aload_n hx hb dX5_findsFrom_80 rfl (lv_at hl 2 rfl) ?_
          refine gf_X5_49 hx hb hown hK hS mC_30 rfl dX5_findsFrom_81 ?_
          refine lv_iload_n hx hb dX5_findsFrom_84 rfl (lv_at hl 0 rfl) ?_
          refine lv_iload hx hb dX5_findsFrom_85 (lv_at hl 1 rfl) ?_
          refine lv_iconst (v := nI 1) hx hb dX5_findsFrom_87 (by decide) ?_
          refine lv_isub hx hb dX5_findsFrom_88 ?_
          refine r_top (y := nI (16 * (f / 16 + 1) - 1)) (pk_sub (by omega)) ?_
          refine r_iast hx hb hK.1 hS 0 mC_44 rfl (nI_in0 (by omega) (by omega)) (f' := upd rb (u + 1 + 1) (nI (16 * (f / 16 + 1) - 1))) (by rw [nI_clamp (by omega)]) dX5_findsFrom_89 (fun H locs hS => ?_)
          rw [mC_p44] at hS
          obtain ⟨rd, hrd⟩ : ∃ z, z = upd rb (u + 1 + 1) (nI (16 * (f / 16 + 1) - 1)) := ⟨_, rfl⟩
          rw [← hrd] at hS
          have hg3 : ∀ k, k ≤ u + 2 → rd k = nI (upN (upN g9 (u + 1) (g9 (u + 1) + 1)) (u + 2) (16 * (f / 16 + 1) - 1) k) := fun k hk => by
            rw [hrd, gd_upd]
            show _ = nI (if k = u + 2 then 16 * (f / 16 + 1) - 1 else upN g9 (u + 1) (g9 (u + 1) + 1) k)
            by_cases e : k = u + 2
            · rw [if_pos e, if_pos e]
            · rw [if_neg e, if_neg e]
              exact hg2 k (by omega)
          have hpu := sI_push hsI hlt q67 q74 hf2
          refine lv_goto (tgt := 30) hx hb dX5_findsFrom_90 (by decide) ?_
          exact ih (u + 2, upN (upN g9 (u + 1) (g9 (u + 1) + 1)) (u + 2) (16 * (f / 16 + 1) - 1), rd) hpu.2 _ _ _ ⟨hpu.1, hg3, hS, lv_sub hl [0, 1, 2, 3, 4] rfl⟩
    · -- F
      refine lv_iinc (v := nI u) (lv' := [(3, .int (nI u)), (4, .int (nI (16 * (f / 16 + 1)))), (0, .ref (ad 30 0)), (1, .int (nI f)), (2, .int (nI n))]) hx hb dX5_findsFrom_56 hl (k := 0) rfl ((nI_dec _).trans (pk_sub (a := u + 1) (b := 1) (by omega))) (by decide) rfl (fun ls hl => ?_)
      refine lv_goto (tgt := 30) hx hb dX5_findsFrom_59 (by decide) ?_
      exact ih (u, upN g9 (u + 1) (g9 (u + 1) + 1), rb) (sI_pop hsI q53).2 _ _ _ ⟨(sI_pop hsI q53).1, (fun k hk => hg2 k (by omega)), hS, lv_sub hl [0, 1, 2, 3, 4] rfl⟩

def fdP (G : rG) (T : rTab) (th : Int32) (C : rC) (ad : rA) : Value → rC → rA → Prop := fun r C' ad' => ∃ (p : List Nat) (rg' : Nat → Int32), r = .int (nI p.length) ∧ ringL T = vw T p ∧ (∀ x, x ∈ p → okC T x = true ∧ x < 128) ∧ (p.length = 0 ∨ (2 ≤ p.length ∧ p.length ≤ 4)) ∧ (∀ k, k < p.length → rg' k = nI (p.getD k 0)) ∧ mC G T th rg' C ad = C' ∧ ad = ad'

set_option maxHeartbeats 4000000 in
set_option maxRecDepth 100000 in
theorem c_X5_finds {G : rG} {l : Launch} {T : rTab} {th : Int32} {rg : Nat → Int32} {C : rC} {ad : rA} (hN : mNu T)  : rMet G l yX5_finds cX5_finds 3 (some .int) (rmP 8) [.ref (ad 30 0)] (mC G T th rg C ad) ad (rRet (fdP G T th C ad)) := by
  refine rMet.of (by decide) ?_
  intro p e s m below meth c hx hb hml hr hlocks hown hname hK hZ hS
  have hown : s.vm.findClass RX5 = some m.cls := hown
  have hA : ∀ q : Nat, s.heap.size ≤ q → (rF (mC G T th rg C ad) ad s.heap.size) q := rF.new
  refine r_entry _ (Nat.le_of_ble_eq_true rfl) (fun ls hl => ?_)
  have hl : lv_has ls 3 [(0, .ref (ad 30 0))] := hl
  have hnD := hN.hD
  have hnC := hN.hC
  have hnS := hN.hS
  refine lv_iconst (v := nI 2) hx hb dX5_finds_0 (by decide) ?_
  refine lv_istore_n (lv' := [(1, .int (nI 2)), (0, .ref (ad 30 0))]) hx hb dX5_finds_1 rfl hl (by decide) rfl (fun ls hl => ?_)
  refine r_loop (σ := Nat × (Nat → Int32)) (fun ⟨n, rx⟩ => 5 - n) (fun ⟨n, rx⟩ H locs ls => (2 ≤ n) ∧ (n ≤ 5) ∧ (∀ m, 2 ≤ m → m < n → sF T (m - 1) = none) ∧ rS G.1 (rF (mC G T th rg C ad) ad s.heap.size) s.heap (mC G T th rx C ad) ad H locs ∧ lv_has ls 3 [(1, .int (nI n)), (0, .ref (ad 30 0))]) (fun _ => 0) (fun _ => 0) (fun z ih H locs ls hI => ?_) (2, rg) (Nat.zero_le _) (Nat.zero_le _) ⟨Nat.le_refl 2, (show 2 ≤ 5 by decide), (fun m a b => absurd b (Nat.not_lt.mpr a)), hS, lv_sub hl [0, 1] rfl⟩
  obtain ⟨n, rx⟩ := z
  obtain ⟨hn2, hn5, hz9, hS, hl⟩ := hI
  try dsimp only at hn2 hn5 hz9 hS hl ih ⊢
  refine lv_iload_n hx hb dX5_finds_2 rfl (lv_at hl 0 rfl) ?_
  refine lv_iconst (v := nI 5) hx hb dX5_finds_3 (by decide) ?_
  refine r_icmp_ge (a := n) (b := 5) (tgt := 65) hx hb (by omega) (by omega) dX5_finds_4 (by decide) (fun q4 => ?_) (fun q4 => ?_)
  · -- T
    obtain rfl : n = 5 := by omega
    have hrn := ring_none hnD (fun m a b => hz9 m a b)
    refine lv_iconst (v := nI 0) hx hb dX5_finds_65 (by decide) ?_
    exact r_iret hx hb hr hlocks hS (⟨_, rfl, [], rx, rfl, hrn, fun x hx => (nomatch hx), Or.inl rfl, fun k hk => absurd hk (Nat.not_lt_zero _), rfl, rfl⟩) (Nat.zero_le _) (Nat.zero_le _) dX5_finds_66
  · -- F
    have hn4 : n ≤ 4 := by omega
    refine lv_iconst (v := nI 0) hx hb dX5_finds_7 (by decide) ?_
    refine lv_istore_n (lv' := [(2, .int (nI 0)), (1, .int (nI n)), (0, .ref (ad 30 0))]) hx hb dX5_finds_8 rfl hl (by decide) rfl (fun ls hl => ?_)
    refine r_loop (σ := Nat × (Nat → Int32)) (fun ⟨y, rz⟩ => 112 - y) (fun ⟨y, rz⟩ H locs ls => (y ≤ 112) ∧ (∀ x, x < y → (if okC T x = true then srch T (n - 1) [x] else none) = none) ∧ rS G.1 (rF (mC G T th rg C ad) ad s.heap.size) s.heap (mC G T th rz C ad) ad H locs ∧ lv_has ls 3 [(2, .int (nI y)), (1, .int (nI n)), (0, .ref (ad 30 0))]) (fun _ => 0) (fun _ => 0) (fun z ih2 H locs ls hI => ?_) (0, rx) (Nat.zero_le _) (Nat.zero_le _) ⟨Nat.zero_le _, (fun x hx => absurd hx (Nat.not_lt_zero _)), hS, lv_sub hl [0, 1, 2] rfl⟩
    obtain ⟨y, rz⟩ := z
    obtain ⟨hyl, hx9, hS, hl⟩ := hI
    try dsimp only at hyl hx9 hS hl ih2 ⊢
    refine lv_iload_n hx hb dX5_finds_9 rfl (lv_at hl 0 rfl) ?_
    refine lv_bipush (v := nI 112) hx hb dX5_finds_10 (by decide) ?_
    refine r_icmp_ge (a := y) (b := 112) (tgt := 59) hx hb (by omega) (by omega) dX5_finds_12 (by decide) (fun q12 => ?_) (fun q12 => ?_)
    · -- T
      have hsf : sF T (n - 1) = none := List.findSome?_eq_none_iff.mpr (fun x hx => hx9 x (by have := List.mem_range.mp hx; omega))
      refine lv_iinc (v := nI (n + 1)) (lv' := [(1, .int (nI (n + 1))), (2, .int (nI y)), (0, .ref (ad 30 0))]) hx hb dX5_finds_59 hl (k := 1) rfl (nI_inc _) (by decide) rfl (fun ls hl => ?_)
      refine lv_goto (tgt := 2) hx hb dX5_finds_62 (by decide) ?_
      exact ih (n + 1, rz) (show 5 - (n + 1) < 5 - n by omega) _ _ _ ⟨(show 2 ≤ n + 1 by omega), (show n + 1 ≤ 5 by omega), (fun m a b => by
        by_cases e : m = n
        · rw [e]
          exact hsf
        · exact hz9 m a (by omega)), hS, lv_sub hl [0, 2] rfl⟩
    · -- F
      have hy112 : y < 112 := by omega
      refine lv_iload_n hx hb dX5_finds_15 rfl (lv_at hl 0 rfl) ?_
      refine lv_bipush (v := nI 16) hx hb dX5_finds_16 (by decide) ?_
      refine lv_irem hx hb dX5_finds_18 (by decide) ?_
      refine r_top (y := nI (y % 16)) (pk_rem (by omega) (by decide) (by decide)) ?_
      refine lv_aload_n hx hb dX5_finds_19 rfl (lv_at hl 2 rfl) ?_
      refine gf_X5_56 hx hb hown hK hS mC_30 (v := .int (nI (nD T))) rfl dX5_finds_20 ?_
      refine r_icmp_ge (a := y % 16) (b := nD T) (tgt := 53) hx hb (by omega) (by omega) dX5_finds_23 (by decide) (fun q23 => ?_) (fun q23 => ?_)
      · -- T
        have hny : (if okC T y = true then srch T (n - 1) [y] else none) = none := if_neg (by rw [okC_a (by omega)]; exact Bool.false_ne_true)
        refine lv_iinc (v := nI (y + 1)) (lv' := [(2, .int (nI (y + 1))), (1, .int (nI n)), (0, .ref (ad 30 0))]) hx hb dX5_finds_53 hl (k := 0) rfl (nI_inc _) (by decide) rfl (fun ls hl => ?_)
        refine lv_goto (tgt := 9) hx hb dX5_finds_56 (by decide) ?_
        exact ih2 (y + 1, rz) (show 112 - (y + 1) < 112 - y by omega) _ _ _ ⟨(show y + 1 ≤ 112 by omega), (lt_ext hx9 hny), hS, lv_sub hl [0, 1, 2] rfl⟩
      · -- F
        have hd9 : y % 16 < nD T := by omega
        refine lv_aload_n hx hb dX5_finds_26 rfl (lv_at hl 2 rfl) ?_
        refine lv_iload_n hx hb dX5_finds_27 rfl (lv_at hl 0 rfl) ?_
        refine lv_bipush (v := nI 16) hx hb dX5_finds_28 (by decide) ?_
        refine lv_idiv hx hb dX5_finds_30 (by decide) ?_
        refine r_top (y := nI (y / 16)) (pk_div (by omega) (by decide) (by decide)) ?_
        refine lv_iload_n hx hb dX5_finds_31 rfl (lv_at hl 0 rfl) ?_
        refine lv_bipush (v := nI 16) hx hb dX5_finds_32 (by decide) ?_
        refine lv_irem hx hb dX5_finds_34 (by decide) ?_
        refine r_top (y := nI (y % 16)) (pk_rem (by omega) (by decide) (by decide)) ?_
        refine cl_X5_109 hx hb hml hown hK hZ hS hA (c_X5_offer hN (by omega) hd9) mC_30 rfl hl.1 (Nat.le_of_ble_eq_true rfl) ⟨Nat.le_of_ble_eq_true rfl, Nat.le_of_ble_eq_true rfl⟩ ⟨Nat.zero_le _, Nat.zero_le _⟩ rfl dX5_finds_35 (r_kp (fun H locs hS => ?_))
        refine lv_iconst (v := (-1)) hx hb dX5_finds_38 (by decide) ?_
        refine r_oeq (tgt := 53) hx hb (of_bd hnC) dX5_finds_39 (by decide) (fun q39 => ?_) (fun x39 q39 => ?_)
        · -- T
          have hny : (if okC T y = true then srch T (n - 1) [y] else none) = none := if_neg (by rw [okC_b q39]; exact Bool.false_ne_true)
          refine lv_iinc (v := nI (y + 1)) (lv' := [(2, .int (nI (y + 1))), (1, .int (nI n)), (0, .ref (ad 30 0))]) hx hb dX5_finds_53 hl (k := 0) rfl (nI_inc _) (by decide) rfl (fun ls hl => ?_)
          refine lv_goto (tgt := 9) hx hb dX5_finds_56 (by decide) ?_
          exact ih2 (y + 1, rz) (show 112 - (y + 1) < 112 - y by omega) _ _ _ ⟨(show y + 1 ≤ 112 by omega), (lt_ext hx9 hny), hS, lv_sub hl [0, 1, 2] rfl⟩
        · -- F
          have hoky := (okC_i hd9 q39).1
          refine lv_aload_n hx hb dX5_finds_42 rfl (lv_at hl 2 rfl) ?_
          refine lv_iload_n hx hb dX5_finds_43 rfl (lv_at hl 0 rfl) ?_
          refine lv_iload_n hx hb dX5_finds_44 rfl (lv_at hl 1 rfl) ?_
          refine cl_X5_119 hx hb hml hown hK hZ hS hA (c_X5_findsFrom hN hoky (by omega) hn2 (by omega)) mC_30 rfl hl.1 (Nat.le_of_ble_eq_true rfl) ⟨Nat.le_of_ble_eq_true rfl, Nat.le_of_ble_eq_true rfl⟩ ⟨Nat.zero_le _, Nat.zero_le _⟩ rfl dX5_finds_45 (r_kr (fun r C' ad' H locs hQ hS => ?_))
          obtain ⟨rfl, rb, ⟨rfl, rfl⟩, hpb⟩ := hQ
          refine r_ifb_eq (b := ((srch T (n - 1) [y]).isSome)) (tgt := 53) hx hb dX5_finds_48 (by decide) (fun q48 => ?_) (fun q48 => ?_)
          · -- T
            have hny : (if okC T y = true then srch T (n - 1) [y] else none) = none := (if_pos hoky).trans (by cases ho : srch T (n - 1) [y] with | none => rfl | some v => rw [ho] at q48; cases q48)
            refine lv_iinc (v := nI (y + 1)) (lv' := [(2, .int (nI (y + 1))), (1, .int (nI n)), (0, .ref (ad 30 0))]) hx hb dX5_finds_53 hl (k := 0) rfl (nI_inc _) (by decide) rfl (fun ls hl => ?_)
            refine lv_goto (tgt := 9) hx hb dX5_finds_56 (by decide) ?_
            exact ih2 (y + 1, rb) (show 112 - (y + 1) < 112 - y by omega) _ _ _ ⟨(show y + 1 ≤ 112 by omega), (lt_ext hx9 hny), hS, lv_sub hl [0, 1, 2] rfl⟩
          · -- F
            obtain ⟨p9, hp9⟩ := Option.isSome_iff_exists.mp q48
            have hsf : sF T (n - 1) = some p9 := fs_hit hy112 ((if_pos hoky).trans hp9) hx9
            have hpo := sF_ok hsf
            have hrl := ring_some hnD hn2 hn4 hz9 hsf
            have hpl : p9.length = n := by omega
            refine lv_iload_n hx hb dX5_finds_51 rfl (lv_at hl 1 rfl) ?_
            exact r_iret hx hb hr hlocks hS (⟨_, rfl, p9, rb, by rw [hpl], hrl, hpo.1, Or.inr (by omega), fun k hk => hpb p9 hp9 k (by omega), rfl, rfl⟩) (Nat.zero_le _) (Nat.zero_le _) dX5_finds_52

set_option maxHeartbeats 4000000 in
set_option maxRecDepth 100000 in
theorem c_X5_told {G : rG} {l : Launch} {T : rTab} {th : Int32} {rg : Nat → Int32} {C : rC} {ad : rA} (hN : mNu T) {k y : Nat} (hk : k < 4) (hc : rg k = nI y) (hok : okC T y = true) (hc9 : y < 128) : rMet G l yX5_told cX5_told 3 (some .int) (rmP 4) [.ref (ad 30 0), .int (nI k)] (mC G T th rg C ad) ad (rPure (mC G T th rg C ad) ad (.int (nI (1000 * (y / 16) + coC T y)))) := by
  refine rMet.of (by decide) ?_
  intro p e s m below meth c hx hb hml hr hlocks hown hname hK hZ hS
  have hown : s.vm.findClass RX5 = some m.cls := hown
  have hA : ∀ q : Nat, s.heap.size ≤ q → (rF (mC G T th rg C ad) ad s.heap.size) q := rF.new
  refine r_entry _ (Nat.le_of_ble_eq_true rfl) (fun ls hl => ?_)
  have hl : lv_has ls 3 [(0, .ref (ad 30 0)), (1, .int (nI k))] := hl
  have hnD := hN.hD
  have hnC := hN.hC
  have hnS := hN.hS
  have hs := okC_s hok
  refine lv_aload_n hx hb dX5_told_0 rfl (lv_at hl 0 rfl) ?_
  refine gf_X5_49 hx hb hown hK hS mC_30 rfl dX5_told_1 ?_
  refine lv_iload_n hx hb dX5_told_4 rfl (lv_at hl 1 rfl) ?_
  refine r_iald hx hb hK.1 hS 0 mC_44 rfl (nI_in0 (by omega) (by omega)) (v := nI y) (by rw [nI_clamp (by omega)]; exact hc) dX5_told_5 ?_
  refine lv_istore_n (lv' := [(2, .int (nI y)), (0, .ref (ad 30 0)), (1, .int (nI k))]) hx hb dX5_told_6 rfl hl (by decide) rfl (fun ls hl => ?_)
  refine lv_sipush (v := nI 1000) hx hb dX5_told_7 (by decide) ?_
  refine lv_iload_n hx hb dX5_told_10 rfl (lv_at hl 0 rfl) ?_
  refine lv_bipush (v := nI 16) hx hb dX5_told_11 (by decide) ?_
  refine lv_idiv hx hb dX5_told_13 (by decide) ?_
  refine r_top (y := nI (y / 16)) (pk_div (by omega) (by decide) (by decide)) ?_
  refine lv_imul hx hb dX5_told_14 ?_
  refine r_top (pk_mul _ _) ?_
  refine lv_aload_n hx hb dX5_told_15 rfl (lv_at hl 1 rfl) ?_
  refine lv_iload_n hx hb dX5_told_16 rfl (lv_at hl 0 rfl) ?_
  refine lv_bipush (v := nI 16) hx hb dX5_told_17 (by decide) ?_
  refine lv_idiv hx hb dX5_told_19 (by decide) ?_
  refine r_top (y := nI (y / 16)) (pk_div (by omega) (by decide) (by decide)) ?_
  refine lv_iload_n hx hb dX5_told_20 rfl (lv_at hl 0 rfl) ?_
  refine lv_bipush (v := nI 16) hx hb dX5_told_21 (by decide) ?_
  refine lv_irem hx hb dX5_told_23 (by decide) ?_
  refine r_top (y := nI (y % 16)) (pk_rem (by omega) (by decide) (by decide)) ?_
  refine cl_X5_109 hx hb hml hown hK hZ hS hA (c_X5_offer hN (by omega) hs.1) mC_30 rfl hl.1 (Nat.le_of_ble_eq_true rfl) ⟨Nat.le_of_ble_eq_true rfl, Nat.le_of_ble_eq_true rfl⟩ ⟨Nat.zero_le _, Nat.zero_le _⟩ rfl dX5_told_24 (r_kp (fun H locs hS => ?_))
  refine r_top (y := nI (coC T y)) (by rw [hs.2.1]; rfl) ?_
  refine lv_iadd hx hb dX5_told_27 ?_
  refine r_top (nI_add _ _) ?_
  exact r_iret hx hb hr hlocks hS (⟨rfl, rfl, rfl⟩) (Nat.zero_le _) (Nat.zero_le _) dX5_told_28

