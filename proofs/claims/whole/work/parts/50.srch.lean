/-! THE SEARCH OF A RING OVER CODES: a code is 16 times the collector, and the die, added -/
def okC (T : rTab) (c : Nat) : Bool := decide (c % 16 < nD T) && (offer T (c / 16) (c % 16)).isSome
def takB (T : rTab) (its g : Nat) : Bool := (T 10 (g / 16)).testBit (its % 16) && decide (T 11 (g / 16) * priceBy T (g % 16) ≤ 100 * priceBy T (its % 16))
def lastC (p : List Nat) : Nat := p.getD (p.length - 1) 0
def headC (p : List Nat) : Nat := p.getD 0 0
def lowC (p : List Nat) : Nat := 16 * (headC p / 16 + 1)
def folC (T : rTab) (p : List Nat) (c : Nat) : Bool := okC T c && (takB T (lastC p) c && (p.drop 1).all (fun x => decide (¬ x / 16 = c / 16)))
def srch (T : rTab) : Nat → List Nat → Option (List Nat)
  | 0, p => if takB T (lastC p) (headC p) = true then some p else none
  | r + 1, p => (List.range 128).findSome? fun c => if lowC p ≤ c ∧ folC T p c = true then srch T r (p ++ [c]) else none
def coC (T : rTab) (c : Nat) : Nat := (offer T (c / 16) (c % 16)).getD 0
def vw (T : rTab) (p : List Nat) : List Nat × List Nat := (p.map (fun c => c / 16), p.map (coC T))
def sF (T : rTab) (r : Nat) : Option (List Nat) := (List.range 112).findSome? fun c => if okC T c = true then srch T r [c] else none
section FS
variable {α β γ : Type}
theorem fs_congr {f g : α → Option β} {l : List α} (h : ∀ x, x ∈ l → f x = g x) : l.findSome? f = l.findSome? g := by
  induction l with
  | nil => rfl
  | cons a l ih =>
    rw [List.findSome?_cons, List.findSome?_cons, h a List.mem_cons_self, ih (fun x hx => h x (List.mem_cons_of_mem _ hx))]
theorem fs_app {f : α → Option β} {a b : List α} : (a ++ b).findSome? f = (a.findSome? f).or (b.findSome? f) := by
  induction a with
  | nil => rfl
  | cons x a ih =>
    rw [List.cons_append, List.findSome?_cons, List.findSome?_cons, ih]
    cases f x with
    | none => rfl
    | some y => rfl
theorem fs_map {f : α → Option β} {g : β → γ} {l : List α} : (l.findSome? f).map g = l.findSome? (fun x => (f x).map g) := by
  induction l with
  | nil => rfl
  | cons x l ih =>
    rw [List.findSome?_cons, List.findSome?_cons]
    cases f x with
    | none => exact ih
    | some y => rfl
theorem fs_fm {f : α → Option β} {g : β → Option γ} {l : List α} : (l.filterMap f).findSome? g = l.findSome? (fun x => (f x).bind g) := by
  induction l with
  | nil => rfl
  | cons x l ih =>
    rw [List.findSome?_cons]
    cases h : f x with
    | none =>
      rw [List.filterMap_cons_none h]
      exact ih
    | some y =>
      rw [List.filterMap_cons_some h, List.findSome?_cons, ih]
      rfl
theorem fs_one {f : α → Option β} {a : α} : [a].findSome? f = f a := by
  rw [List.findSome?_cons]
  cases f a <;> rfl
theorem fs_ext {f : Nat → Option β} {n m : Nat} (h : n ≤ m) : (List.range n).findSome? f = (List.range m).findSome? (fun d => if d < n then f d else none) := by
  induction m with
  | zero =>
    obtain rfl : n = 0 := by omega
    rfl
  | succ m ih =>
    by_cases e : n = m + 1
    · subst e
      exact fs_congr fun x hx => (if_pos (List.mem_range.mp hx)).symm
    · rw [List.range_succ, fs_app, fs_one, ih (by omega), if_neg (by omega), Option.or_none]
theorem fs_nest {h : Nat → Nat → Option β} : ∀ m, (List.range (16 * m)).findSome? (fun c => h (c / 16) (c % 16)) = (List.range m).findSome? (fun k => (List.range 16).findSome? (h k)) := by
  intro m
  induction m with
  | zero => rfl
  | succ m ih =>
    rw [Nat.mul_succ, List.range_add, show List.range (m + 1) = List.range m ++ [m] from List.range_succ, fs_app, fs_app, fs_one, ih, List.findSome?_map]
    congr 1
    refine fs_congr fun d hd => ?_
    have hd := List.mem_range.mp hd
    show h ((16 * m + d) / 16) ((16 * m + d) % 16) = h m d
    rw [show (16 * m + d) / 16 = m by omega, show (16 * m + d) % 16 = d by omega]
/-- the search from a number on -/
theorem fs_from {f : Nat → Option β} {a : Nat} : ∀ m, a < m → (List.range m).findSome? (fun c => if a ≤ c then f c else none) = (f a).or ((List.range m).findSome? (fun c => if a + 1 ≤ c then f c else none)) := by
  intro m
  induction m with
  | zero => intro h; omega
  | succ m ih =>
    intro h
    rw [List.range_succ, fs_app, fs_app, fs_one, fs_one]
    by_cases e : a = m
    · subst e
      have h1 : (List.range a).findSome? (fun c => if a ≤ c then f c else none) = none := List.findSome?_eq_none_iff.mpr fun x hx => if_neg (by have := List.mem_range.mp hx; omega)
      have h2 : (List.range a).findSome? (fun c => if a + 1 ≤ c then f c else none) = none := List.findSome?_eq_none_iff.mpr fun x hx => if_neg (by have := List.mem_range.mp hx; omega)
      rw [h1, h2, if_pos (Nat.le_refl _), if_neg (by omega)]
      cases f a <;> rfl
    · rw [ih (by omega), if_pos (by omega), if_pos (by omega), Option.or_assoc]
theorem fs_end {f : Nat → Option β} {a m : Nat} (h : m ≤ a) : (List.range m).findSome? (fun c => if a ≤ c then f c else none) = none := List.findSome?_eq_none_iff.mpr fun x hx => if_neg (by have := List.mem_range.mp hx; omega)
end FS
section SR
variable {T : rTab}
theorem okC_s {c : Nat} (h : okC T c = true) : c % 16 < nD T ∧ offer T (c / 16) (c % 16) = some (coC T c) ∧ coC T c < nC T ∧ T 5 (coC T c) = c % 16 ∧ priceN T (coC T c) = priceBy T (c % 16) := by
  unfold okC at h
  rw [Bool.and_eq_true] at h
  obtain ⟨j, hj⟩ := Option.isSome_iff_exists.mp h.2
  have hc : coC T c = j := by
    unfold coC
    rw [hj]
    rfl
  have hs := offer_s hj
  rw [hc]
  refine ⟨of_decide_eq_true h.1, hj, hs.1, hs.2.1, ?_⟩
  unfold priceN
  rw [if_pos hs.2.2.2, hs.2.1]
theorem okC_i {c j : Nat} (h1 : c % 16 < nD T) (h2 : offer T (c / 16) (c % 16) = some j) : okC T c = true ∧ coC T c = j := by
  unfold okC coC
  rw [h2, decide_eq_true h1]
  exact ⟨rfl, rfl⟩
theorem okC_a {c : Nat} (h1 : ¬ c % 16 < nD T) : okC T c = false := by
  unfold okC
  rw [decide_eq_false h1, Bool.false_and]
theorem okC_b {c : Nat} (h2 : offer T (c / 16) (c % 16) = none) : okC T c = false := by
  unfold okC
  rw [h2]
  exact Bool.and_false _
theorem gd_some {p : List Nat} {i : Nat} (h : i < p.length) : p[i]? = some (p.getD i 0) := by
  rw [List.getD_eq_getElem?_getD, List.getElem?_eq_getElem h]
  rfl
theorem gd_map {p : List Nat} {f : Nat → Nat} {i : Nat} (h : i < p.length) : (p.map f)[i]? = some (f (p.getD i 0)) := by
  rw [List.getElem?_map, gd_some h]
  rfl
theorem gd_app {p : List Nat} {c i : Nat} (h : i < p.length) : (p ++ [c]).getD i 0 = p.getD i 0 := by
  rw [List.getD_eq_getElem?_getD, List.getD_eq_getElem?_getD, List.getElem?_append_left h]
theorem gd_last {p : List Nat} {c : Nat} : (p ++ [c]).getD p.length 0 = c := by
  rw [List.getD_eq_getElem?_getD, List.getElem?_append_right (Nat.le_refl _), Nat.sub_self]
  rfl
theorem gd_mem {p : List Nat} {i : Nat} (h : i < p.length) : p.getD i 0 ∈ p := List.mem_of_getElem? (gd_some h)
theorem headC_app {p : List Nat} {c : Nat} (h : 1 ≤ p.length) : headC (p ++ [c]) = headC p := gd_app (by omega)
theorem lastC_app {p : List Nat} {c : Nat} : lastC (p ++ [c]) = c := by
  unfold lastC
  rw [List.length_append, List.length_singleton, Nat.add_sub_cancel]
  exact gd_last
theorem vw_app {p : List Nat} {c : Nat} : vw T (p ++ [c]) = ((vw T p).1 ++ [c / 16], (vw T p).2 ++ [coC T c]) := by
  unfold vw
  rw [List.map_append, List.map_append]
  rfl
/-- a step of the class's search and one over codes -/
theorem fol_iff {p : List Nat} (hp : ∀ x, x ∈ p → okC T x = true ∧ x < 128) (h1 : 1 ≤ p.length) {c j : Nat} (hd : c % 16 < nD T) (hj : offer T (c / 16) (c % 16) = some j) : (mayJ T (vw T p).1 (vw T p).2 (c / 16) = true ∧ pleaB T (vw T p).1 (vw T p).2 (c / 16) j = true) ↔ (lowC p ≤ c ∧ folC T p c = true) := by
  have hok := okC_i hd hj
  have hlen : (vw T p).1.length = p.length := List.length_map _
  have hx0 : (vw T p).1[0]? = some (headC p / 16) := gd_map (f := fun c => c / 16) (by omega)
  have hyl : (vw T p).2[(vw T p).1.length - 1]? = some (coC T (lastC p)) := by
    rw [hlen]
    exact gd_map (f := coC T) (by omega)
  have hl := okC_s (hp (lastC p) (gd_mem (p := p) (i := p.length - 1) (by omega))).1
  have hc := okC_s hok.1
  have hmem : c / 16 ∈ (vw T p).1 ↔ ∃ x, x ∈ p ∧ x / 16 = c / 16 := List.mem_map
  have hhd : headC p ∈ p := gd_mem (by omega)
  have htl : (p.drop 1).all (fun x => decide (¬ x / 16 = c / 16)) = true ↔ ∀ x, x ∈ p.drop 1 → ¬ x / 16 = c / 16 := by
    rw [List.all_eq_true]
    exact ⟨fun h x hx => of_decide_eq_true (h x hx), fun h x hx => decide_eq_true (h x hx)⟩
  have hpc : p = headC p :: p.drop 1 := by
    cases p with
    | nil => exact absurd h1 (by decide)
    | cons a l => rfl
  have hplea : pleaB T (vw T p).1 (vw T p).2 (c / 16) j = decide (T 11 (c / 16) * priceBy T (c % 16) ≤ 100 * priceBy T (lastC p % 16)) := by
    rw [pleaB_g (by omega) hyl]
    unfold fairB
    rw [← hok.2, hc.2.2.2.2, hl.2.2.2.2, Nat.mul_comm (priceBy T _) 100]
  by_cases hk : c / 16 ≤ headC p / 16 ∨ c / 16 ∈ (vw T p).1
  · rw [mayJ_a hx0 hk]
    refine ⟨fun z => (nomatch z.1), fun z => ?_⟩
    exfalso
    unfold lowC at z
    unfold folC at z
    rw [Bool.and_eq_true, Bool.and_eq_true, htl] at z
    rcases hk with g | g
    · omega
    · obtain ⟨x, hx, hxc⟩ := hmem.mp g
      rw [hpc] at hx
      rcases List.mem_cons.mp hx with e | e
      · rw [e] at hxc
        omega
      · exact z.2.2.2 x e hxc
  · rw [mayJ_b hx0 hk hyl, hplea]
    have hlow : lowC p ≤ c := by
      unfold lowC
      omega
    have hnm : ∀ x, x ∈ p.drop 1 → ¬ x / 16 = c / 16 := fun x hx e => hk (Or.inr (hmem.mpr ⟨x, List.mem_of_mem_drop hx, e⟩))
    unfold folC takB wantB
    rw [hok.1, hl.2.2.2.1, Bool.and_eq_true, Bool.and_eq_true, Bool.and_eq_true, htl]
    exact ⟨fun z => ⟨hlow, rfl, z, hnm⟩, fun z => z.2.2.1⟩
theorem len_srch (hD : nD T ≤ 16) : ∀ (r : Nat) (p : List Nat), (∀ x, x ∈ p → okC T x = true ∧ x < 128) → 1 ≤ p.length → 2 ≤ p.length + r → lenF T r (vw T p).1 (vw T p).2 = (srch T r p).map (vw T) := by
  intro r
  induction r with
  | zero =>
    intro p hp h1 h2
    have hlen : (vw T p).1.length = p.length := List.length_map _
    have hl := okC_s (hp (lastC p) (gd_mem (p := p) (i := p.length - 1) (by omega))).1
    have hh := okC_s (hp (headC p) (gd_mem (p := p) (i := 0) (by omega))).1
    have hcl : closB T (vw T p).1 (vw T p).2 = takB T (lastC p) (headC p) := by
      have hx0 : (vw T p).1[0]? = some (headC p / 16) := gd_map (f := fun c => c / 16) (by omega)
      have hyl : (vw T p).2[(vw T p).1.length - 1]? = some (coC T (lastC p)) := by
        rw [hlen]
        exact gd_map (f := coC T) (by omega)
      have hy0 : (vw T p).2[0]? = some (coC T (headC p)) := gd_map (f := coC T) (by omega)
      rw [closB_g (by omega) hx0 hyl hy0]
      unfold takB wantB fairB
      rw [hl.2.2.2.1, hl.2.2.2.2, hh.2.2.2.2, Nat.mul_comm (priceBy T _) 100]
    unfold lenF srch
    rw [hcl]
    split
    · rfl
    · rfl
  | succ r ih =>
    intro p hp h1 h2
    have hin : ∀ k, (if mayJ T (vw T p).1 (vw T p).2 k = true then (offL T k (nD T)).findSome? (fun j => if pleaB T (vw T p).1 (vw T p).2 k j = true then lenF T r ((vw T p).1 ++ [k]) ((vw T p).2 ++ [j]) else none) else none) = (List.range 16).findSome? (fun d => if mayJ T (vw T p).1 (vw T p).2 k = true ∧ d < nD T then (offer T k d).bind (fun j => if pleaB T (vw T p).1 (vw T p).2 k j = true then lenF T r ((vw T p).1 ++ [k]) ((vw T p).2 ++ [j]) else none) else none) := by
      intro k
      by_cases hm : mayJ T (vw T p).1 (vw T p).2 k = true
      · rw [if_pos hm]
        unfold offL
        rw [fs_fm, fs_ext hD]
        refine fs_congr fun d hd => ?_
        by_cases hd2 : d < nD T
        · rw [if_pos hd2, if_pos ⟨hm, hd2⟩]
        · rw [if_neg hd2, if_neg (fun z => hd2 z.2)]
      · rw [if_neg hm]
        exact (List.findSome?_eq_none_iff.mpr fun x _ => if_neg (fun z => hm z.1)).symm
    have e1 : lenF T (r + 1) (vw T p).1 (vw T p).2 = (List.range 128).findSome? (fun c => if mayJ T (vw T p).1 (vw T p).2 (c / 16) = true ∧ c % 16 < nD T then (offer T (c / 16) (c % 16)).bind (fun j => if pleaB T (vw T p).1 (vw T p).2 (c / 16) j = true then lenF T r ((vw T p).1 ++ [c / 16]) ((vw T p).2 ++ [j]) else none) else none) := by
      have e2 := fs_nest (h := fun k d => if mayJ T (vw T p).1 (vw T p).2 k = true ∧ d < nD T then (offer T k d).bind (fun j => if pleaB T (vw T p).1 (vw T p).2 k j = true then lenF T r ((vw T p).1 ++ [k]) ((vw T p).2 ++ [j]) else none) else none) 8
      refine Eq.trans ?_ e2.symm
      show (List.range 8).findSome? _ = _
      exact fs_congr fun k _ => hin k
    rw [e1]
    show _ = ((List.range 128).findSome? (fun c => if lowC p ≤ c ∧ folC T p c = true then srch T r (p ++ [c]) else none)).map (vw T)
    rw [fs_map]
    refine fs_congr fun c hc => ?_
    have hc := List.mem_range.mp hc
    by_cases hd : c % 16 < nD T
    · cases hj : offer T (c / 16) (c % 16) with
      | none =>
        rw [if_neg (show ¬ (lowC p ≤ c ∧ folC T p c = true) from fun z => by
          have := z.2
          unfold folC at this
          rw [okC_b hj] at this
          cases this)]
        split <;> rfl
      | some j =>
        have hi := fol_iff hp h1 hd hj
        by_cases g : lowC p ≤ c ∧ folC T p c = true
        · have gm := hi.mpr g
          have hok := okC_i hd hj
          rw [if_pos g, if_pos ⟨gm.1, hd⟩]
          show (if pleaB T (vw T p).1 (vw T p).2 (c / 16) j = true then lenF T r ((vw T p).1 ++ [c / 16]) ((vw T p).2 ++ [j]) else none) = _
          rw [if_pos gm.2]
          have := ih (p ++ [c]) (fun x hx => (List.mem_append.mp hx).elim (hp x) (fun z => by rw [List.mem_singleton.mp z]; exact ⟨hok.1, hc⟩)) (by rw [List.length_append]; omega) (by rw [List.length_append, List.length_singleton]; omega)
          rw [vw_app, hok.2] at this
          exact this
        · rw [if_neg g]
          by_cases gm : mayJ T (vw T p).1 (vw T p).2 (c / 16) = true
          · rw [if_pos ⟨gm, hd⟩]
            show (if pleaB T (vw T p).1 (vw T p).2 (c / 16) j = true then lenF T r ((vw T p).1 ++ [c / 16]) ((vw T p).2 ++ [j]) else none) = _
            rw [if_neg (fun z => g (hi.mp ⟨gm, z⟩))]
            rfl
          · rw [if_neg (fun z => gm z.1)]
            rfl
    · rw [if_neg (fun z => hd z.2), if_neg (show ¬ (lowC p ≤ c ∧ folC T p c = true) from fun z => by
        have := z.2
        unfold folC at this
        rw [okC_a hd] at this
        cases this)]
      rfl
/-- one who is the last can't begin a ring -/
theorem srch_hi {r c : Nat} (h : 112 ≤ c) : srch T (r + 1) [c] = none := by
  show (List.range 128).findSome? _ = none
  refine List.findSome?_eq_none_iff.mpr fun x hx => if_neg fun z => ?_
  have hx := List.mem_range.mp hx
  have h1 : lowC [c] = 16 * (c / 16 + 1) := rfl
  omega
theorem len_first (hD : nD T ≤ 16) (r : Nat) : lenF T (r + 2) [] [] = (sF T (r + 1)).map (vw T) := by
  have hin : ∀ k, (if mayJ T [] [] k = true then (offL T k (nD T)).findSome? (fun j => if pleaB T [] [] k j = true then lenF T (r + 1) ([] ++ [k]) ([] ++ [j]) else none) else none) = (List.range 16).findSome? (fun d => if d < nD T then (offer T k d).bind (fun j => lenF T (r + 1) [k] [j]) else none) := by
    intro k
    rw [if_pos (mayJ_0 rfl)]
    unfold offL
    rw [fs_fm, fs_ext hD]
    refine fs_congr fun d hd => ?_
    split
    · cases offer T k d with
      | none => rfl
      | some j =>
        show (if pleaB T [] [] k j = true then lenF T (r + 1) ([] ++ [k]) ([] ++ [j]) else none) = lenF T (r + 1) [k] [j]
        rw [if_pos (pleaB_0 rfl)]
        rfl
    · rfl
  have e1 : lenF T (r + 2) [] [] = (List.range 128).findSome? (fun c => if c % 16 < nD T then (offer T (c / 16) (c % 16)).bind (fun j => lenF T (r + 1) [c / 16] [j]) else none) := by
    have e2 := fs_nest (h := fun k d => if d < nD T then (offer T k d).bind (fun j => lenF T (r + 1) [k] [j]) else none) 8
    refine Eq.trans ?_ e2.symm
    show (List.range 8).findSome? _ = _
    exact fs_congr fun k _ => hin k
  unfold sF
  rw [e1, fs_map, fs_ext (show 112 ≤ 128 by decide)]
  refine fs_congr fun c hc => ?_
  have hc := List.mem_range.mp hc
  by_cases hok : okC T c = true
  · have hs := okC_s hok
    have hl := len_srch hD (r + 1) [c] (fun x hx => by rw [List.mem_singleton.mp hx]; exact ⟨hok, hc⟩) (Nat.le_refl 1) (show 2 ≤ 1 + (r + 1) by omega)
    rw [if_pos hs.1, hs.2.1]
    have h2 : lenF T (r + 1) [c / 16] [coC T c] = (srch T (r + 1) [c]).map (vw T) := hl
    show lenF T (r + 1) [c / 16] [coC T c] = _
    rw [h2]
    by_cases g : c < 112
    · rw [if_pos g, if_pos hok]
    · rw [if_neg g, srch_hi (by omega)]
      rfl
  · have e3 : (if c < 112 then ((if okC T c = true then srch T (r + 1) [c] else none)).map (vw T) else none) = none := by
      rw [if_neg hok]
      split <;> rfl
    rw [e3]
    by_cases hd : c % 16 < nD T
    · rw [if_pos hd]
      cases hj : offer T (c / 16) (c % 16) with
      | none => rfl
      | some j => exact absurd (okC_i hd hj).1 hok
    · rw [if_neg hd]
theorem ring_some (hD : nD T ≤ 16) {n : Nat} {p : List Nat} (h2 : 2 ≤ n) (h4 : n ≤ 4) (hz : ∀ m, 2 ≤ m → m < n → sF T (m - 1) = none) (hp : sF T (n - 1) = some p) : ringL T = vw T p := by
  have key : ∀ m, 2 ≤ m → lenF T m [] [] = (sF T (m - 1)).map (vw T) := fun m hm => by
    obtain ⟨r, rfl⟩ : ∃ r, m = r + 2 := ⟨m - 2, by omega⟩
    exact len_first hD r
  have := ringO_s h2 h4 (fun m a b => by rw [key m a, hz m a b]; rfl) (v := vw T p) (by rw [key n h2, hp]; rfl)
  unfold ringL
  rw [this]
  rfl
theorem ring_none (hD : nD T ≤ 16) (hz : ∀ m, 2 ≤ m → m < 5 → sF T (m - 1) = none) : ringL T = ([], []) := by
  have key : ∀ m, 2 ≤ m → lenF T m [] [] = (sF T (m - 1)).map (vw T) := fun m hm => by
    obtain ⟨r, rfl⟩ : ∃ r, m = r + 2 := ⟨m - 2, by omega⟩
    exact len_first hD r
  have := ringO_n (T := T) (fun m a b => by rw [key m a, hz m a b]; rfl)
  unfold ringL
  rw [this]
  rfl
theorem srch_ok : ∀ (r : Nat) (p v : List Nat), (∀ x, x ∈ p → okC T x = true ∧ x < 128) → srch T r p = some v → (∀ x, x ∈ v → okC T x = true ∧ x < 128) ∧ v.length = p.length + r := by
  intro r
  induction r with
  | zero =>
    intro p v hp h
    unfold srch at h
    split at h
    · cases h
      exact ⟨hp, rfl⟩
    · cases h
  | succ r ih =>
    intro p v hp h
    have h : (List.range 128).findSome? (fun c => if lowC p ≤ c ∧ folC T p c = true then srch T r (p ++ [c]) else none) = some v := h
    obtain ⟨c, hc, hf⟩ := List.exists_of_findSome?_eq_some h
    have hc := List.mem_range.mp hc
    split at hf
    · rename_i g
      have hok : okC T c = true := by
        have := g.2
        unfold folC at this
        rw [Bool.and_eq_true] at this
        exact this.1
      have := ih (p ++ [c]) v (fun x hx => (List.mem_append.mp hx).elim (hp x) (fun z => by rw [List.mem_singleton.mp z]; exact ⟨hok, hc⟩)) hf
      refine ⟨this.1, ?_⟩
      rw [this.2, List.length_append, List.length_singleton]
      omega
    · cases hf
theorem sF_ok {r : Nat} {v : List Nat} (h : sF T r = some v) : (∀ x, x ∈ v → okC T x = true ∧ x < 128) ∧ v.length = 1 + r := by
  unfold sF at h
  obtain ⟨c, hc, hf⟩ := List.exists_of_findSome?_eq_some h
  have hc := List.mem_range.mp hc
  split at hf
  · rename_i g
    have := srch_ok r [c] v (fun x hx => by rw [List.mem_singleton.mp hx]; exact ⟨g, by omega⟩) hf
    exact this
  · cases hf
end SR
