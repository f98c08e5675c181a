/-! who owns how many behind a swap -/
theorem cnt_shift (q : Nat → Bool) : ∀ m, cntB (fun i => q (i + 1)) m + (if q 0 = true then 1 else 0) = cntB q (m + 1) := by
  intro m
  induction m with
  | zero => rfl
  | succ m ih =>
    show cntB (fun i => q (i + 1)) m + (if q (m + 1) = true then 1 else 0) + _ = cntB q (m + 1) + (if q (m + 1) = true then 1 else 0)
    omega
theorem cnt_rot (q : Nat → Bool) (n : Nat) : cntB (fun m => q (nxt n m)) n = cntB q n := by
  cases n with
  | zero => rfl
  | succ m =>
    rw [← cnt_shift q m]
    show cntB (fun i => q (nxt (m + 1) i)) m + (if q (nxt (m + 1) m) = true then 1 else 0) = _
    rw [show nxt (m + 1) m = 0 from if_neg (by omega), cntB_congr (q := fun i => q (i + 1)) (fun i hi => by rw [show nxt (m + 1) i = i + 1 from if_pos (by omega)])]
def isAt (xs : List Nat) (k m : Nat) : Bool := decide (xs[m]? = some k)
theorem hand_own {T : rTab} {xs ys : List Nat} (h : rowOK T xs ys) (k : Nat) : ∀ p, p ≤ xs.length → ownedN (handI T xs ys p) k + cntB (isAt xs k) p = ownedN T k + cntB (fun m => isAt xs k (nxt xs.length m)) p := by
  intro p
  induction p with
  | zero => exact fun _ => rfl
  | succ p ih =>
    intro hp
    have ih := ih (by omega)
    obtain ⟨c, hc⟩ : ∃ z, xs[p]? = some z := ⟨_, List.getElem?_eq_getElem (by omega)⟩
    obtain ⟨j, hj⟩ : ∃ z, ys[p]? = some z := ⟨_, List.getElem?_eq_getElem (by rw [← h.1]; omega)⟩
    obtain ⟨d, hd⟩ : ∃ z, xs[nxt xs.length p]? = some z := ⟨_, List.getElem?_eq_getElem (nxt_lt (by omega))⟩
    have hro := h.2.2.2 p c j hc hj
    have h8 : handI T xs ys p 8 j = c + 1 := (handI_8 p (fun x z hx hz e => by
      rw [e] at hz
      have := h.inj hz hj
      omega)).trans hro.2.1
    have hjC : j < nC (handI T xs ys p) := by
      rw [show nC (handI T xs ys p) = nC T from congrFun (handI_k (a := 0) (by decide) (by decide) (by decide) (by decide) p) 1]
      exact hro.1
    rw [handI_s hd hj, owned_gain (T := ru (handI T xs ys p) 8 j 0) hjC ru_e, owned_lose hjC h8]
    have hpos : 0 < ownedN (handI T xs ys p) c := cntB_pos hjC (by unfold ownAt; rw [h8]; exact decide_eq_true rfl)
    show _ + (cntB (isAt xs k) p + (if isAt xs k p = true then 1 else 0)) = ownedN T k + (cntB (fun m => isAt xs k (nxt xs.length m)) p + (if isAt xs k (nxt xs.length p) = true then 1 else 0))
    have e1 : (if isAt xs k p = true then 1 else 0) = if k = c then 1 else 0 := by
      unfold isAt
      rw [hc]
      by_cases e : k = c
      · rw [if_pos e, if_pos (decide_eq_true (by rw [e]))]
      · rw [if_neg e, if_neg (by rw [decide_eq_false (fun z => e (Option.some.inj z).symm)]; exact Bool.false_ne_true)]
    have e2 : (if isAt xs k (nxt xs.length p) = true then 1 else 0) = if k = d then 1 else 0 := by
      unfold isAt
      rw [hd]
      by_cases e : k = d
      · rw [if_pos e, if_pos (decide_eq_true (by rw [e]))]
      · rw [if_neg e, if_neg (by rw [decide_eq_false (fun z => e (Option.some.inj z).symm)]; exact Bool.false_ne_true)]
    rw [e1, e2]
    by_cases g1 : k = c
    · by_cases g2 : k = d
      · rw [if_pos g1, if_pos g1, if_pos g2, if_pos g2]
        subst g1
        omega
      · rw [if_pos g1, if_pos g1, if_neg g2, if_neg g2]
        subst g1
        omega
    · by_cases g2 : k = d
      · rw [if_neg g1, if_neg g1, if_pos g2, if_pos g2]
        omega
      · rw [if_neg g1, if_neg g1, if_neg g2, if_neg g2]
        omega
/-- a swap leaves everyone with as many coins -/
theorem hand_all {T : rTab} {xs ys : List Nat} (h : rowOK T xs ys) (k : Nat) : ownedN (handI T xs ys xs.length) k = ownedN T k := by
  have h1 := hand_own h k xs.length (Nat.le_refl _)
  rw [cnt_rot (isAt xs k) xs.length] at h1
  omega
