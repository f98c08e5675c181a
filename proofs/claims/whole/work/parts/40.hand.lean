/-! the ring hands over: the tables step by step -/
def nxt (n p : Nat) : Nat := if p + 1 < n then p + 1 else 0
def handI (T : rTab) (xs ys : List Nat) : Nat → rTab
  | 0 => T
  | p + 1 => match xs[nxt xs.length p]?, ys[p]? with
    | some c, some j => gainT (ru (handI T xs ys p) 8 j 0) c j
    | _, _ => handI T xs ys p
theorem handI_s {T : rTab} {xs ys : List Nat} {p c j : Nat} (h1 : xs[nxt xs.length p]? = some c) (h2 : ys[p]? = some j) : handI T xs ys (p + 1) = gainT (ru (handI T xs ys p) 8 j 0) c j := by
  show (match xs[nxt xs.length p]?, ys[p]? with | some c, some j => gainT (ru (handI T xs ys p) 8 j 0) c j | _, _ => handI T xs ys p) = _
  rw [h1, h2]
theorem handI_k {T : rTab} {xs ys : List Nat} {a : Nat} (h8 : a ≠ 8) (h9 : a ≠ 9) (h10 : a ≠ 10) (h21 : a ≠ 21) : ∀ p, handI T xs ys p a = T a := by
  intro p
  induction p with
  | zero => rfl
  | succ p ih =>
    show (match xs[nxt xs.length p]?, ys[p]? with | some c, some j => gainT (ru (handI T xs ys p) 8 j 0) c j | _, _ => handI T xs ys p) a = _
    cases h1 : xs[nxt xs.length p]? with
    | none => exact ih
    | some c =>
      cases h2 : ys[p]? with
      | none => exact ih
      | some j => exact (gainT_k h8 h9 h10 h21).trans ((ruK h8).trans ih)
theorem handI_8 {T : rTab} {xs ys : List Nat} {y : Nat} : ∀ p, (∀ x z, x < p → ys[x]? = some z → z ≠ y) → handI T xs ys p 8 y = T 8 y := by
  intro p
  induction p with
  | zero => exact fun _ => rfl
  | succ p ih =>
    intro h
    have ih := ih (fun x z hx hz => h x z (by omega) hz)
    show (match xs[nxt xs.length p]?, ys[p]? with | some c, some j => gainT (ru (handI T xs ys p) 8 j 0) c j | _, _ => handI T xs ys p) 8 y = _
    cases h1 : xs[nxt xs.length p]? with
    | none => exact ih
    | some c =>
      cases h2 : ys[p]? with
      | none => exact ih
      | some j =>
        have hj : y ≠ j := fun e => h p j (Nat.lt_succ_self _) h2 e.symm
        show gainT (ru (handI T xs ys p) 8 j 0) c j 8 y = _
        unfold gainT
        rw [ru_k (by decide), ru_k (by decide), ru_k (by decide), ru_i hj, ru_i hj]
        exact ih
theorem rowOK.inj {T : rTab} {xs ys : List Nat} (h : rowOK T xs ys) {a b y : Nat} (ha : ys[a]? = some y) (hb : ys[b]? = some y) : a = b := by
  have la := (List.getElem?_eq_some_iff.mp ha).1
  have lb := (List.getElem?_eq_some_iff.mp hb).1
  have hxa : xs[a]? = some (xs[a]'(by rw [h.1]; exact la)) := List.getElem?_eq_getElem _
  have hxb : xs[b]? = some (xs[b]'(by rw [h.1]; exact lb)) := List.getElem?_eq_getElem _
  have e1 := (h.2.2.2 a _ y hxa ha).2.1
  have e2 := (h.2.2.2 b _ y hxb hb).2.1
  have e3 : xs[a]'(by rw [h.1]; exact la) = xs[b]'(by rw [h.1]; exact lb) := by omega
  exact (List.getElem?_inj (by rw [h.1]; exact la) h.2.1).mp (by rw [hxa, hxb, e3])
theorem owned_lose {T : rTab} {j k c : Nat} (hj : j < nC T) (h8 : T 8 j = c + 1) : ownedN (ru T 8 j 0) k = if k = c then ownedN T k - 1 else ownedN T k := by
  unfold ownedN
  rw [show nC (ru T 8 j 0) = nC T from rfl]
  by_cases e : k = c
  · subst e
    rw [if_pos rfl]
    refine cntB_pt hj (by unfold ownAt; rw [h8]; exact decide_eq_true rfl) (by unfold ownAt; rw [ru_e]; exact decide_eq_false (by omega)) (fun i hi => by unfold ownAt; rw [ru_i hi])
  · rw [if_neg e]
    refine cntB_congr fun i _ => ?_
    unfold ownAt
    by_cases g : i = j
    · rw [g, ru_e, h8, decide_eq_false (by omega), decide_eq_false (by omega)]
    · rw [ru_i g]
theorem owned_gain {T : rTab} {j k c : Nat} (hj : j < nC T) (h8 : T 8 j = 0) : ownedN (gainT T c j) k = if k = c then ownedN T k + 1 else ownedN T k := by
  have g8 : ∀ i, gainT T c j 8 i = if i = j then c + 1 else T 8 i := fun i => by
    unfold gainT
    rw [ru_k (by decide), ru_k (by decide), ru_k (by decide)]
    by_cases e : i = j
    · rw [e, ru_e, if_pos rfl]
    · rw [ru_i e, if_neg e]
  unfold ownedN
  rw [show nC (gainT T c j) = nC T from congrFun (gainT_k (a := 0) (by decide) (by decide) (by decide) (by decide)) 1]
  by_cases e : k = c
  · subst e
    rw [if_pos rfl]
    have hp : ownAt (gainT T k j) k j = true := by
      unfold ownAt
      rw [g8, if_pos rfl]
      exact decide_eq_true rfl
    have h1 := cntB_pt (p := ownAt (gainT T k j) k) (q := ownAt T k) hj hp (by unfold ownAt; rw [h8]; exact decide_eq_false (by omega)) (fun i hi => by unfold ownAt; rw [g8, if_neg hi])
    have h2 := cntB_pos hj hp
    omega
  · rw [if_neg e]
    refine cntB_congr fun i _ => ?_
    unfold ownAt
    rw [g8]
    by_cases g : i = j
    · rw [if_pos g, g, h8, decide_eq_false (by omega), decide_eq_false (by omega)]
    · rw [if_neg g]
