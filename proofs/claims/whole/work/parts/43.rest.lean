/-! between two calls nobody owns more than 10 -/
def tOK (T : rTab) : Prop := ∀ k, k < 8 → ownedN T k ≤ 10
section RE
variable {T T' : rTab}
theorem own_eq (h1 : T' 0 1 = T 0 1) (h8 : ∀ j, T' 8 j = T 8 j) (k : Nat) : ownedN T' k = ownedN T k := by
  unfold ownedN nC
  rw [h1]
  refine cntB_congr fun j _ => ?_
  unfold ownAt
  rw [h8]
theorem tOK.eq (h : tOK T) (h1 : T' 0 1 = T 0 1) (h8 : ∀ j, T' 8 j = T 8 j) : tOK T' := fun k hk => by
  rw [own_eq h1 h8]
  exact h k hk
theorem tOK_crack (h : tOK T) (a b : Int32) : tOK (sCrack T a b).2.2 := by
  unfold sCrack
  split
  · exact h
  · split
    · exact h
    · split
      · exact h
      · exact h.eq rfl (fun _ => rfl)
theorem tOK_want (h : tOK T) (a b : Int32) (w : Bool) : tOK (sWant T a b w).2.2 := by
  unfold sWant
  split
  · exact h
  · split
    · exact h
    · split
      · exact h
      · exact h.eq rfl (fun _ => rfl)
theorem tOK_fair (h : tOK T) (a b : Int32) : tOK (sFair T a b).2.2 := by
  unfold sFair
  split
  · exact h
  · split
    · exact h
    · exact h.eq rfl (fun _ => rfl)
theorem tOK_mark (h : tOK T) (a : Int32) (w : Bool) : tOK (sMark T a w).2.2 := by
  unfold sMark
  split
  · exact h
  · split
    · exact h
    · exact h.eq rfl (fun _ => rfl)
theorem tOK_new (h : tOK T) (t df : Nat) : tOK (sNew T t df).2.2 := by
  unfold sNew
  split
  · exact h.eq (T' := addT T t df) addT_C (fun j => congrFun (addT_k (a := 8) (by decide) (by decide) (by decide) (by decide) (by decide) (by decide)) j)
  · exact h
theorem tOK_addDie (h : tOK T) (a : Int32) : tOK (sAddDie T a).2.2 := by
  unfold sAddDie
  split
  · exact h
  · exact tOK_new h _ _
theorem tOK_cast (h : tOK T) (a : Int32) : tOK (sCast T a).2.2 := by
  unfold sCast
  split
  · exact h
  · split
    · exact h
    · exact tOK_new h _ _
theorem tOK_cond (h : tOK T) (a : Int32) : tOK (sCond T a).2.2 := by
  unfold sCond
  split
  · exact h
  · split
    · exact h
    · exact h.eq (T' := condT T _) (congrFun (condT_k (a := 0) (by decide) (by decide) (by decide)) 1) (fun j => congrFun (condT_k (a := 8) (by decide) (by decide) (by decide)) j)
theorem own_coin {d k : Nat} : ownedN (coinT T d) k = ownedN T k := by
  unfold ownedN
  rw [coinT_C]
  show cntB _ (nC T) + (if ownAt (coinT T d) k (nC T) = true then 1 else 0) = _
  rw [if_neg (by unfold ownAt; rw [coinT_8, decide_eq_false (by omega)]; exact Bool.false_ne_true)]
  refine cntB_congr fun j hj => ?_
  unfold ownAt
  rw [coinT_i (by decide) (by omega)]
theorem own_strikeI {d k i : Nat} : ownedN (strikeI T d i) k = ownedN T k := by
  induction i with
  | zero => rfl
  | succ i ih => exact own_coin.trans ih
theorem tOK_strike (h : tOK T) (a b : Int32) : tOK (sStrike T a b).2.2 := by
  unfold sStrike
  split
  · exact h
  · split
    · exact h
    · split
      · exact h
      · split
        · exact h
        · intro k hk
          show ownedN (strikeT T _ _) k ≤ 10
          rw [own_eq (T := strikeI T _ _) (T' := strikeT T _ _) rfl (fun _ => rfl), own_strikeI]
          exact h k hk
theorem tOK_give (h : tOK T) (a b : Int32) : tOK (sGive T a b).2.2 := by
  cases ha : ixO a (nC T) with
  | none =>
    rw [sGive_1 ha]
    exact h
  | some j =>
    cases hb : ixO b 8 with
    | none =>
      rw [sGive_2 ha hb]
      exact h
    | some k =>
      rw [sGive_0 ha hb]
      by_cases e : T 7 j = 1 ∨ T 8 j ≠ 0 ∨ 10 ≤ ownedN T k
      · rw [if_pos e]
        exact h
      · rw [if_neg e]
        intro q hq
        show ownedN (gainT T k j) q ≤ 10
        rw [owned_gain (ixO_lt ha) (by omega)]
        have := h q hq
        by_cases g : q = k
        · rw [if_pos g]
          subst g
          omega
        · rw [if_neg g]
          exact this
theorem tOK_melt (h : tOK T) (a : Int32) : tOK (sMelt T a).2.2 := by
  cases ha : ixO a (nC T) with
  | none =>
    rw [sMelt_1 ha]
    exact h
  | some j =>
    rw [sMelt_0 ha]
    by_cases e : T 7 j = 1
    · rw [if_pos e]
      exact h
    · rw [if_neg e]
      intro q hq
      show ownedN (meltT T j) q ≤ 10
      rw [own_eq (T := ru T 8 j 0) (T' := meltT T j) rfl (fun _ => rfl)]
      have := h q hq
      by_cases e8 : T 8 j = 0
      · rw [ru_id e8]
        exact this
      · rw [owned_lose (c := T 8 j - 1) (ixO_lt ha) (by omega)]
        split <;> omega
end RE
