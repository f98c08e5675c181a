/-! lists: L says of a role (k, i) what the list holds, how long its array is (0: the shared empty one), its count of changes -/
abbrev rL : Type := (Nat → Nat → List Nat) × (Nat → Nat → Nat) × (Nat → Nat → Int32)
abbrev arO (G : rG) (n : Nat) (f : Nat → Option Nat) : va_E := .inl (G.2.1 2, n, .inr (.inr (.inr (.inr f))))
abbrev alO (mc : Int32) (a n : Nat) : va_E := .inr (0, [.int mc, .ref a, .int (nI n)])
def lAd (G : rG) (L : rL) (ad : rA) (k i : Nat) : Nat := if L.2.1 k i = 0 then G.2.2 else ad (k + 10) i
def lFn (L : rL) (ad : rA) (k i ek : Nat) : Nat → Option Nat := fun j => ((L.1 k i)[j]?).map (ad ek)
def lSh (G : rG) (L : rL) (C : rC) (ad : rA) (k i ek : Nat) : Prop :=
  C k i = some (alO (L.2.2 k i) (lAd G L ad k i) (L.1 k i).length) ∧ C (k + 10) i = (if L.2.1 k i = 0 then none else some (arO G (L.2.1 k i) (lFn L ad k i ek))) ∧ (L.1 k i).length ≤ L.2.1 k i ∧ L.2.1 k i < 1000
/-- only the list of the role (k, i) has changed -/
def lCh (k i : Nat) (C : rC) (ad : rA) (C' : rC) (ad' : rA) : Prop := (∀ a b, ¬ (a = k ∧ b = i) → ¬ (a = k + 10 ∧ b = i) → C' a b = C a b) ∧ ∀ a b, ¬ (a = k + 10 ∧ b = i) → ad' a b = ad a b
def lUp (L : rL) (k i : Nat) (xs : List Nat) (cap : Nat) (mc : Int32) : rL := (ru L.1 k i xs, ru L.2.1 k i cap, ru L.2.2 k i mc)
theorem lCh.rf {k i : Nat} {C : rC} {ad : rA} : lCh k i C ad C ad := ⟨fun _ _ _ _ => rfl, fun _ _ _ => rfl⟩
theorem lSh.obj {G : rG} {L : rL} {C : rC} {ad : rA} {k i ek : Nat} (h : lSh G L C ad k i ek) : C k i = some (alO (L.2.2 k i) (lAd G L ad k i) (L.1 k i).length) := h.1
theorem lSh.pos {G : rG} {L : rL} {C : rC} {ad : rA} {k i ek j y : Nat} (h : lSh G L C ad k i ek) (hj : (L.1 k i)[j]? = some y) : ¬ L.2.1 k i = 0 := by
  have h1 := (List.getElem?_eq_some_iff.mp hj).1
  have h2 := h.2.2.1
  omega
theorem lSh.arr {G : rG} {L : rL} {C : rC} {ad : rA} {k i ek : Nat} (h : lSh G L C ad k i ek) (hz : ¬ L.2.1 k i = 0) : C (k + 10) i = some (arO G (L.2.1 k i) (lFn L ad k i ek)) := by
  rw [h.2.1, if_neg hz]
/-- the list of another role is what it was -/
theorem lSh.keep {G : rG} {L L' : rL} {C C' : rC} {ad ad' : rA} {k i ek a b : Nat} (h : lSh G L C ad a b ek) (hc : lCh k i C ad C' ad') (hn : ¬ (a = k ∧ b = i)) (hn2 : ¬ (a = k + 10 ∧ b = i)) (hn3 : ¬ (a + 10 = k ∧ b = i)) (hek : ek ≠ k + 10) (h1 : L'.1 a b = L.1 a b) (h2 : L'.2.1 a b = L.2.1 a b) (h3 : L'.2.2 a b = L.2.2 a b) : lSh G L' C' ad' a b ek := by
  obtain ⟨g1, g2, g3, g4⟩ := h
  have e1 : ad' (a + 10) b = ad (a + 10) b := hc.2 _ _ (by omega)
  have e2 : ad' ek = ad ek := funext fun j => hc.2 _ _ (by omega)
  refine ⟨?_, ?_, by rw [h1, h2]; exact g3, by rw [h2]; exact g4⟩
  · rw [hc.1 a b hn hn2, g1]
    unfold lAd
    rw [h1, h2, h3, e1]
  · rw [hc.1 (a + 10) b hn3 (by omega), g2]
    unfold lFn
    rw [h1, h2, e2]
theorem lUp_e1 {L : rL} {k i : Nat} {xs : List Nat} {cap : Nat} {mc : Int32} : (lUp L k i xs cap mc).1 k i = xs := ru_e
theorem lUp_e2 {L : rL} {k i : Nat} {xs : List Nat} {cap : Nat} {mc : Int32} : (lUp L k i xs cap mc).2.1 k i = cap := ru_e
theorem lUp_e3 {L : rL} {k i : Nat} {xs : List Nat} {cap : Nat} {mc : Int32} : (lUp L k i xs cap mc).2.2 k i = mc := ru_e
theorem lUp_n1 {L : rL} {k i a b : Nat} {xs : List Nat} {cap : Nat} {mc : Int32} (h : ¬ (a = k ∧ b = i)) : (lUp L k i xs cap mc).1 a b = L.1 a b := ru_n h
theorem lUp_n2 {L : rL} {k i a b : Nat} {xs : List Nat} {cap : Nat} {mc : Int32} (h : ¬ (a = k ∧ b = i)) : (lUp L k i xs cap mc).2.1 a b = L.2.1 a b := ru_n h
theorem lUp_n3 {L : rL} {k i a b : Nat} {xs : List Nat} {cap : Nat} {mc : Int32} (h : ¬ (a = k ∧ b = i)) : (lUp L k i xs cap mc).2.2 a b = L.2.2 a b := ru_n h
theorem lSh.keepU {G : rG} {L : rL} {C C' : rC} {ad ad' : rA} {k i ek a b : Nat} {xs : List Nat} {cap : Nat} {mc : Int32} (h : lSh G L C ad a b ek) (hc : lCh k i C ad C' ad') (hn : ¬ (a = k ∧ b = i)) (hn2 : ¬ (a = k + 10 ∧ b = i)) (hn3 : ¬ (a + 10 = k ∧ b = i)) (hek : ek ≠ k + 10) : lSh G (lUp L k i xs cap mc) C' ad' a b ek :=
  h.keep hc hn hn2 hn3 hek (lUp_n1 hn) (lUp_n2 hn) (lUp_n3 hn)
