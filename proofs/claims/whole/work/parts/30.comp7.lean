/-! dies made (printed by wip/whole/gen/comp7.py) -/
def addT (T : rTab) (t df : Nat) : rTab := ru (ru (ru (ru (ru (ru T 1 (nD T) t) 2 (nD T) df) 3 (nD T) 0) 4 (nD T) 0) 20 (nD T) 0) 0 0 (nD T + 1)
def sNew (T : rTab) (t df : Nat) : sR := if nD T < 16 then (0, nI (nD T), addT T t df) else (2, 0, T)
def sAddDie (T : rTab) (a : Int32) : sR := match ixO a 4 with
  | none => (1, 0, T)
  | some t => sNew T t 0
def sCast (T : rTab) (a : Int32) : sR := match ixO a (nC T) with
  | none => (1, 0, T)
  | some j => if T 7 j = 1 then (2, 0, T) else sNew T (T 1 (T 5 j)) (T 6 j)
theorem sAddDie_1 {T : rTab} {a : Int32} (h : ixO a 4 = none) : sAddDie T a = (1, 0, T) := by
  unfold sAddDie
  rw [h]
theorem sAddDie_0 {T : rTab} {a : Int32} {t : Nat} (h : ixO a 4 = some t) : sAddDie T a = sNew T t 0 := by
  unfold sAddDie
  rw [h]
theorem sCast_1 {T : rTab} {a : Int32} (h : ixO a (nC T) = none) : sCast T a = (1, 0, T) := by
  unfold sCast
  rw [h]
theorem sCast_0 {T : rTab} {a : Int32} {j : Nat} (h : ixO a (nC T) = some j) : sCast T a = if T 7 j = 1 then (2, 0, T) else sNew T (T 1 (T 5 j)) (T 6 j) := by
  unfold sCast
  rw [h]
section AD
variable {G : rG} {T : rTab} {L : rL} {C C' : rC} {ad ad' : rA}
theorem addT_k {t df a : Nat} (h0 : a ≠ 0) (h1 : a ≠ 1) (h2 : a ≠ 2) (h3 : a ≠ 3) (h4 : a ≠ 4) (h20 : a ≠ 20) : addT T t df a = T a := by
  unfold addT
  rw [ruK h0, ruK h20, ruK h4, ruK h3, ruK h2, ruK h1]
theorem addT_i {t df a j : Nat} (h0 : a ≠ 0) (h : j ≠ nD T) : addT T t df a j = T a j := by
  unfold addT
  rw [ru_k h0, ru_i h, ru_i h, ru_i h, ru_i h, ru_i h]
theorem addT_D {t df : Nat} : nD (addT T t df) = nD T + 1 := ru_e
theorem addT_C {t df : Nat} : nC (addT T t df) = nC T := by
  unfold nC addT
  rw [ru_i (by decide)]
  rw [ru_k (by decide), ru_k (by decide), ru_k (by decide), ru_k (by decide), ru_k (by decide)]
theorem addT_S {t df : Nat} : nS (addT T t df) = nS T := by
  unfold nS addT
  rw [ru_i (by decide)]
  rw [ru_k (by decide), ru_k (by decide), ru_k (by decide), ru_k (by decide), ru_k (by decide)]
theorem addT_1 {t df : Nat} : addT T t df 1 (nD T) = t := by
  unfold addT
  rw [ru_k (by decide), ru_k (by decide), ru_k (by decide), ru_k (by decide), ru_k (by decide), ru_e]
theorem addT_2 {t df : Nat} : addT T t df 2 (nD T) = df := by
  unfold addT
  rw [ru_k (by decide), ru_k (by decide), ru_k (by decide), ru_k (by decide), ru_e]
theorem addT_4 {t df : Nat} : addT T t df 4 (nD T) = 0 := by
  unfold addT
  rw [ru_k (by decide), ru_k (by decide), ru_e]
theorem addT_20 {t df : Nat} : addT T t df 20 (nD T) = 0 := by
  unfold addT
  rw [ru_k (by decide), ru_e]
def dieC (G : rG) (C : rC) (n : Nat) (t vl df : Int32) (r : Nat) : rC := ru (ru C 11 n (some (alO (nI 0) G.2.2 0))) 1 n (some (.inr (3, [.int (nI n), .int t, .int vl, .int df, .int 0, .int 0, .ref r])))
def dieA (ad : rA) (n q1 q2 : Nat) : rA := ru (ru ad 1 n q1) 11 n q2
theorem dieA_k {n q1 q2 a : Nat} (h1 : a ≠ 1) (h11 : a ≠ 11) : dieA ad n q1 q2 a = ad a := funext fun b => (ru_k h11).trans (ru_k h1)
theorem dieC_k {n : Nat} {t vl df : Int32} {r a : Nat} (h1 : a ≠ 1) (h11 : a ≠ 11) (b : Nat) : dieC G C n t vl df r a b = C a b := (ru_k h1).trans (ru_k h11)
theorem cOb.dieN (h : cOb G T C ad) (hcd : ∀ j, j < nC T → T 5 j ≠ nD T) {t df q1 q2 : Nat} : cOb G (addT T t df) (dieC G C (nD T) (nI t) (nI (valOf t)) (nI df) (dieA ad (nD T) q1 q2 11 (nD T))) (dieA ad (nD T) q1 q2) := by
  obtain ⟨a1, a2, a3, a4, a5, a6, a7⟩ := h
  have e : ∀ a, a ≠ 1 → a ≠ 11 → dieA ad (nD T) q1 q2 a = ad a := fun a g1 g2 => dieA_k g1 g2
  have k6 : ∀ a, a ≠ 0 → a ≠ 1 → a ≠ 2 → a ≠ 3 → a ≠ 4 → a ≠ 20 → addT T t df a = T a := fun a g0 g1 g2 g3 g4 g20 => addT_k g0 g1 g2 g3 g4 g20
  refine ⟨?_, ?_, ?_, fun i => ?_, fun j => ?_, fun q hq => ?_, fun q => ?_⟩
  · rw [dieC_k (by decide) (by decide), a1]
    unfold reO
    rw [e 10 (by decide) (by decide), e 12 (by decide) (by decide), e 7 (by decide) (by decide), e 13 (by decide) (by decide), e 6 (by decide) (by decide), addT_S]
  · rw [dieC_k (by decide) (by decide), a2]
    unfold caO
    rw [e 5 (by decide) (by decide)]
  · rw [dieC_k (by decide) (by decide), a3]
  · rw [addT_D]
    by_cases qi : i = nD T
    · rw [qi, if_pos (Nat.lt_succ_self _)]
      unfold diO
      rw [addT_1, addT_2, addT_4, addT_20]
      exact ru_e
    · rw [show dieC G C (nD T) (nI t) (nI (valOf t)) (nI df) (dieA ad (nD T) q1 q2 11 (nD T)) 1 i = C 1 i from (ru_i qi).trans (ru_k (by decide)), a4]
      have e1 : diO (addT T t df) (dieA ad (nD T) q1 q2) i = diO T ad i := by
        unfold diO
        rw [addT_i (by decide) qi, addT_i (by decide) qi, addT_i (by decide) qi, addT_i (by decide) qi, show dieA ad (nD T) q1 q2 11 i = ad 11 i from (ru_i qi).trans (ru_k (by decide))]
      rw [e1]
      by_cases g : i < nD T
      · have g2 : i < nD T + 1 := by omega
        simp only [if_pos g, if_pos g2]
      · have g2 : ¬ i < nD T + 1 := by omega
        simp only [if_neg g, if_neg g2]
  · rw [dieC_k (by decide) (by decide), a5, addT_C]
    by_cases g : j < nC T
    · rw [if_pos g, if_pos g]
      unfold coO
      rw [k6 5 (by decide) (by decide) (by decide) (by decide) (by decide) (by decide), k6 6 (by decide) (by decide) (by decide) (by decide) (by decide) (by decide), k6 7 (by decide) (by decide) (by decide) (by decide) (by decide) (by decide), k6 8 (by decide) (by decide) (by decide) (by decide) (by decide) (by decide), k6 21 (by decide) (by decide) (by decide) (by decide) (by decide) (by decide), e 5 (by decide) (by decide), show dieA ad (nD T) q1 q2 1 (T 5 j) = ad 1 (T 5 j) from (ru_k (by decide)).trans (ru_i (hcd j g))]
    · rw [if_neg g, if_neg g]
  · rw [dieC_k (by decide) (by decide), a6 q hq]
    unfold clO
    rw [e 14 (by decide) (by decide), e 15 (by decide) (by decide), k6 10 (by decide) (by decide) (by decide) (by decide) (by decide) (by decide), k6 11 (by decide) (by decide) (by decide) (by decide) (by decide) (by decide)]
  · rw [dieC_k (by decide) (by decide), a7, addT_S]
    unfold rgO
    rw [e 16 (by decide) (by decide), e 17 (by decide) (by decide)]
theorem lSh.die {k i ek n q1 q2 : Nat} {t vl df : Int32} {r : Nat} {mc : Int32} (h : lSh G L C ad k i ek) (hk : 10 ≤ k) (hk2 : k < 20) (hne : ¬ (k = 11 ∧ i = n)) (hek : ek ≠ 11) (hf : ∀ j, j ∈ L.1 k i → ek = 1 → j ≠ n) : lSh G (lUp L 11 n [] 0 mc) (dieC G C n t vl df r) (dieA ad n q1 q2) k i ek := by
  obtain ⟨g1, g2, g3, g4⟩ := h
  have c1 : dieC G C n t vl df r k i = C k i := (ru_k (by omega)).trans (ru_n hne)
  have c2 : dieC G C n t vl df r (k + 10) i = C (k + 10) i := (ru_k (by omega)).trans (ru_k (by omega))
  have a1 : dieA ad n q1 q2 (k + 10) i = ad (k + 10) i := (ru_k (by omega)).trans (ru_k (by omega))
  refine ⟨?_, ?_, by rw [lUp_n1 hne, lUp_n2 hne]; exact g3, by rw [lUp_n2 hne]; exact g4⟩
  · rw [c1, g1]
    unfold lAd
    rw [lUp_n1 hne, lUp_n2 hne, lUp_n3 hne, a1]
  · rw [c2, g2]
    have : lFn (lUp L 11 n [] 0 mc) (dieA ad n q1 q2) k i ek = lFn L ad k i ek := by
      funext x
      unfold lFn
      rw [lUp_n1 hne]
      cases hx : (L.1 k i)[x]? with
      | none => rfl
      | some y =>
        show some (dieA ad n q1 q2 ek y) = some (ad ek y)
        rw [show dieA ad n q1 q2 ek y = ad ek y from (ru_k hek).trans (ru_n (fun z => hf y (List.mem_of_getElem? hx) z.1 z.2))]
    rw [this, lUp_n2 hne]
theorem cLs.dieN (h : cInvW G T L C ad) {t df t' df' q1 q2 r : Nat} {vl : Int32} : cLs G (addT T t df) (lUp L 11 (nD T) [] 0 (nI 0)) (dieC G C (nD T) (nI t') vl (nI df') r) (dieA ad (nD T) q1 q2) := by
  obtain ⟨a1, a2, a3, a4, a5, a6, a7, a8⟩ := h.2.1
  unfold cLs
  rw [addT_D, addT_S]
  refine ⟨a1.die (by decide) (by decide) (fun z => absurd z.1 (by decide)) (by decide) (fun j hj _ => ?_), a2.die (by decide) (by decide) (fun z => absurd z.1 (by decide)) (by decide) (fun _ _ z => by cases z), a3.die (by decide) (by decide) (fun z => absurd z.1 (by decide)) (by decide) (fun _ _ z => by cases z), fun b hb => ?_, fun b hb => ⟨(a5 b hb).1.die (by decide) (by decide) (fun z => absurd z.1 (by decide)) (by decide) (fun _ _ z => by cases z), (a5 b hb).2.die (by decide) (by decide) (fun z => absurd z.1 (by decide)) (by decide) (fun _ _ z => by cases z)⟩, fun b hb => ⟨(a6 b hb).1.die (by decide) (by decide) (fun z => absurd z.1 (by decide)) (by decide) (fun _ _ z => by cases z), (a6 b hb).2.die (by decide) (by decide) (fun z => absurd z.1 (by decide)) (by decide) (fun _ _ z => by cases z)⟩, fun b hb => ?_, fun b hb => ?_⟩
  · rw [h.hdies] at hj
    have := List.mem_range.mp hj
    omega
  · by_cases e : b = nD T
    · subst e
      have h7 := a7 (nD T) (Nat.le_refl _)
      refine ⟨?_, ?_, by rw [lUp_e1, lUp_e2]; exact Nat.le_refl _, by rw [lUp_e2]; decide⟩
      · unfold lAd
        rw [lUp_e1, lUp_e2, lUp_e3, if_pos rfl]
        exact (ru_k (by decide)).trans ru_e
      · rw [lUp_e2, if_pos rfl]
        exact ((ru_k (by decide)).trans (ru_k (by decide))).trans h7.2
    · exact (a4 b (by omega)).die (by decide) (by decide) (fun z => e z.2) (by decide) (fun _ _ z => by cases z)
  · have h7 := a7 b (by omega)
    exact ⟨((ru_k (by decide)).trans (ru_i (by omega))).trans h7.1, ((ru_k (by decide)).trans (ru_k (by decide))).trans h7.2⟩
  · have h8 := a8 b hb
    exact ⟨((ru_k (by decide)).trans (ru_k (by decide))).trans h8.1, ((ru_k (by decide)).trans (ru_k (by decide))).trans h8.2.1, ((ru_k (by decide)).trans (ru_k (by decide))).trans h8.2.2.1, ((ru_k (by decide)).trans (ru_k (by decide))).trans h8.2.2.2⟩
theorem addT_nu (h : cNu T) {t df : Nat} (ht : t < 4) (hdf : df < 65536) (hD : nD T < 16) : cNu (addT T t df) := by
  obtain ⟨a, b, c, e, f, g⟩ := h
  refine cNu.mk _ (by rw [addT_D]; omega) (by rw [addT_C]; exact b) (by rw [addT_S]; exact c) (fun i hi => ?_) (fun j hj => ?_) (fun k hk => ?_)
  · rw [addT_D] at hi
    by_cases q : i = nD T
    · rw [q, addT_1, addT_2, addT_4]
      exact ⟨ht, hdf, by decide⟩
    · rw [addT_i (by decide) q, addT_i (by decide) q, addT_i (by decide) q]
      exact e i (by omega)
  · rw [addT_C] at hj
    rw [addT_D, addT_k (a := 5) (by decide) (by decide) (by decide) (by decide) (by decide) (by decide), addT_k (a := 6) (by decide) (by decide) (by decide) (by decide) (by decide) (by decide), addT_k (a := 7) (by decide) (by decide) (by decide) (by decide) (by decide) (by decide), addT_k (a := 8) (by decide) (by decide) (by decide) (by decide) (by decide) (by decide), addT_k (a := 9) (by decide) (by decide) (by decide) (by decide) (by decide) (by decide), addT_k (a := 21) (by decide) (by decide) (by decide) (by decide) (by decide) (by decide)]
    have := f j hj
    exact ⟨by omega, this.2⟩
  · rw [addT_k (a := 10) (by decide) (by decide) (by decide) (by decide) (by decide) (by decide), addT_k (a := 11) (by decide) (by decide) (by decide) (by decide) (by decide) (by decide)]
    exact g k hk
theorem addT_tru (hcd : ∀ j, j < nC T → T 5 j ≠ nD T) {t df j : Nat} (hj : j < nC T) : tru (addT T t df) j = tru T j :=
  tru_congr (congrFun (addT_k (by decide) (by decide) (by decide) (by decide) (by decide) (by decide)) _) (congrFun (addT_k (by decide) (by decide) (by decide) (by decide) (by decide) (by decide)) _) (addT_i (by decide) (hcd j hj))
theorem addT_rr (h : cInv G T L C ad) {t df : Nat} : cRr (addT T t df) := by
  intro i hi
  rw [addT_D] at hi
  have hcd : ∀ j, j < nC T → T 5 j ≠ nD T := fun j hj => Nat.ne_of_lt (h.odie hj)
  have hr : rar (addT T t df) i = rar T i := by
    unfold rar
    rw [addT_C]
    refine cntB_congr fun j hj => ?_
    unfold rarAt
    rw [addT_tru hcd hj, addT_k (a := 5) (by decide) (by decide) (by decide) (by decide) (by decide) (by decide)]
  rw [hr]
  by_cases q : i = nD T
  · rw [q, addT_20]
    refine (cntB_0 fun j hj => ?_).symm
    unfold rarAt
    rw [decide_eq_false (hcd j hj)]
    rfl
  · rw [addT_i (by decide) q]
    exact h.2 i (by omega)
theorem addT_ho (h : cInvW G T L C ad) (hD : nD T < 16) {t df : Nat} {m1 m2 : Int32} : cHo (addT T t df) (lUp (lUp L 11 (nD T) [] 0 m1) 10 0 (L.1 10 0 ++ [nD T]) (lCap (L.1 10 0).length (L.2.1 10 0)) m2) := by
  obtain ⟨a1, a2, a3, a4, a5, a6, a7, a8⟩ := h.2.2.2
  have n1 : ∀ {a b : Nat} {ys : List Nat} {c2 : Nat}, a ≠ 10 → ¬ (a = 11 ∧ b = nD T) → (lUp (lUp L 11 (nD T) [] 0 m1) 10 0 ys c2 m2).1 a b = L.1 a b ∧ (lUp (lUp L 11 (nD T) [] 0 m1) 10 0 ys c2 m2).2.1 a b = L.2.1 a b := fun h1 h2 => ⟨(lUp_n1 (fun z => h1 z.1)).trans (lUp_n1 h2), (lUp_n2 (fun z => h1 z.1)).trans (lUp_n2 h2)⟩
  have hsh := h.dies.2.2.1
  unfold cHo
  rw [addT_D, addT_S, addT_C, addT_k (a := 5) (by decide) (by decide) (by decide) (by decide) (by decide) (by decide), addT_k (a := 8) (by decide) (by decide) (by decide) (by decide) (by decide) (by decide), addT_k (a := 12) (by decide) (by decide) (by decide) (by decide) (by decide) (by decide), addT_k (a := 13) (by decide) (by decide) (by decide) (by decide) (by decide) (by decide)]
  refine ⟨?_, ?_, ?_, fun i hi => ?_, fun k hk => ?_, fun k hk => ?_, fun q hq => ?_, fun q hq => ?_⟩
  · rw [lUp_e1, lUp_e2]
    exact ⟨by rw [a1.1, List.range_succ], capB_add a1.2 (by rw [h.ldies]; exact hD) hsh⟩
  · rw [(n1 (by decide) (fun z => absurd z.1 (by decide))).1, (n1 (by decide) (fun z => absurd z.1 (by decide))).2]
    exact a2
  · rw [(n1 (by decide) (fun z => absurd z.1 (by decide))).1, (n1 (by decide) (fun z => absurd z.1 (by decide))).2]
    exact a3
  · by_cases e : i = nD T
    · rw [e, show (lUp (lUp L 11 (nD T) [] 0 m1) 10 0 (L.1 10 0 ++ [nD T]) (lCap (L.1 10 0).length (L.2.1 10 0)) m2).1 11 (nD T) = [] from (lUp_n1 (fun z => absurd z.1 (by decide))).trans lUp_e1, show (lUp (lUp L 11 (nD T) [] 0 m1) 10 0 (L.1 10 0 ++ [nD T]) (lCap (L.1 10 0).length (L.2.1 10 0)) m2).2.1 11 (nD T) = 0 from (lUp_n2 (fun z => absurd z.1 (by decide))).trans lUp_e2]
      refine ⟨?_, by decide, Or.inl rfl⟩
      refine (List.filter_eq_nil_iff.mpr fun j hj => ?_).symm
      rw [decide_eq_false (Nat.ne_of_lt (h.odie (List.mem_range.mp hj)))]
      exact Bool.false_ne_true
    · rw [(n1 (by decide) (fun z => e z.2)).1, (n1 (by decide) (fun z => e z.2)).2]
      exact a4 i (by omega)
  · rw [(n1 (by decide) (fun z => absurd z.1 (by decide))).1, (n1 (by decide) (fun z => absurd z.1 (by decide))).2]
    exact a5 k hk
  · rw [(n1 (by decide) (fun z => absurd z.1 (by decide))).1, (n1 (by decide) (fun z => absurd z.1 (by decide))).2]
    exact a6 k hk
  · rw [(n1 (by decide) (fun z => absurd z.1 (by decide))).1, (n1 (by decide) (fun z => absurd z.1 (by decide))).2, (n1 (by decide) (fun z => absurd z.1 (by decide))).1, (n1 (by decide) (fun z => absurd z.1 (by decide))).2]
    exact a7 q hq
  · rw [(n1 (by decide) (fun z => absurd z.1 (by decide))).1, (n1 (by decide) (fun z => absurd z.1 (by decide))).1]
    exact a8 q hq
end AD

set_option maxHeartbeats 4000000 in
set_option maxRecDepth 100000 in
theorem c_X2_init {G : rG} {l : Launch} {C : rC} {ad : rA} {d : Nat} {v0 v1 v2 v3 v4 v5 v6 : Value} {n df : Int32} {t : Nat} (ht4 : t < 4) (hd : C 1 d = some (.inr (3, [v0, v1, v2, v3, v4, v5, v6]))) (hn : C 11 d = none) : rMet G l yX2_init cX2_init 4 none (rmM 5 1 3) [.ref (ad 1 d), .int n, .int (nI t), .int df] C ad (rVoid fun C' ad' => ru (ru C 11 d (some (alO (nI 0) G.2.2 0))) 1 d (some (.inr (3, [.int n, .int (nI t), .int (nI (valOf t)), .int df, v4, v5, .ref (ad' 11 d)]))) = C' ∧ ∃ q, ad' = ru ad 11 d q) := by
  refine rMet.of (by decide) ?_
  intro p e s m below meth c hx hb hml hr hlocks hown hname hK hZ hS
  have hown : s.vm.findClass RX2 = some m.cls := hown
  have hA : ∀ q : Nat, s.heap.size ≤ q → (rF C ad s.heap.size) q := rF.new
  refine r_entry _ (Nat.le_of_ble_eq_true rfl) (fun ls hl => ?_)
  have hl : lv_has ls 4 [(0, .ref (ad 1 d)), (1, .int n), (2, .int (nI t)), (3, .int df)] := hl
  refine lv_aload_n hx hb dX2_init_0 rfl (lv_at hl 0 rfl) ?_
  refine oi_X2_3 hx hb hown hK (by rw [hml]; exact hl.1) dX2_init_1 (Nat.le_of_ble_eq_true rfl) (Nat.le_of_ble_eq_true rfl) ?_
  refine lv_aload_n hx hb dX2_init_4 rfl (lv_at hl 0 rfl) ?_
  refine nw_X2_9 hx hb hown hK hS hA 11 d hn (Nat.le_of_ble_eq_true rfl) (Nat.le_of_ble_eq_true rfl) dX2_init_5 (fun q3 H hS => ?_)
  obtain ⟨ad3, had3⟩ : ∃ z, z = ru ad 11 d q3 := ⟨_, rfl⟩
  rw [← had3] at hS
  have ead30 : ad 1 d = ad3 1 d := by rw [had3]; exact (ru_n (fun z => absurd z.1 (by decide))).symm
  try rw [ead30] at hl
  try rw [ead30]
  have qad3 : q3 = ad3 11 d := by rw [had3, ru_e]
  try rw [qad3]
  refine lv_dup hx hb dX2_init_8 rfl ?_
  refine cl_X2_11 hx hb hml hown hK hZ hS hA (c_Jx4a65c_init_da8c8 ru_e) rfl hl.1 (Nat.le_of_ble_eq_true rfl) ⟨Nat.le_of_ble_eq_true rfl, Nat.le_of_ble_eq_true rfl⟩ ⟨Nat.le_of_ble_eq_true rfl, Nat.le_of_ble_eq_true rfl⟩ rfl dX2_init_9 (r_kv (fun C' ad' H locs hQ hS => ?_))
  obtain ⟨rfl, rfl⟩ := hQ
  rw [ru_ru] at hS
  refine pf_X2_12 hx hb hown hK hS hname ((ru_k (by decide)).trans hd) rfl rfl (fs' := [v0, v1, v2, v3, v4, v5, .ref (ad3 11 d)]) (Nat.le_of_ble_eq_true rfl) rfl dX2_init_12 (fun H locs hS => ?_)
  refine lv_aload_n hx hb dX2_init_15 rfl (lv_at hl 0 rfl) ?_
  refine lv_iload_n hx hb dX2_init_16 rfl (lv_at hl 1 rfl) ?_
  refine pf_X2_18 hx hb hown hK hS hname ru_e rfl rfl (fs' := [.int n, v1, v2, v3, v4, v5, .ref (ad3 11 d)]) (Nat.le_of_ble_eq_true rfl) rfl dX2_init_17 (fun H locs hS => ?_)
  rw [ru_ru] at hS
  refine lv_aload_n hx hb dX2_init_20 rfl (lv_at hl 0 rfl) ?_
  refine lv_iload_n hx hb dX2_init_21 rfl (lv_at hl 2 rfl) ?_
  refine pf_X2_22 hx hb hown hK hS hname ru_e rfl rfl (fs' := [.int n, .int (nI t), v2, v3, v4, v5, .ref (ad3 11 d)]) (Nat.le_of_ble_eq_true rfl) rfl dX2_init_22 (fun H locs hS => ?_)
  rw [ru_ru] at hS
  refine lv_aload_n hx hb dX2_init_25 rfl (lv_at hl 0 rfl) ?_
  refine lv_iload_n hx hb dX2_init_26 rfl (lv_at hl 2 rfl) ?_
  refine cl_X2_25 hx hb hml hown hK hZ hS hA (c_X2_valueOf ht4) rfl hl.1 (Nat.le_of_ble_eq_true rfl) ⟨Nat.le_of_ble_eq_true rfl, Nat.le_of_ble_eq_true rfl⟩ ⟨Nat.le_of_ble_eq_true rfl, Nat.le_of_ble_eq_true rfl⟩ rfl dX2_init_27 (r_kp (fun H locs hS => ?_))
  refine pf_X2_29 hx hb hown hK hS hname ru_e rfl rfl (fs' := [.int n, .int (nI t), .int (nI (valOf t)), v3, v4, v5, .ref (ad3 11 d)]) (Nat.le_of_ble_eq_true rfl) rfl dX2_init_30 (fun H locs hS => ?_)
  rw [ru_ru] at hS
  refine lv_aload_n hx hb dX2_init_33 rfl (lv_at hl 0 rfl) ?_
  refine lv_iload_n hx hb dX2_init_34 rfl (lv_at hl 3 rfl) ?_
  refine pf_X2_32 hx hb hown hK hS ru_e rfl rfl (fs' := [.int n, .int (nI t), .int (nI (valOf t)), .int df, v4, v5, .ref (ad3 11 d)]) (Nat.le_of_ble_eq_true rfl) rfl dX2_init_35 (fun H locs hS => ?_)
  rw [ru_ru] at hS
  exact r_vret hx hb hr hlocks hS (⟨rfl, rfl, _, had3⟩) (Nat.le_of_ble_eq_true rfl) (Nat.le_of_ble_eq_true rfl) dX2_init_38

set_option maxHeartbeats 4000000 in
set_option maxRecDepth 100000 in
theorem c_X4_newDie {G : rG} {l : Launch} {T : rTab} {L : rL} {C : rC} {ad : rA} (hlt : l.stackTraces = false) (hI : cInv G T L C ad) {t df : Nat} (ht : t < 4) (hdf : df < 65536) : rMetX G l yX4_newDie cX4_newDie 4 (some .int) (rmM 10 3 50) [.ref (ad 0 0), .int (nI t), .int (nI df)] C ad (pM G C ad (sNew T t df)) (xM G C ad (sNew T t df) ec2) := by
  refine rMetX.of (by decide) ?_
  intro p e s m below meth c hx hb hml hr hlocks hown hname hK hZ hS hex
  have hown : s.vm.findClass RX4 = some m.cls := hown
  have hA : ∀ q : Nat, s.heap.size ≤ q → (rF C ad s.heap.size) q := rF.new
  refine r_entry _ (Nat.le_of_ble_eq_true rfl) (fun ls hl => ?_)
  have hl : lv_has ls 4 [(0, .ref (ad 0 0)), (1, .int (nI t)), (2, .int (nI df))] := hl
  have hD := hI.hD
  refine lv_aload_n hx hb dX4_newDie_0 rfl (lv_at hl 0 rfl) ?_
  refine gf_X4_10 hx hb hown hK hS hI.reg rfl dX4_newDie_1 ?_
  refine cl_X4_81 hx hb hml hown hK hZ hS hA (l_size (hI.dies)) ((hI.dies).1) rfl hl.1 (Nat.le_of_ble_eq_true rfl) ⟨Nat.le_of_ble_eq_true rfl, Nat.le_of_ble_eq_true rfl⟩ ⟨Nat.le_of_ble_eq_true rfl, Nat.le_of_ble_eq_true rfl⟩ rfl dX4_newDie_4 (r_kp (fun H locs hS => ?_))
  refine r_top (y := nI (nD T)) (by rw [hI.ldies]) ?_
  refine lv_istore_n (lv' := [(3, .int (nI (nD T))), (0, .ref (ad 0 0)), (1, .int (nI t)), (2, .int (nI df))]) hx hb dX4_newDie_7 rfl hl (by decide) rfl (fun ls hl => ?_)
  refine lv_iload_n hx hb dX4_newDie_8 rfl (lv_at hl 0 rfl) ?_
  refine lv_bipush (v := nI 16) hx hb dX4_newDie_9 (by decide) ?_
  refine r_icmp_lt (a := nD T) (b := 16) (tgt := 24) hx hb (by omega) (by omega) dX4_newDie_11 (by decide) (fun q11 => ?_) (fun q11 => ?_)
  · -- T
    refine lv_aload_n hx hb dX4_newDie_24 rfl (lv_at hl 1 rfl) ?_
    refine gf_X4_10 hx hb hown hK hS hI.reg rfl dX4_newDie_25 ?_
    refine nw_X4_59 hx hb hown hK hS hA 1 (nD T) (by rw [hI.1.1.2.2.2.1, if_neg (Nat.lt_irrefl _)]) (Nat.le_of_ble_eq_true rfl) (Nat.le_of_ble_eq_true rfl) dX4_newDie_28 (fun q3 H hS => ?_)
    obtain ⟨ad3, had3⟩ : ∃ z, z = ru ad 1 (nD T) q3 := ⟨_, rfl⟩
    rw [← had3] at hS
    have ead30 : ad 0 0 = ad3 0 0 := by rw [had3]; exact (ru_n (fun z => absurd z.1 (by decide))).symm
    try rw [ead30] at hl
    try rw [ead30]
    have ead31 : ad 10 0 = ad3 10 0 := by rw [had3]; exact (ru_n (fun z => absurd z.1 (by decide))).symm
    try rw [ead31] at hl
    try rw [ead31]
    have qad3 : q3 = ad3 1 (nD T) := by rw [had3, ru_e]
    try rw [qad3]
    refine lv_dup hx hb dX4_newDie_31 rfl ?_
    refine lv_iload_n hx hb dX4_newDie_32 rfl (lv_at hl 0 rfl) ?_
    refine lv_iload_n hx hb dX4_newDie_33 rfl (lv_at hl 2 rfl) ?_
    refine lv_iload_n hx hb dX4_newDie_34 rfl (lv_at hl 3 rfl) ?_
    refine cl_X4_224 hx hb hml hown hK hZ hS hA (c_X2_init ht ru_e ((ru_k (by decide)).trans (hI.1.2.1.2.2.2.2.2.2.1 (nD T) (Nat.le_refl _)).1)) rfl hl.1 (Nat.le_of_ble_eq_true rfl) ⟨Nat.le_of_ble_eq_true rfl, Nat.le_of_ble_eq_true rfl⟩ ⟨Nat.le_of_ble_eq_true rfl, Nat.le_of_ble_eq_true rfl⟩ rfl dX4_newDie_35 (r_kv (fun C' ad' H locs hQ hS => ?_))
    obtain ⟨rfl, q4, hq4⟩ := hQ
    rw [ru_cm (fun z => absurd z.1 (by decide)), ru_ru, ru_cm (fun z => absurd z.1 (by decide))] at hS
    have hda : ad' = dieA ad (nD T) q3 q4 := by rw [hq4, had3]; rfl
    have hob : cOb G (addT T t df) (dieC G C (nD T) (nI t) (nI (valOf t)) (nI df) (ad' 11 (nD T))) ad' := by rw [hda]; exact hI.1.1.dieN (fun j hj => Nat.ne_of_lt (hI.odie hj))
    have hls : cLs G (addT T t df) (lUp L 11 (nD T) [] 0 (nI 0)) (dieC G C (nD T) (nI t) (nI (valOf t)) (nI df) (ad' 11 (nD T))) ad' := by rw [hda]; exact cLs.dieN hI.1
    have hF3 : cFr C ad (dieC G C (nD T) (nI t) (nI (valOf t)) (nI df) (ad' 11 (nD T))) ad' := by rw [hda]; exact ⟨fun a b ha => ⟨dieC_k (by omega) (by omega) b, congrFun (dieA_k (by omega) (by omega)) b⟩, congrFun (dieA_k (by decide) (by decide)) 0⟩
    obtain ⟨C4, hC4⟩ : ∃ z, z = (dieC G C (nD T) (nI t) (nI (valOf t)) (nI df) (ad' 11 (nD T))) := ⟨_, rfl⟩
    have hS : rS G.1 (rF C ad s.heap.size) s.heap C4 ad' H locs := by rw [hC4]; exact hS
    rw [← hC4] at hob hls hF3
    have e70 : ad3 0 0 = ad' 0 0 := by rw [hq4]; exact (ru_k (by decide)).symm
    try rw [e70] at hl
    try rw [e70]
    have e71 : ad3 1 (nD T) = ad' 1 (nD T) := by rw [hq4]; exact (ru_k (by decide)).symm
    try rw [e71] at hl
    try rw [e71]
    have e72 : ad3 10 0 = ad' 10 0 := by rw [hq4]; exact (ru_k (by decide)).symm
    try rw [e72] at hl
    try rw [e72]
    refine cl_X4_93 hx hb hml hown hK hZ hS hA (add_gen hob hls (Or.inl ⟨rfl, rfl, rfl⟩) hls.1 (M := 16) (y := nD T) ((hob.2.2.2.1 (nD T)).trans (if_pos (by rw [addT_D]; exact Nat.lt_succ_self _))) rCa_X2 (by decide) (fun x hx => ⟨_, (hob.2.2.2.1 x).trans (if_pos (by rw [lUp_n1 (fun z => absurd z.1 (by decide)), hI.hdies] at hx; rw [addT_D]; exact Nat.lt_succ_of_lt (List.mem_range.mp hx)))⟩) (by decide) (by rw [lUp_n2 (fun z => absurd z.1 (by decide))]; exact hI.1.2.2.2.1.2) (by rw [lUp_n1 (fun z => absurd z.1 (by decide)), hI.ldies]; exact q11)) hls.1.1 rfl hl.1 (Nat.le_of_ble_eq_true rfl) ⟨Nat.le_of_ble_eq_true rfl, Nat.le_of_ble_eq_true rfl⟩ ⟨Nat.le_of_ble_eq_true rfl, Nat.le_of_ble_eq_true rfl⟩ rfl dX4_newDie_38 (r_kr (fun r C5 ad5 H locs hQ hS => ?_))
    obtain ⟨rfl, m1, hob2, hls2, hch2, hF5, hE5⟩ := hQ
    have ead50 : ad' 0 0 = ad5 0 0 := (congrFun (hE5 0 (by decide)) 0).symm
    try rw [ead50] at hl
    try rw [ead50]
    rw [lUp_n1 (fun z => absurd z.1 (by decide)), lUp_n2 (fun z => absurd z.1 (by decide))] at hls2
    refine lv_pop hx hb dX4_newDie_41 rfl ?_
    refine lv_iload_n hx hb dX4_newDie_42 rfl (lv_at hl 0 rfl) ?_
    refine vx_ret ?_
    exact r_iret hx hb hr hlocks hS (pM.mk (if_pos q11) ⟨⟨hob2, hls2, addT_nu hI.1.2.2.1 ht hdf q11, addT_ho hI.1 q11⟩, addT_rr hI⟩ (hF3.tr hF5)) (Nat.le_of_ble_eq_true rfl) (Nat.le_of_ble_eq_true rfl) dX4_newDie_43
  · -- F
    exact th_X4_68_222 hx hb hlt hown hK hZ hS (by rw [hml]; exact hl.1) dX4_newDie_14 dX4_newDie_17 dX4_newDie_18 dX4_newDie_20 dX4_newDie_23 hex (Nat.le_of_ble_eq_true rfl) (Nat.le_of_ble_eq_true rfl) (Nat.le_of_ble_eq_true rfl) (Nat.le_of_ble_eq_true rfl) hlocks (xM.mk (n := 2) (if_neg (by omega)) (by decide) hI) (Nat.le_of_ble_eq_true rfl) (Nat.le_of_ble_eq_true rfl)

set_option maxHeartbeats 4000000 in
set_option maxRecDepth 100000 in
theorem c_X4_addDie {G : rG} {l : Launch} {T : rTab} {L : rL} {C : rC} {ad : rA} (hlt : l.stackTraces = false) (hI : cInv G T L C ad) (a : Int32) : rMetX G l yX4_addDie cX4_addDie 2 (some .int) (rmM 12 3 50) [.ref (ad 0 0), .int a] C ad (pM G C ad (sAddDie T a)) (xM G C ad (sAddDie T a) ec2) := by
  refine rMetX.of (by decide) ?_
  intro p e s m below meth c hx hb hml hr hlocks hown hname hK hZ hS hex
  have hown : s.vm.findClass RX4 = some m.cls := hown
  have hA : ∀ q : Nat, s.heap.size ≤ q → (rF C ad s.heap.size) q := rF.new
  refine r_entry _ (Nat.le_of_ble_eq_true rfl) (fun ls hl => ?_)
  have hl : lv_has ls 2 [(0, .ref (ad 0 0)), (1, .int a)] := hl
  refine lv_iload_n hx hb dX4_addDie_0 rfl (lv_at hl 1 rfl) ?_
  refine lv_if_lt (tgt := 9) hx hb dX4_addDie_1 (by decide) (fun q1 => ?_) (fun q1 => ?_)
  · -- T
    exact th_X4_38_40 hx hb hlt hown hK hZ hS (by rw [hml]; exact hl.1) dX4_addDie_9 dX4_addDie_12 dX4_addDie_13 dX4_addDie_15 dX4_addDie_18 hex (Nat.le_of_ble_eq_true rfl) (Nat.le_of_ble_eq_true rfl) (Nat.le_of_ble_eq_true rfl) (Nat.le_of_ble_eq_true rfl) hlocks (xM.mk (n := 1) (sAddDie_1 (ixO_neg q1)) (by decide) hI) (Nat.le_of_ble_eq_true rfl) (Nat.le_of_ble_eq_true rfl)
  · -- F
    refine lv_iload_n hx hb dX4_addDie_4 rfl (lv_at hl 1 rfl) ?_
    refine lv_iconst (v := nI 4) hx hb dX4_addDie_5 (by decide) ?_
    refine lv_icmp_lt (tgt := 19) hx hb dX4_addDie_6 (by decide) (fun q6 => ?_) (fun q6 => ?_)
    · -- T
      obtain ⟨t, ht, rfl, hix⟩ := ixO_some (n := 4) (by omega) q1 (fun z => Int32.not_le.mpr q6 z)
      have hs := sAddDie_0 (T := T) hix
      refine lv_aload_n hx hb dX4_addDie_19 rfl (lv_at hl 0 rfl) ?_
      refine lv_iload_n hx hb dX4_addDie_20 rfl (lv_at hl 1 rfl) ?_
      refine lv_iconst (v := nI 0) hx hb dX4_addDie_21 (by decide) ?_
      refine cl_X4_45 hx hb hml hown hK hZ hS hA (c_X4_newDie hlt hI ht (df := 0) (by decide)) hI.reg rfl hl.1 (Nat.le_of_ble_eq_true rfl) ⟨Nat.le_of_ble_eq_true rfl, Nat.le_of_ble_eq_true rfl⟩ ⟨Nat.le_of_ble_eq_true rfl, Nat.le_of_ble_eq_true rfl⟩ rfl dX4_addDie_22 ?_ (r_kr (fun r C5 ad5 H locs hQ hS => ?_))
      · -- thrown
        intro E ce q9 C9 ad9 H locs hX9 hS hce hcv hcl
        exact r_out hex hlocks hS hce hcv hcl (by rw [hs]; exact hX9) (Nat.le_of_ble_eq_true rfl) (Nat.le_of_ble_eq_true rfl)
      obtain ⟨⟨h0, rfl⟩, L9, hI9, hF9⟩ := hQ
      refine vx_ret ?_
      exact r_iret hx hb hr hlocks hS (by rw [hs]; exact ⟨_, rfl, ⟨h0, rfl⟩, L9, hI9, hF9⟩) (Nat.le_of_ble_eq_true rfl) (Nat.le_of_ble_eq_true rfl) dX4_addDie_25
    · -- F
      exact th_X4_38_40 hx hb hlt hown hK hZ hS (by rw [hml]; exact hl.1) dX4_addDie_9 dX4_addDie_12 dX4_addDie_13 dX4_addDie_15 dX4_addDie_18 hex (Nat.le_of_ble_eq_true rfl) (Nat.le_of_ble_eq_true rfl) (Nat.le_of_ble_eq_true rfl) (Nat.le_of_ble_eq_true rfl) hlocks (xM.mk (n := 1) (sAddDie_1 (ixO_big (n := 4) (by omega) (Int32.not_lt.mp q6))) (by decide) hI) (Nat.le_of_ble_eq_true rfl) (Nat.le_of_ble_eq_true rfl)

set_option maxHeartbeats 4000000 in
set_option maxRecDepth 100000 in
theorem c_X4_cast {G : rG} {l : Launch} {T : rTab} {L : rL} {C : rC} {ad : rA} (hlt : l.stackTraces = false) (hI : cInv G T L C ad) (a : Int32) : rMetX G l yX4_cast cX4_cast 3 (some .int) (rmM 12 4 56) [.ref (ad 0 0), .int a] C ad (pM G C ad (sCast T a)) (xM G C ad (sCast T a) ec2) := by
  refine rMetX.of (by decide) ?_
  intro p e s m below meth c hx hb hml hr hlocks hown hname hK hZ hS hex
  have hown : s.vm.findClass RX4 = some m.cls := hown
  have hA : ∀ q : Nat, s.heap.size ≤ q → (rF C ad s.heap.size) q := rF.new
  refine r_entry _ (Nat.le_of_ble_eq_true rfl) (fun ls hl => ?_)
  have hl : lv_has ls 3 [(0, .ref (ad 0 0)), (1, .int a)] := hl
  refine lv_aload_n hx hb dX4_cast_0 rfl (lv_at hl 0 rfl) ?_
  refine lv_iload_n hx hb dX4_cast_1 rfl (lv_at hl 1 rfl) ?_
  refine cl_X4_100 hx hb hml hown hK hZ hS hA (c_X4_theCoin hlt hI a) hI.reg rfl hl.1 (Nat.le_of_ble_eq_true rfl) ⟨Nat.le_of_ble_eq_true rfl, Nat.le_of_ble_eq_true rfl⟩ ⟨Nat.le_of_ble_eq_true rfl, Nat.le_of_ble_eq_true rfl⟩ rfl dX4_cast_2 ?_ (r_kr (fun r C' ad' H locs hQ hS => ?_))
  · -- thrown
    intro E ce q9 C9 ad9 H locs hX9 hS hce hcv hcl
    obtain ⟨⟨rfl, hno⟩, rfl, rfl⟩ := hX9
    exact r_out hex hlocks hS hce hcv hcl (xM.mk (n := 1) (sCast_1 hno) (by decide) hI) (Nat.le_of_ble_eq_true rfl) (Nat.le_of_ble_eq_true rfl)
  obtain ⟨⟨j, hixj, rfl⟩, rfl, rfl⟩ := hQ
  have hj : j < (nC T) := ixO_lt hixj
  have hjn := hI.cn hj
  have hdn := hI.dn (hI.odie hj)
  have hs0 := sCast_0 hixj
  refine lv_astore_n (lv' := [(2, .ref (ad 4 j)), (0, .ref (ad 0 0)), (1, .int a)]) hx hb dX4_cast_5 rfl hl (by decide) rfl (fun ls hl => ?_)
  refine lv_aload_n hx hb dX4_cast_6 rfl (lv_at hl 0 rfl) ?_
  refine gf_X4_104 hx hb hown hK hS (hI.coin hj) rfl dX4_cast_7 ?_
  refine r_if_eq (a := T 7 j) (tgt := 23) hx hb (by omega) dX4_cast_10 (by decide) (fun q10 => ?_) (fun q10 => ?_)
  · -- T
    have hs := hs0.trans (if_neg (fun z => by omega))
    refine lv_aload_n hx hb dX4_cast_23 rfl (lv_at hl 1 rfl) ?_
    refine lv_aload_n hx hb dX4_cast_24 rfl (lv_at hl 0 rfl) ?_
    refine gf_X4_109 hx hb hown hK hS (hI.coin hj) rfl dX4_cast_25 ?_
    refine gf_X4_113 hx hb hown hK hS (hI.die (hI.odie hj)) rfl dX4_cast_28 ?_
    refine lv_aload_n hx hb dX4_cast_31 rfl (lv_at hl 0 rfl) ?_
    refine gf_X4_116 hx hb hown hK hS (hI.coin hj) rfl dX4_cast_32 ?_
    refine cl_X4_45 hx hb hml hown hK hZ hS hA (c_X4_newDie hlt hI hdn.1 hjn.2.1) hI.reg rfl hl.1 (Nat.le_of_ble_eq_true rfl) ⟨Nat.le_of_ble_eq_true rfl, Nat.le_of_ble_eq_true rfl⟩ ⟨Nat.le_of_ble_eq_true rfl, Nat.le_of_ble_eq_true rfl⟩ rfl dX4_cast_35 ?_ (r_kr (fun r C5 ad5 H locs hQ hS => ?_))
    · -- thrown
      intro E ce q9 C9 ad9 H locs hX9 hS hce hcv hcl
      exact r_out hex hlocks hS hce hcv hcl (by rw [hs]; exact hX9) (Nat.le_of_ble_eq_true rfl) (Nat.le_of_ble_eq_true rfl)
    obtain ⟨⟨h0, rfl⟩, L9, hI9, hF9⟩ := hQ
    refine vx_ret ?_
    exact r_iret hx hb hr hlocks hS (by rw [hs]; exact ⟨_, rfl, ⟨h0, rfl⟩, L9, hI9, hF9⟩) (Nat.le_of_ble_eq_true rfl) (Nat.le_of_ble_eq_true rfl) dX4_cast_38
  · -- F
    have hs := hs0.trans (if_pos (by omega))
    exact th_X4_68_107 hx hb hlt hown hK hZ hS (by rw [hml]; exact hl.1) dX4_cast_13 dX4_cast_16 dX4_cast_17 dX4_cast_19 dX4_cast_22 hex (Nat.le_of_ble_eq_true rfl) (Nat.le_of_ble_eq_true rfl) (Nat.le_of_ble_eq_true rfl) (Nat.le_of_ble_eq_true rfl) hlocks (xM.mk (n := 2) hs (by decide) hI) (Nat.le_of_ble_eq_true rfl) (Nat.le_of_ble_eq_true rfl)
