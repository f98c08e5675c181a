/-! how the invariant goes on when lists are written and objects are made -/
def lOk (T : rTab) (k i ek : Nat) : Prop := (k = 10 ∧ i = 0 ∧ ek = 1) ∨ (k = 12 ∧ i = 0 ∧ ek = 4) ∨ (k = 13 ∧ i = 0 ∧ ek = 6) ∨ (k = 11 ∧ i < nD T ∧ ek = 4) ∨ ((k = 14 ∨ k = 15) ∧ i < 8 ∧ ek = 4) ∨ (k = 16 ∧ i ≤ nS T ∧ ek = 5) ∨ (k = 17 ∧ i ≤ nS T ∧ ek = 4)
section GW
variable {G : rG} {T T' : rTab} {L : rL} {C C' : rC} {ad ad' : rA}
theorem lCh.lo {k i a b : Nat} (h : lCh k i C ad C' ad') (hk : 10 ≤ k) (ha : a < 10) : C' a b = C a b := h.1 a b (fun z => by omega) (fun z => by omega)
theorem lCh.ade {k i a : Nat} (h : lCh k i C ad C' ad') (hk : 10 ≤ k) (ha : a < 20) : ad' a = ad a := funext fun b => h.2 a b (fun z => by omega)
theorem cOb.lst {k i : Nat} (h : cOb G T C ad) (hc : lCh k i C ad C' ad') (hk : 10 ≤ k) : cOb G T C' ad' := by
  have e : ∀ a, a < 20 → ad' a = ad a := fun a ha => hc.ade hk ha
  obtain ⟨a1, a2, a3, a4, a5, a6, a7⟩ := h
  refine ⟨?_, ?_, ?_, fun i => ?_, fun j => ?_, fun q hq => ?_, fun q => ?_⟩
  · rw [hc.lo hk (by decide), a1]
    unfold reO
    rw [e 10 (by decide), e 12 (by decide), e 7 (by decide), e 13 (by decide), e 6 (by decide)]
  · rw [hc.lo hk (by decide), a2]
    unfold caO
    rw [e 5 (by decide)]
  · rw [hc.lo hk (by decide), a3]
  · rw [hc.lo hk (by decide), a4]
    unfold diO
    rw [e 11 (by decide)]
  · rw [hc.lo hk (by decide), a5]
    unfold coO
    rw [e 1 (by decide), e 5 (by decide)]
  · rw [hc.lo hk (by decide), a6 q hq]
    unfold clO
    rw [e 14 (by decide), e 15 (by decide)]
  · rw [hc.lo hk (by decide), a7]
    unfold rgO
    rw [e 16 (by decide), e 17 (by decide)]
theorem cLs.lst {k i ek cap : Nat} {xs : List Nat} {mc : Int32} (h : cLs G T L C ad) (hok : lOk T k i ek) (hc : lCh k i C ad C' ad') (hn : lSh G (lUp L k i xs cap mc) C' ad' k i ek) : cLs G T (lUp L k i xs cap mc) C' ad' := by
  obtain ⟨a1, a2, a3, a4, a5, a6, a7, a8⟩ := h
  have hk : 10 ≤ k ∧ k < 18 := by
    unfold lOk at hok
    omega
  have key : ∀ {a b e2 : Nat}, 10 ≤ a → a < 18 → e2 < 10 → (a = k → b = i → e2 = ek) → lSh G L C ad a b e2 → lSh G (lUp L k i xs cap mc) C' ad' a b e2 := by
    intro a b e2 h1 h2 h3 h4 h
    by_cases q : a = k ∧ b = i
    · obtain ⟨rfl, rfl⟩ := q
      rw [h4 rfl rfl]
      exact hn
    · exact h.keepU hc q (fun z => by omega) (fun z => by omega) (by omega)
  unfold lOk at hok
  refine ⟨key (by omega) (by omega) (by omega) (fun _ _ => by omega) a1, key (by omega) (by omega) (by omega) (fun _ _ => by omega) a2, key (by omega) (by omega) (by omega) (fun _ _ => by omega) a3, fun b hb => key (by omega) (by omega) (by omega) (fun _ _ => by omega) (a4 b hb), fun b hb => ⟨key (by omega) (by omega) (by omega) (fun _ _ => by omega) (a5 b hb).1, key (by omega) (by omega) (by omega) (fun _ _ => by omega) (a5 b hb).2⟩, fun b hb => ⟨key (by omega) (by omega) (by omega) (fun _ _ => by omega) (a6 b hb).1, key (by omega) (by omega) (by omega) (fun _ _ => by omega) (a6 b hb).2⟩, fun b hb => ?_, fun b hb => ?_⟩
  · rw [hc.1 11 b (fun z => by omega) (fun z => by omega), hc.1 21 b (fun z => by omega) (fun z => by omega)]
    exact a7 b hb
  · rw [hc.1 16 b (fun z => by omega) (fun z => by omega), hc.1 26 b (fun z => by omega) (fun z => by omega), hc.1 17 b (fun z => by omega) (fun z => by omega), hc.1 27 b (fun z => by omega) (fun z => by omega)]
    exact a8 b hb
theorem cFr.lst {k i : Nat} (hc : lCh k i C ad C' ad') (hk : k < 20) : cFr C ad C' ad' := ⟨fun a b ha => ⟨hc.1 a b (fun z => by omega) (fun z => by omega), hc.2 a b (fun z => by omega)⟩, hc.2 0 0 (fun z => by omega)⟩
/-- a coin is made: the role of its number was free -/
def coinT (T : rTab) (d : Nat) : rTab := ru (ru (ru (ru (ru (ru (ru T 5 (nC T) d) 6 (nC T) (T 2 d)) 7 (nC T) 0) 8 (nC T) 0) 9 (nC T) 0) 21 (nC T) 0) 0 1 (nC T + 1)
theorem coinT_k {d a : Nat} (h0 : a ≠ 0) (h5 : a ≠ 5) (h6 : a ≠ 6) (h7 : a ≠ 7) (h8 : a ≠ 8) (h9 : a ≠ 9) (h21 : a ≠ 21) : coinT T d a = T a := by
  unfold coinT
  rw [ruK h0, ruK h21, ruK h9, ruK h8, ruK h7, ruK h6, ruK h5]
theorem coinT_i {d a j : Nat} (h0 : a ≠ 0) (h : j ≠ nC T) : coinT T d a j = T a j := by
  unfold coinT
  rw [ru_k h0, ru_i h, ru_i h, ru_i h, ru_i h, ru_i h, ru_i h]
theorem coinT_D {d : Nat} : nD (coinT T d) = nD T := by
  unfold nD coinT
  rw [ru_i (by decide)]
  rw [ru_k (by decide), ru_k (by decide), ru_k (by decide), ru_k (by decide), ru_k (by decide), ru_k (by decide)]
theorem coinT_S {d : Nat} : nS (coinT T d) = nS T := by
  unfold nS coinT
  rw [ru_i (by decide)]
  rw [ru_k (by decide), ru_k (by decide), ru_k (by decide), ru_k (by decide), ru_k (by decide), ru_k (by decide)]
theorem coinT_C {d : Nat} : nC (coinT T d) = nC T + 1 := ru_e
theorem coinT_5 {d : Nat} : coinT T d 5 (nC T) = d := by
  unfold coinT
  rw [ru_k (by decide), ru_k (by decide), ru_k (by decide), ru_k (by decide), ru_k (by decide), ru_k (by decide), ru_e]
theorem coinT_6 {d : Nat} : coinT T d 6 (nC T) = T 2 d := by
  unfold coinT
  rw [ru_k (by decide), ru_k (by decide), ru_k (by decide), ru_k (by decide), ru_k (by decide), ru_e]
theorem coinT_7 {d : Nat} : coinT T d 7 (nC T) = 0 := by
  unfold coinT
  rw [ru_k (by decide), ru_k (by decide), ru_k (by decide), ru_k (by decide), ru_e]
theorem coinT_8 {d : Nat} : coinT T d 8 (nC T) = 0 := by
  unfold coinT
  rw [ru_k (by decide), ru_k (by decide), ru_k (by decide), ru_e]
theorem coinT_9 {d : Nat} : coinT T d 9 (nC T) = 0 := by
  unfold coinT
  rw [ru_k (by decide), ru_k (by decide), ru_e]
theorem coinT_21 {d : Nat} : coinT T d 21 (nC T) = 0 := by
  unfold coinT
  rw [ru_k (by decide), ru_e]
theorem cOb.coinN (h : cOb G T C ad) {d q : Nat} : cOb G (coinT T d) (ru C 4 (nC T) (some (.inr (1, [.int (nI (nC T)), .ref (ad 1 d), .int (nI (T 2 d)), .null, .int 0, .int 0])))) (ru ad 4 (nC T) q) := by
  obtain ⟨a1, a2, a3, a4, a5, a6, a7⟩ := h
  have e : ∀ a, a ≠ 4 → ru ad 4 (nC T) q a = ad a := fun a ha => funext fun b => ru_k ha
  have eC : ∀ a b, a ≠ 4 → ru C 4 (nC T) (some (.inr (1, [.int (nI (nC T)), .ref (ad 1 d), .int (nI (T 2 d)), .null, .int 0, .int 0]))) a b = C a b := fun a b ha => ru_k ha
  refine ⟨?_, ?_, ?_, fun i => ?_, fun j => ?_, fun q hq => ?_, fun q => ?_⟩
  · rw [eC _ _ (by decide), a1]
    unfold reO
    rw [e 10 (by decide), e 12 (by decide), e 7 (by decide), e 13 (by decide), e 6 (by decide), coinT_S]
  · rw [eC _ _ (by decide), a2]
    unfold caO
    rw [e 5 (by decide)]
  · rw [eC _ _ (by decide), a3]
  · rw [eC _ _ (by decide), a4, coinT_D]
    unfold diO
    rw [e 11 (by decide), coinT_k (by decide) (by decide) (by decide) (by decide) (by decide) (by decide) (by decide), coinT_k (by decide) (by decide) (by decide) (by decide) (by decide) (by decide) (by decide), coinT_k (by decide) (by decide) (by decide) (by decide) (by decide) (by decide) (by decide), coinT_k (by decide) (by decide) (by decide) (by decide) (by decide) (by decide) (by decide)]
  · rw [coinT_C]
    by_cases qj : j = nC T
    · rw [qj, ru_e, if_pos (Nat.lt_succ_self _)]
      unfold coO
      rw [e 1 (by decide), e 5 (by decide), coinT_5, coinT_6, coinT_7, coinT_8, coinT_21]
      rfl
    · rw [ru_i qj, a5]
      unfold coO
      rw [e 1 (by decide), e 5 (by decide), coinT_i (by decide) qj, coinT_i (by decide) qj, coinT_i (by decide) qj, coinT_i (by decide) qj, coinT_i (by decide) qj]
      by_cases g : j < nC T
      · have g2 : j < nC T + 1 := by omega
        simp only [if_pos g, if_pos g2]
      · have g2 : ¬ j < nC T + 1 := by omega
        simp only [if_neg g, if_neg g2]
  · rw [eC _ _ (by decide), a6 q hq]
    unfold clO
    rw [e 14 (by decide), e 15 (by decide), coinT_k (by decide) (by decide) (by decide) (by decide) (by decide) (by decide) (by decide), coinT_k (by decide) (by decide) (by decide) (by decide) (by decide) (by decide) (by decide)]
  · rw [eC _ _ (by decide), a7, coinT_S]
    unfold rgO
    rw [e 16 (by decide), e 17 (by decide)]
theorem lSh.ad4 {k i ek n q : Nat} {e : Option va_E} (h : lSh G L C ad k i ek) (hk : 10 ≤ k) (hf : ∀ j, j ∈ L.1 k i → ek = 4 → j ≠ n) : lSh G L (ru C 4 n e) (ru ad 4 n q) k i ek := by
  obtain ⟨g1, g2, g3, g4⟩ := h
  refine ⟨?_, ?_, g3, g4⟩
  · rw [ru_k (by omega), g1]
    unfold lAd
    rw [ru_k (by omega)]
  · rw [ru_k (by omega), g2]
    have : lFn L (ru ad 4 n q) k i ek = lFn L ad k i ek := by
      funext x
      unfold lFn
      cases hx : (L.1 k i)[x]? with
      | none => rfl
      | some y =>
        show some (ru ad 4 n q ek y) = some (ad ek y)
        rw [ru_n (fun z => hf y (List.mem_of_getElem? hx) z.1 z.2)]
    rw [this]
theorem cLs.coinN (h : cInvW G T L C ad) {d q : Nat} {e : Option va_E} : cLs G (coinT T d) L (ru C 4 (nC T) e) (ru ad 4 (nC T) q) := by
  obtain ⟨a1, a2, a3, a4, a5, a6, a7, a8⟩ := h.2.1
  have hD : nD (coinT T d) = nD T := coinT_D
  have hS : nS (coinT T d) = nS T := coinT_S
  unfold cLs
  rw [hD, hS]
  refine ⟨a1.ad4 (by decide) (fun _ _ z => by cases z), a2.ad4 (by decide) (fun j hj _ => ?_), a3.ad4 (by decide) (fun _ _ z => by cases z), fun b hb => (a4 b hb).ad4 (by decide) (fun j hj _ => ?_), fun b hb => ⟨(a5 b hb).1.ad4 (by decide) (fun j hj _ => ?_), (a5 b hb).2.ad4 (by decide) (fun j hj _ => ?_)⟩, fun b hb => ⟨(a6 b hb).1.ad4 (by decide) (fun _ _ z => by cases z), (a6 b hb).2.ad4 (by decide) (fun j hj _ => ?_)⟩, fun b hb => by rw [ru_k (by decide), ru_k (by decide)]; exact a7 b hb, fun b hb => by rw [ru_k (by decide), ru_k (by decide), ru_k (by decide), ru_k (by decide)]; exact a8 b hb⟩
  · rw [h.hcoins] at hj
    have := List.mem_range.mp hj
    omega
  · rw [(h.hdc hb).1] at hj
    have := (flt_mem.mp hj).1
    omega
  · have := (((h.how hb).2.1 j).mp hj).1
    omega
  · have := (h.hof hb).1 j hj
    omega
  · have := (h.hrg hb).2.1 j hj
    omega
end GW
