/-! an element is added to a list of the class -/
theorem capB_add {M n c : Nat} (h : capB M c) (hn : n < M) (hl : n ≤ c) : capB M (lCap n c) := by
  unfold capB at h ⊢
  unfold lCap
  split
  · omega
  · split <;> omega
theorem capB_le {M c : Nat} (h : capB M c) : c ≤ 10 + 3 * M / 2 := by
  unfold capB at h
  omega
theorem flt_len {p : Nat → Bool} (n : Nat) : ((List.range n).filter p).length = cntB p n := by
  induction n with
  | zero => rfl
  | succ n ih =>
    rw [List.range_succ, List.filter_append, List.length_append, ih]
    cases hp : p n with
    | true =>
      rw [cntB_t hp, List.filter_cons_of_pos hp]
      rfl
    | false =>
      rw [cntB_f hp, List.filter_cons_of_neg (by rw [hp]; exact Bool.false_ne_true)]
      rfl
theorem add_gen {G : rG} {l : Launch} {T : rTab} {L : rL} {C : rC} {ad : rA} (hob : cOb G T C ad) (hls : cLs G T L C ad) {k i ek : Nat} (hok : lOk T k i ek) (hsh : lSh G L C ad k i ek) {y ci : Nat} {fs : List Value} (hy : C ek y = some (.inr (ci, fs))) (hca : rCa ci) (hci0 : ¬ ci = 0) (hel : ∀ x ∈ L.1 k i, ∃ fs, C ek x = some (.inr (ci, fs))) {M : Nat} (hM : M ≤ 150) (hcap : capB M (L.2.1 k i)) (hn : (L.1 k i).length < M) :
    rMet G l yJx4a65c_add_9ea2d cJx4a65c_add_9ea2d 2 (some .boolean) (rmM 8 1 (10 + 3 * M / 2)) [.ref (ad k i), .ref (ad ek y)] C ad (rRet fun r C' ad' => r = .int (nI 1) ∧ ∃ mc, cOb G T C' ad' ∧ cLs G T (lUp L k i (L.1 k i ++ [y]) (lCap (L.1 k i).length (L.2.1 k i)) mc) C' ad' ∧ lCh k i C ad C' ad' ∧ cFr C ad C' ad' ∧ ∀ a, a < 20 → ad' a = ad a) := by
  have hk : 10 ≤ k ∧ k < 18 ∧ ek < 9 := by
    unfold lOk at hok
    omega
  have hc2 := capB_le hcap
  have hc3 := capB_le (capB_add hcap hn hsh.2.2.1)
  have hne : L.2.1 k i ≠ 1 := by
    have := hcap
    unfold capB at this
    omega
  refine rMet.post (l_add hsh hob.2.2.1 hk.1 hk.2.2 hy hca hci0 hel hne (by omega) hc3) (fun v C' ad' h => ?_)
  obtain ⟨h1, mc, h2, h3⟩ := h
  exact ⟨_, h1, rfl, mc, hob.lst h3 hk.1, hls.lst hok h3 h2, h3, cFr.lst h3 (by omega), fun a ha => h3.ade hk.1 ha⟩
theorem add_coin {G : rG} {l : Launch} {T : rTab} {L : rL} {C : rC} {ad : rA} (hob : cOb G T C ad) (hls : cLs G T L C ad) {k i : Nat} (hok : lOk T k i 4) (hsh : lSh G L C ad k i 4) {y : Nat} (hy : y < nC T) (hel : ∀ x ∈ L.1 k i, x < nC T) {M : Nat} (hM : M ≤ 150) (hcap : capB M (L.2.1 k i)) (hn : (L.1 k i).length < M) :
    rMet G l yJx4a65c_add_9ea2d cJx4a65c_add_9ea2d 2 (some .boolean) (rmM 8 1 (10 + 3 * M / 2)) [.ref (ad k i), .ref (ad 4 y)] C ad (rRet fun r C' ad' => r = .int (nI 1) ∧ ∃ mc, cOb G T C' ad' ∧ cLs G T (lUp L k i (L.1 k i ++ [y]) (lCap (L.1 k i).length (L.2.1 k i)) mc) C' ad' ∧ lCh k i C ad C' ad' ∧ cFr C ad C' ad' ∧ ∀ a, a < 20 → ad' a = ad a) :=
  add_gen hob hls hok hsh (by rw [hob.2.2.2.2.1, if_pos hy]; rfl) rCa_X0 (by decide) (fun x hx => ⟨_, by rw [hob.2.2.2.2.1, if_pos (hel x hx)]; rfl⟩) hM hcap hn
