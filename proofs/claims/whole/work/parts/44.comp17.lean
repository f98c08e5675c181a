/-! a swap (printed by wip/whole/gen/comp17.py) -/
def gvn (T : rTab) (xs ys : List Nat) : rTab := fun a b => if a = 13 ∧ (4 * nS T ≤ b ∧ b < 4 * nS T + xs.length) then 1000 * xs.getD (b - 4 * nS T) 0 + ys.getD (b - 4 * nS T) 0 else T a b
def doneT (T : rTab) (xs ys : List Nat) : rTab := ru (ru (gvn T xs ys) 12 (nS T) xs.length) 0 2 (nS T + 1)
def swapT (T : rTab) : rTab := doneT (handI T (ringL T).1 (ringL T).2 (ringL T).1.length) (ringL T).1 (ringL T).2
def sSwap (T : rTab) : sR := if (ringL T).1.length = 0 ∨ 60 ≤ nS T then (1, 0, T) else (0, nI (ringL T).1.length, swapT T)
def ec1 (_ : Nat) : String := eISE
theorem gvn_k {T : rTab} {xs ys : List Nat} {a : Nat} (h : a ≠ 13) : gvn T xs ys a = T a := funext fun b => if_neg fun z => h z.1
theorem doneT_k {T : rTab} {xs ys : List Nat} {a : Nat} (h0 : a ≠ 0) (h12 : a ≠ 12) (h13 : a ≠ 13) : doneT T xs ys a = T a := (ruK h0).trans ((ruK h12).trans (gvn_k h13))
theorem doneT_0 {T : rTab} {xs ys : List Nat} {b : Nat} (h : b ≠ 2) : doneT T xs ys 0 b = T 0 b := (ru_i h).trans ((ru_k (by decide)).trans (congrFun (gvn_k (by decide)) b))
theorem doneT_S {T : rTab} {xs ys : List Nat} : nS (doneT T xs ys) = nS T + 1 := ru_e
theorem doneT_12 {T : rTab} {xs ys : List Nat} : doneT T xs ys 12 (nS T) = xs.length := (ru_k (by decide)).trans ru_e
theorem doneT_12n {T : rTab} {xs ys : List Nat} {q : Nat} (h : q ≠ nS T) : doneT T xs ys 12 q = T 12 q := (ru_k (by decide)).trans ((ru_i h).trans (congrFun (gvn_k (by decide)) q))
theorem doneT_13 {T : rTab} {xs ys : List Nat} {x : Nat} (h : x < xs.length) : doneT T xs ys 13 (4 * nS T + x) = 1000 * xs.getD x 0 + ys.getD x 0 := by
  refine ((ru_k (by decide)).trans (ru_k (by decide))).trans ?_
  unfold gvn
  rw [if_pos ⟨rfl, by omega, by omega⟩, Nat.add_sub_cancel_left]
theorem doneT_13n {T : rTab} {xs ys : List Nat} {b : Nat} (h : b < 4 * nS T) : doneT T xs ys 13 b = T 13 b := by
  refine ((ru_k (by decide)).trans (ru_k (by decide))).trans ?_
  unfold gvn
  rw [if_neg (fun z => by omega)]
section SW
variable {G : rG} {T : rTab} {L L' : rL} {C C' : rC} {ad ad' : rA}
theorem lSh.cong {k i ek : Nat} (h : lSh G L C ad k i ek) (h1 : L'.1 k i = L.1 k i) (h2 : L'.2.1 k i = L.2.1 k i) (h3 : L'.2.2 k i = L.2.2 k i) (hC : C' k i = C k i) (hC2 : C' (k + 10) i = C (k + 10) i) (ha : ad' (k + 10) i = ad (k + 10) i) (he : ∀ y, y ∈ L.1 k i → ad' ek y = ad ek y) : lSh G L' C' ad' k i ek := by
  obtain ⟨g1, g2, g3, g4⟩ := h
  refine ⟨?_, ?_, by rw [h1, h2]; exact g3, by rw [h2]; exact g4⟩
  · rw [hC, g1]
    unfold lAd
    rw [h1, h2, h3, ha]
  · rw [hC2, g2]
    have : lFn L' ad' k i ek = lFn L ad k i ek := by
      funext x
      unfold lFn
      rw [h1]
      cases hx : (L.1 k i)[x]? with
      | none => rfl
      | some y =>
        show some (ad' ek y) = some (ad ek y)
        rw [he y (List.mem_of_getElem? hx)]
    rw [this, h2]
theorem up_swap {xs ys : List Nat} {q c : Nat} {m1 : Int32} (hI : cInv G T L C ad) {C3 : rC} {ad3 : rA} (hq : q = nS T + 1) (hob : cOb G T C3 ad3) (hls : cLs G T (lUp L 13 0 (L.1 13 0 ++ [nS T]) c m1) C3 ad3) (hc : capB 60 c) (h60 : nS T < 60) (hx : L.1 16 (nS T) = xs) (hy : L.1 17 (nS T) = ys)
    (c0 : C' 0 0 = some (.inr (5, [.ref (ad' 10 0), .ref (ad' 12 0), .ref (ad' 7 0), .ref (ad' 13 0), .ref (ad' 6 q)]))) (c6 : C' 6 q = some (rgO ad' q)) (c16 : C' 16 q = some (alO (nI 0) G.2.2 0)) (c17 : C' 17 q = some (alO (nI 0) G.2.2 0)) (cN : ∀ a b, ¬ (a = 0 ∧ b = 0) → ¬ ((a = 6 ∨ a = 16 ∨ a = 17) ∧ b = q) → C' a b = C3 a b) (aN : ∀ a b, ¬ ((a = 6 ∨ a = 16 ∨ a = 17) ∧ b = q) → ad' a b = ad3 a b) :
    cInv G (doneT T xs ys) (lUp (lUp (lUp L 13 0 (L.1 13 0 ++ [nS T]) c m1) 16 q [] 0 (nI 0)) 17 q [] 0 (nI 0)) C' ad' := by
  subst hq
  have aK : ∀ a, a ≠ 6 → a ≠ 16 → a ≠ 17 → ad' a = ad3 a := fun a h1 h2 h3 => funext fun b => aN a b (fun z => by omega)
  have cK : ∀ a b, a ≠ 0 → a ≠ 6 → a ≠ 16 → a ≠ 17 → C' a b = C3 a b := fun a b h0 h1 h2 h3 => cN a b (fun z => h0 z.1) (fun z => by omega)
  have dK : ∀ a, a ≠ 0 → a ≠ 12 → a ≠ 13 → doneT T xs ys a = T a := fun a h0 h12 h13 => doneT_k h0 h12 h13
  have dD : nD (doneT T xs ys) = nD T := doneT_0 (by decide)
  have dC : nC (doneT T xs ys) = nC T := doneT_0 (by decide)
  have dS : nS (doneT T xs ys) = nS T + 1 := doneT_S
  have hrgN := hI.1.hrg (Nat.le_refl (nS T))
  rw [hx, hy] at hrgN
  refine ⟨⟨?_, ?_, ?_, ?_⟩, ?_⟩
  · obtain ⟨a1, a2, a3, a4, a5, a6, a7⟩ := hob
    refine ⟨?_, ?_, ?_, fun i => ?_, fun j => ?_, fun k hk => ?_, fun b => ?_⟩
    · rw [c0]
      unfold reO
      rw [dS]
    · rw [cK 7 0 (by decide) (by decide) (by decide) (by decide), a2]
      unfold caO
      rw [aK 5 (by decide) (by decide) (by decide)]
    · rw [cK 9 0 (by decide) (by decide) (by decide) (by decide), a3]
    · rw [cK 1 i (by decide) (by decide) (by decide) (by decide), a4, dD]
      unfold diO
      rw [aK 11 (by decide) (by decide) (by decide), dK 1 (by decide) (by decide) (by decide), dK 2 (by decide) (by decide) (by decide), dK 4 (by decide) (by decide) (by decide), dK 20 (by decide) (by decide) (by decide)]
    · rw [cK 4 j (by decide) (by decide) (by decide) (by decide), a5, dC]
      unfold coO
      rw [aK 1 (by decide) (by decide) (by decide), aK 5 (by decide) (by decide) (by decide), dK 5 (by decide) (by decide) (by decide), dK 6 (by decide) (by decide) (by decide), dK 7 (by decide) (by decide) (by decide), dK 8 (by decide) (by decide) (by decide), dK 21 (by decide) (by decide) (by decide)]
    · rw [cK 5 k (by decide) (by decide) (by decide) (by decide), a6 k hk]
      unfold clO
      rw [aK 14 (by decide) (by decide) (by decide), aK 15 (by decide) (by decide) (by decide), dK 10 (by decide) (by decide) (by decide), dK 11 (by decide) (by decide) (by decide)]
    · rw [dS]
      by_cases e : b = nS T + 1
      · rw [e, c6, if_pos (Nat.le_refl _)]
      · rw [cN 6 b (fun z => absurd z.1 (by decide)) (fun z => e z.2), a7]
        unfold rgO
        rw [aN 16 b (fun z => e z.2), aN 17 b (fun z => e z.2)]
        by_cases g : b ≤ nS T
        · have g2 : b ≤ nS T + 1 := by omega
          simp only [if_pos g, if_pos g2]
        · have g2 : ¬ b ≤ nS T + 1 := by omega
          simp only [if_neg g, if_neg g2]
  · obtain ⟨a1, a2, a3, a4, a5, a6, a7, a8⟩ := hls
    have key : ∀ {k i ek : Nat}, 10 ≤ k → k < 18 → ¬ ((k = 16 ∨ k = 17) ∧ i = nS T + 1) → (∀ y, y ∈ (lUp L 13 0 (L.1 13 0 ++ [nS T]) c m1).1 k i → ek ≠ 6 ∨ y ≠ nS T + 1) → ek < 10 → lSh G (lUp L 13 0 (L.1 13 0 ++ [nS T]) c m1) C3 ad3 k i ek → lSh G (lUp (lUp (lUp L 13 0 (L.1 13 0 ++ [nS T]) c m1) 16 (nS T + 1) [] 0 (nI 0)) 17 (nS T + 1) [] 0 (nI 0)) C' ad' k i ek := by
      intro k i ek h1 h2 h3 h4 h5 h
      exact h.cong ((lUp_n1 (fun z => by omega)).trans (lUp_n1 (fun z => by omega))) ((lUp_n2 (fun z => by omega)).trans (lUp_n2 (fun z => by omega))) ((lUp_n3 (fun z => by omega)).trans (lUp_n3 (fun z => by omega))) (cN k i (fun z => by omega) (fun z => by omega)) (cN (k + 10) i (fun z => by omega) (fun z => by omega)) (aN _ _ (fun z => by omega)) (fun y hy => aN _ _ (fun z => by
        have := h4 y hy
        omega))
    unfold cLs
    rw [dD, dS]
    refine ⟨key (by decide) (by decide) (fun z => by omega) (fun _ _ => Or.inl (by decide)) (by decide) a1, key (by decide) (by decide) (fun z => by omega) (fun _ _ => Or.inl (by decide)) (by decide) a2, key (by decide) (by decide) (fun z => by omega) (fun y hy => Or.inr ?_) (by decide) a3, fun i hi => key (by decide) (by decide) (fun z => by omega) (fun _ _ => Or.inl (by decide)) (by decide) (a4 i hi), fun k hk => ⟨key (by decide) (by decide) (fun z => by omega) (fun _ _ => Or.inl (by decide)) (by decide) (a5 k hk).1, key (by decide) (by decide) (fun z => by omega) (fun _ _ => Or.inl (by decide)) (by decide) (a5 k hk).2⟩, fun b hb => ?_, fun i hi => ?_, fun b hb => ?_⟩
    · rw [lUp_e1] at hy
      rcases List.mem_append.mp hy with h | h
      · rw [hI.1.hswapped] at h
        have := List.mem_range.mp h
        omega
      · have := List.mem_singleton.mp h
        omega
    · by_cases e : b = nS T + 1
      · subst e
        have h8 := a8 (nS T + 1) (Nat.lt_succ_self _)
        refine ⟨⟨?_, ?_, ?_, ?_⟩, ⟨?_, ?_, ?_, ?_⟩⟩
        · unfold lAd
          rw [lUp_n1 (fun z => absurd z.1 (by decide)), lUp_n2 (fun z => absurd z.1 (by decide)), lUp_n3 (fun z => absurd z.1 (by decide)), lUp_e1, lUp_e2, lUp_e3, if_pos rfl]
          exact c16
        · rw [lUp_n2 (fun z => absurd z.1 (by decide)), lUp_e2, if_pos rfl, cN (16 + 10) _ (fun z => by omega) (fun z => by omega)]
          exact h8.2.1
        · rw [lUp_n1 (fun z => absurd z.1 (by decide)), lUp_e1]
          exact Nat.zero_le _
        · rw [lUp_n2 (fun z => absurd z.1 (by decide)), lUp_e2]
          decide
        · unfold lAd
          rw [lUp_e1, lUp_e2, lUp_e3, if_pos rfl]
          exact c17
        · rw [lUp_e2, if_pos rfl, cN (17 + 10) _ (fun z => by omega) (fun z => by omega)]
          exact h8.2.2.2
        · rw [lUp_e1]
          exact Nat.zero_le _
        · rw [lUp_e2]
          decide
      · have hb2 : b ≤ nS T := by omega
        exact ⟨key (by decide) (by decide) (fun z => by omega) (fun _ _ => Or.inl (by decide)) (by decide) (a6 b hb2).1, key (by decide) (by decide) (fun z => by omega) (fun _ _ => Or.inl (by decide)) (by decide) (a6 b hb2).2⟩
    · rw [cK 11 i (by decide) (by decide) (by decide) (by decide), cK 21 i (by decide) (by decide) (by decide) (by decide)]
      exact a7 i hi
    · rw [cN 16 b (fun z => by omega) (fun z => by omega), cK 26 b (by decide) (by decide) (by decide) (by decide), cN 17 b (fun z => by omega) (fun z => by omega), cK 27 b (by decide) (by decide) (by decide) (by decide)]
      exact a8 b (by omega)
  · obtain ⟨a, b, c, d, e, f⟩ := hI.1.2.2.1
    refine cNu.mk _ (by rw [dD]; exact a) (by rw [dC]; exact b) (by rw [dS]; omega) (fun i hi => ?_) (fun j hj => ?_) (fun k hk => ?_)
    · rw [dD] at hi
      rw [dK 1 (by decide) (by decide) (by decide), dK 2 (by decide) (by decide) (by decide), dK 4 (by decide) (by decide) (by decide)]
      exact d i hi
    · rw [dC] at hj
      rw [dD, dK 5 (by decide) (by decide) (by decide), dK 6 (by decide) (by decide) (by decide), dK 7 (by decide) (by decide) (by decide), dK 8 (by decide) (by decide) (by decide), dK 9 (by decide) (by decide) (by decide), dK 21 (by decide) (by decide) (by decide)]
      exact e j hj
    · rw [dK 10 (by decide) (by decide) (by decide), dK 11 (by decide) (by decide) (by decide)]
      exact f k hk
  · obtain ⟨a1, a2, a3, a4, a5, a6, a7, a8⟩ := hI.1.2.2.2
    have n1 : ∀ {a b : Nat}, a ≠ 13 → ¬ ((a = 16 ∨ a = 17) ∧ b = nS T + 1) → (lUp (lUp (lUp L 13 0 (L.1 13 0 ++ [nS T]) c m1) 16 (nS T + 1) [] 0 (nI 0)) 17 (nS T + 1) [] 0 (nI 0)).1 a b = L.1 a b ∧ (lUp (lUp (lUp L 13 0 (L.1 13 0 ++ [nS T]) c m1) 16 (nS T + 1) [] 0 (nI 0)) 17 (nS T + 1) [] 0 (nI 0)).2.1 a b = L.2.1 a b := fun h1 h2 => ⟨(lUp_n1 (fun z => by omega)).trans ((lUp_n1 (fun z => by omega)).trans (lUp_n1 (fun z => h1 z.1))), (lUp_n2 (fun z => by omega)).trans ((lUp_n2 (fun z => by omega)).trans (lUp_n2 (fun z => h1 z.1)))⟩
    unfold cHo
    rw [dD, dC, dS, dK 5 (by decide) (by decide) (by decide), dK 8 (by decide) (by decide) (by decide)]
    refine ⟨?_, ?_, ?_, fun i hi => ?_, fun k hk => ?_, fun k hk => ?_, fun b hb => ?_, fun b hb => ?_⟩
    · rw [(n1 (by decide) (fun z => by omega)).1, (n1 (by decide) (fun z => by omega)).2]
      exact a1
    · rw [(n1 (by decide) (fun z => by omega)).1, (n1 (by decide) (fun z => by omega)).2]
      exact a2
    · rw [lUp_n1 (fun z => absurd z.1 (by decide)), lUp_n1 (fun z => absurd z.1 (by decide)), lUp_n2 (fun z => absurd z.1 (by decide)), lUp_n2 (fun z => absurd z.1 (by decide)), lUp_e1, lUp_e2]
      exact ⟨by rw [a3.1, List.range_succ], hc⟩
    · rw [(n1 (by decide) (fun z => by omega)).1, (n1 (by decide) (fun z => by omega)).2]
      exact a4 i hi
    · rw [(n1 (by decide) (fun z => by omega)).1, (n1 (by decide) (fun z => by omega)).2]
      exact a5 k hk
    · rw [(n1 (by decide) (fun z => by omega)).1, (n1 (by decide) (fun z => by omega)).2]
      exact a6 k hk
    · by_cases e : b = nS T + 1
      · rw [e, lUp_n1 (fun z => absurd z.1 (by decide)), lUp_n2 (fun z => absurd z.1 (by decide)), lUp_e1, lUp_e2, lUp_e1, lUp_e2]
        exact ⟨fun x hx => (nomatch hx), fun x hx => (nomatch hx), rfl, Nat.zero_le _, Or.inl rfl, Or.inl rfl⟩
      · rw [(n1 (by decide) (fun z => e z.2)).1, (n1 (by decide) (fun z => e z.2)).2, (n1 (by decide) (fun z => e z.2)).1, (n1 (by decide) (fun z => e z.2)).2]
        exact a7 b (by omega)
    · have e : b ≠ nS T + 1 := by omega
      rw [(n1 (by decide) (fun z => e z.2)).1, (n1 (by decide) (fun z => e z.2)).1]
      by_cases g : b = nS T
      · subst g
        rw [hx, hy, doneT_12]
        refine ⟨rfl, fun x hxl => ?_⟩
        have hyl : x < ys.length := by rw [← hrgN.2.2.1]; exact hxl
        have hyv : ys[x] < 150 := Nat.lt_of_lt_of_le (hrgN.2.1 _ (List.getElem_mem hyl)) hI.1.hC
        rw [doneT_13 hxl, List.getD_eq_getElem?_getD, List.getD_eq_getElem?_getD, List.getElem?_eq_getElem hxl, List.getElem?_eq_getElem hyl]
        show some _ = some ((1000 * xs[x] + ys[x]) / 1000) ∧ some _ = some ((1000 * xs[x] + ys[x]) % 1000)
        exact ⟨congrArg some (by omega), congrArg some (by omega)⟩
      · have hl := (hI.1.hsw (q := b) (by omega))
        have h4 := (hI.1.hrg (q := b) (by omega)).2.2.2.1
        rw [doneT_12n g]
        refine ⟨hl.1, fun x hxl => ?_⟩
        rw [doneT_13n (by omega)]
        exact hl.2 x hxl
  · intro i hi
    rw [dD] at hi
    rw [dK 20 (by decide) (by decide) (by decide), rar_eq (T := T) (T' := doneT T xs ys) (doneT_0 (by decide)) (dK 4 (by decide) (by decide) (by decide)) (dK 5 (by decide) (by decide) (by decide)) (dK 7 (by decide) (by decide) (by decide)) i]
    exact hI.2 i hi
end SW

set_option maxHeartbeats 4000000 in
set_option maxRecDepth 100000 in
theorem c_X4_swap {G : rG} {l : Launch} {T : rTab} {L : rL} {C : rC} {ad : rA} (hlt : l.stackTraces = false) (hI : cInv G T L C ad) (hOK : tOK T) : rMetX G l yX4_swap cX4_swap 2 (some .int) (rmM 18 146 4660) [.ref (ad 0 0)] C ad (pM G C ad (sSwap T)) (xM G C ad (sSwap T) ec1) := by
  refine rMetX.of (by decide) ?_
  intro p e s m below meth c hx hb hml hr hlocks hown hname hK hZ hS hex
  have hown : s.vm.findClass RX4 = some m.cls := hown
  have hA : ∀ q : Nat, s.heap.size ≤ q → (rF C ad s.heap.size) q := rF.new
  refine r_entry _ (Nat.le_of_ble_eq_true rfl) (fun ls hl => ?_)
  have hl : lv_has ls 2 [(0, .ref (ad 0 0))] := hl
  refine lv_aload_n hx hb dX4_swap_0 rfl (lv_at hl 0 rfl) ?_
  refine cl_X4_197 hx hb hml hown hK hZ hS hA (c_X4_findRing hI) hI.reg rfl hl.1 (Nat.le_of_ble_eq_true rfl) ⟨Nat.le_of_ble_eq_true rfl, Nat.le_of_ble_eq_true rfl⟩ ⟨(by dsimp only [rmM, rmP]; omega), (by dsimp only [rmM, rmP]; omega)⟩ rfl dX4_swap_1 (r_kv (fun C1 ad1 H locs hQ hS => ?_))
  obtain ⟨⟨L1, hI1, hx1, hy1⟩, hF1, hE1⟩ := hQ
  have ead10 : ad 0 0 = ad1 0 0 := (congrFun (hE1 0 (by decide)) 0).symm
  try rw [ead10] at hl
  try rw [ead10]
  have hro := (ringL_ok T).1
  have hlen := (hI1.hrg (Nat.le_refl (nS T))).2.2.2.1
  refine lv_aload_n hx hb dX4_swap_4 rfl (lv_at hl 0 rfl) ?_
  refine gf_X4_31 hx hb hown hK hS hI1.reg rfl dX4_swap_5 ?_
  refine cl_X4_200 hx hb hml hown hK hZ hS hA (c_X3_length hI1 (Nat.le_refl _)) (hI1.ring (Nat.le_refl _)) rfl hl.1 (Nat.le_of_ble_eq_true rfl) ⟨Nat.le_of_ble_eq_true rfl, Nat.le_of_ble_eq_true rfl⟩ ⟨(by dsimp only [rmM, rmP]; omega), (by dsimp only [rmM, rmP]; omega)⟩ rfl dX4_swap_8 (r_kp (fun H locs hS => ?_))
  refine lv_istore_n (lv' := [(1, .int (nI (L1.1 16 (nS T)).length)), (0, .ref (ad1 0 0))]) hx hb dX4_swap_11 rfl hl (by decide) rfl (fun ls hl => ?_)
  refine lv_iload_n hx hb dX4_swap_12 rfl (lv_at hl 0 rfl) ?_
  refine r_if_eq (a := (L1.1 16 (nS T)).length) (tgt := 28) hx hb (by omega) dX4_swap_13 (by decide) (fun q13 => ?_) (fun q13 => ?_)
  · -- T
    have hs : sSwap T = (1, 0, T) := if_pos (Or.inl (by rw [← hx1]; omega))
    exact th_X4_68_206 hx hb hlt hown hK hZ hS (by rw [hml]; exact hl.1) dX4_swap_28 dX4_swap_31 dX4_swap_32 dX4_swap_34 dX4_swap_37 hex (Nat.le_of_ble_eq_true rfl) (Nat.le_of_ble_eq_true rfl) (by dsimp only [rmM, rmP]; omega) (by dsimp only [rmM, rmP]; omega) hlocks (xM.mk2 (n := 1) hs (by decide) hI1 hF1) (by dsimp only [rmM, rmP]; omega) (by dsimp only [rmM, rmP]; omega)
  · -- F
    refine lv_aload_n hx hb dX4_swap_16 rfl (lv_at hl 1 rfl) ?_
    refine gf_X4_25 hx hb hown hK hS hI1.reg rfl dX4_swap_17 ?_
    refine cl_X4_81 hx hb hml hown hK hZ hS hA (l_size (hI1.swapped)) ((hI1.swapped).1) rfl hl.1 (Nat.le_of_ble_eq_true rfl) ⟨Nat.le_of_ble_eq_true rfl, Nat.le_of_ble_eq_true rfl⟩ ⟨(by dsimp only [rmM, rmP]; omega), (by dsimp only [rmM, rmP]; omega)⟩ rfl dX4_swap_20 (r_kp (fun H locs hS => ?_))
    refine r_top (y := nI (nS T)) (by rw [hI1.lswapped]) ?_
    refine lv_bipush (v := nI 60) hx hb dX4_swap_23 (by decide) ?_
    have hS60 := hI1.hS
    refine r_icmp_lt (a := nS T) (b := 60) (tgt := 38) hx hb (by omega) (by omega) dX4_swap_25 (by decide) (fun q25 => ?_) (fun q25 => ?_)
    · -- T
      have hs : sSwap T = (0, nI (ringL T).1.length, swapT T) := if_neg (by rw [← hx1]; omega)
      have hs60 : nS T < 60 := q25
      rw [hx1] at hl
      refine lv_aload_n hx hb dX4_swap_38 rfl (lv_at hl 1 rfl) ?_
      refine gf_X4_31 hx hb hown hK hS hI1.reg rfl dX4_swap_39 ?_
      refine cl_X4_208 hx hb hml hown hK hZ hS hA (c_X3_handOver hI1 rfl (by rw [hx1, hy1]; exact hro) hOK) (hI1.ring (Nat.le_refl _)) rfl hl.1 (Nat.le_of_ble_eq_true rfl) ⟨Nat.le_of_ble_eq_true rfl, Nat.le_of_ble_eq_true rfl⟩ ⟨(by dsimp only [rmM, rmP]; omega), (by dsimp only [rmM, rmP]; omega)⟩ rfl dX4_swap_42 (r_kv (fun C2 ad2 H locs hQ hS => ?_))
      obtain ⟨⟨L2, hI2, hx2, hy2⟩, hF2, hE2⟩ := hQ
      have ead20 : ad1 0 0 = ad2 0 0 := (congrFun (hE2 0 (by decide)) 0).symm
      try rw [ead20] at hl
      try rw [ead20]
      simp only [hx1, hy1] at hI2 hx2 hy2
      obtain ⟨T2, hT2⟩ : ∃ z, handI T (ringL T).1 (ringL T).2 (ringL T).1.length = z := ⟨_, rfl⟩
      rw [hT2] at hI2
      have kS : nS T2 = nS T := by rw [← hT2]; exact congrFun (handI_k (a := 0) (by decide) (by decide) (by decide) (by decide) _) 2
      rw [← kS] at hx2 hy2 hs60
      try rw [← kS] at hl
      refine lv_aload_n hx hb dX4_swap_45 rfl (lv_at hl 1 rfl) ?_
      refine gf_X4_25 hx hb hown hK hS hI2.reg rfl dX4_swap_46 ?_
      refine lv_aload_n hx hb dX4_swap_49 rfl (lv_at hl 1 rfl) ?_
      refine gf_X4_31 hx hb hown hK hS hI2.reg rfl dX4_swap_50 ?_
      refine cl_X4_93 hx hb hml hown hK hZ hS hA (add_gen hI2.1.1 hI2.1.2.1 (Or.inr (Or.inr (Or.inl ⟨rfl, rfl, rfl⟩))) hI2.swapped (M := 60) (y := nS T2) (hI2.ring (Nat.le_refl _)) rCa_X3 (by decide) (fun x hx => ⟨_, hI2.ring (by rw [hI2.hswapped] at hx; exact Nat.le_of_lt (List.mem_range.mp hx))⟩) (by decide) hI2.1.2.2.2.2.2.1.2 (by rw [hI2.lswapped]; exact hs60)) hI2.swapped.1 rfl hl.1 (Nat.le_of_ble_eq_true rfl) ⟨Nat.le_of_ble_eq_true rfl, Nat.le_of_ble_eq_true rfl⟩ ⟨(by dsimp only [rmM, rmP]; omega), (by dsimp only [rmM, rmP]; omega)⟩ rfl dX4_swap_53 (r_kr (fun r C3 ad3 H locs hQ hS => ?_))
      obtain ⟨rfl, m1, hob, hls, hch, hF3, hE3⟩ := hQ
      have ead30 : ad2 0 0 = ad3 0 0 := (congrFun (hE3 0 (by decide)) 0).symm
      try rw [ead30] at hl
      try rw [ead30]
      refine lv_pop hx hb dX4_swap_56 rfl ?_
      refine lv_aload_n hx hb dX4_swap_57 rfl (lv_at hl 1 rfl) ?_
      refine nw_X4_28 hx hb hown hK hS hA 6 (nS T2 + 1) (by rw [hob.2.2.2.2.2.2, if_neg (by omega)]) (by dsimp only [rmM, rmP]; omega) (by dsimp only [rmM, rmP]; omega) dX4_swap_58 (fun q3 H hS => ?_)
      obtain ⟨ad4, had4⟩ : ∃ z, z = ru ad3 6 (nS T2 + 1) q3 := ⟨_, rfl⟩
      rw [← had4] at hS
      have ead40 : ad3 0 0 = ad4 0 0 := by rw [had4]; exact (ru_n (fun z => absurd z.1 (by decide))).symm
      try rw [ead40] at hl
      try rw [ead40]
      have qad4 : q3 = ad4 6 (nS T2 + 1) := by rw [had4, ru_e]
      try rw [qad4]
      refine lv_dup hx hb dX4_swap_61 rfl ?_
      refine cl_X4_30 hx hb hml hown hK hZ hS hA (c_X3_init (q := (nS T2 + 1)) ru_e ((ru_k (by decide)).trans (hls.2.2.2.2.2.2.2 (nS T2 + 1) (by omega)).1) ((ru_k (by decide)).trans (hls.2.2.2.2.2.2.2 (nS T2 + 1) (by omega)).2.2.1)) rfl hl.1 (Nat.le_of_ble_eq_true rfl) ⟨Nat.le_of_ble_eq_true rfl, Nat.le_of_ble_eq_true rfl⟩ ⟨(by dsimp only [rmM, rmP]; omega), (by dsimp only [rmM, rmP]; omega)⟩ rfl dX4_swap_62 (r_kv (fun C' ad' H locs hQ hS => ?_))
      obtain ⟨hC5, qa, qb, hq5⟩ := hQ
      obtain ⟨C5, hC5e⟩ : ∃ z, z = C' := ⟨_, rfl⟩
      obtain ⟨ad5, had5e⟩ : ∃ z, z = ad' := ⟨_, rfl⟩
      rw [← hC5e, ← had5e] at hS
      rw [← hC5e, ← had5e] at hC5
      rw [← had5e] at hq5
      have hE5 : ∀ a, a < 10 → ad5 a = ad4 a := fun a ha => by rw [hq5]; exact funext fun b => (ru_k (by omega)).trans (ru_k (by omega))
      have ead50 : ad4 0 0 = ad5 0 0 := (congrFun (hE5 0 (by decide)) 0).symm
      try rw [ead50] at hl
      try rw [ead50]
      have ead51 : ad4 6 (nS T2 + 1) = ad5 6 (nS T2 + 1) := (congrFun (hE5 6 (by decide)) (nS T2 + 1)).symm
      try rw [ead51] at hl
      try rw [ead51]
      have hreg : C5 0 0 = some (reO T2 ad5) := by
        rw [← hC5, ru_k (by decide), ru_k (by decide), ru_k (by decide), ru_k (by decide), hob.1]
        unfold reO
        rw [hE5 7 (by decide), hE5 6 (by decide), hq5, had4, ru_k (b := 0) (by decide), ru_k (b := 0) (by decide), ru_k (b := 0) (by decide), ru_k (b := 0) (by decide), ru_k (b := 0) (by decide), ru_k (b := 0) (by decide), ru_k (b := 0) (by decide), ru_k (b := 0) (by decide), ru_k (b := 0) (by decide), ru_k (b := 0) (by decide), ru_i (a := 6) (b := nS T2) (by omega)]
      refine pf_X4_31 hx hb hown hK hS hreg rfl rfl (fs' := [.ref (ad5 10 0), .ref (ad5 12 0), .ref (ad5 7 0), .ref (ad5 13 0), .ref (ad5 6 (nS T2 + 1))]) (Nat.le_of_ble_eq_true rfl) rfl dX4_swap_65 (fun H locs hS => ?_)
      have hu := up_swap (C' := ru C5 0 0 (some (.inr (5, [.ref (ad5 10 0), .ref (ad5 12 0), .ref (ad5 7 0), .ref (ad5 13 0), .ref (ad5 6 (nS T2 + 1))])))) (ad' := ad5) (q := (nS T2 + 1)) hI2 rfl hob hls (capB_add hI2.1.2.2.2.2.2.1.2 (by rw [hI2.lswapped]; exact hs60) hI2.swapped.2.2.1) hs60 hx2 hy2 ru_e (by rw [ru_k (by decide), ← hC5, ru_e]; rfl) (by rw [ru_k (by decide), ← hC5, ru_k (by decide), ru_k (by decide), ru_e]) (by rw [ru_k (by decide), ← hC5, ru_k (by decide), ru_e]) (fun a b h1 h2 => by rw [ru_n h1, ← hC5, ru_n (fun z => h2 ⟨Or.inl z.1, z.2⟩), ru_n (fun z => h2 ⟨Or.inr (Or.inr z.1), z.2⟩), ru_n (fun z => h2 ⟨Or.inr (Or.inl z.1), z.2⟩), ru_n (fun z => h2 ⟨Or.inl z.1, z.2⟩)]) (fun a b h2 => by rw [hq5, ru_n (fun z => h2 ⟨Or.inr (Or.inr z.1), z.2⟩), ru_n (fun z => h2 ⟨Or.inr (Or.inl z.1), z.2⟩), had4, ru_n (fun z => h2 ⟨Or.inl z.1, z.2⟩)])
      have hF6 : cFr C3 ad3 (ru C5 0 0 (some (.inr (5, [.ref (ad5 10 0), .ref (ad5 12 0), .ref (ad5 7 0), .ref (ad5 13 0), .ref (ad5 6 (nS T2 + 1))])))) ad5 := ⟨fun a b ha => ⟨by rw [ru_k (by omega), ← hC5, ru_k (by omega), ru_k (by omega), ru_k (by omega), ru_k (by omega)], by rw [hq5, ru_k (by omega), ru_k (by omega), had4, ru_k (by omega)]⟩, by rw [hq5, ru_k (by decide), ru_k (by decide), had4, ru_k (by decide)]⟩
      have hsw : doneT T2 (ringL T).1 (ringL T).2 = swapT T := by rw [← hT2]; rfl
      rw [hsw] at hu
      refine lv_iload_n hx hb dX4_swap_68 rfl (lv_at hl 0 rfl) ?_
      refine vx_ret ?_
      exact r_iret hx hb hr hlocks hS (pM.mk hs hu (hF1.tr (hF2.tr (hF3.tr hF6)))) (by dsimp only [rmM, rmP]; omega) (by dsimp only [rmM, rmP]; omega) dX4_swap_69
    · -- F
      have hs : sSwap T = (1, 0, T) := if_pos (Or.inr (by omega))
      exact th_X4_68_206 hx hb hlt hown hK hZ hS (by rw [hml]; exact hl.1) dX4_swap_28 dX4_swap_31 dX4_swap_32 dX4_swap_34 dX4_swap_37 hex (Nat.le_of_ble_eq_true rfl) (Nat.le_of_ble_eq_true rfl) (by dsimp only [rmM, rmP]; omega) (by dsimp only [rmM, rmP]; omega) hlocks (xM.mk2 (n := 1) hs (by decide) hI1 hF1) (by dsimp only [rmM, rmP]; omega) (by dsimp only [rmM, rmP]; omega)
