/-! what holds between two calls goes on (with tOK of part 43) -/
def rst (T : rTab) : Prop := mZ T ∧ mK T ∧ tOK T
theorem cInv.mw {G : rG} {T : rTab} {L : rL} {C : rC} {ad : rA} (hI : cInv G T L C ad) : mW T := by
  intro q hq
  have h1 := hI.hsw hq
  have h2 := hI.hrg (q := q) (by omega)
  refine ⟨by omega, fun x hx => ?_⟩
  have h3 := h1.2 x hx
  have h4 := h2.1 _ (List.mem_of_getElem? h3.1)
  have h5 := h2.2.1 _ (List.mem_of_getElem? h3.2)
  exact ⟨h5, by omega⟩
theorem mNu_of {G : rG} {T : rTab} {L : rL} {C : rC} {ad : rA} (hI : cInv G T L C ad) (h : rst T) : mNu T := ⟨hI.1.2.2.1, hI.mw, h⟩
section RST
variable {T T' : rTab}
theorem mK.eq (h : mK T) (h0 : T' 0 = T 0) (h3 : T' 3 = T 3) (h5 : T' 5 = T 5) : mK T' := by
  unfold mK dcN nD nC
  rw [h0, h3, h5]
  exact h
theorem mZ.eq (h : mZ T) (h0 : T' 0 = T 0) (h2 : ∀ i, nD T ≤ i → T' 2 i = T 2 i) (h3 : T' 3 = T 3) (h4 : ∀ i, nD T ≤ i → T' 4 i = T 4 i) (h7 : ∀ j, nC T ≤ j → T' 7 j = T 7 j) (h8 : ∀ j, nC T ≤ j → T' 8 j = T 8 j) (h9 : ∀ j, nC T ≤ j → T' 9 j = T 9 j) (h10 : ∀ k, 8 ≤ k → T 10 k = 0 → T' 10 k = 0) : mZ T' := by
  obtain ⟨a, b, c⟩ := h
  refine ⟨fun i hi => ?_, fun j hj => ?_, fun k hk => h10 k hk (c k hk)⟩
  · rw [show nD T' = nD T from congrFun h0 0] at hi
    rw [h2 i hi, h3, h4 i hi]
    exact a i hi
  · rw [show nC T' = nC T from congrFun h0 1] at hj
    rw [h7 j hj, h8 j hj, h9 j hj]
    exact b j hj
theorem rst_crack (h : rst T) (a b : Int32) : rst (sCrack T a b).2.2 := by
  refine ⟨?_, ?_, tOK_crack h.2.2 a b⟩
  · unfold sCrack
    split
    · exact h.1
    · rename_i d hd
      have hd := ixO_lt hd
      split
      · exact h.1
      · split
        · exact h.1
        · exact h.1.eq rfl (fun i hi => ru_i (by omega)) rfl (fun _ _ => rfl) (fun _ _ => rfl) (fun _ _ => rfl) (fun _ _ => rfl) (fun _ _ z => z)
  · unfold sCrack
    split
    · exact h.2.1
    · split
      · exact h.2.1
      · split
        · exact h.2.1
        · exact h.2.1.eq rfl rfl rfl
theorem rst_want (h : rst T) (a b : Int32) (w : Bool) : rst (sWant T a b w).2.2 := by
  refine ⟨?_, ?_, tOK_want h.2.2 a b w⟩
  · unfold sWant
    split
    · exact h.1
    · rename_i k hk
      have hk := ixO_lt hk
      split
      · exact h.1
      · split
        · exact h.1
        · exact h.1.eq rfl (fun _ _ => rfl) rfl (fun _ _ => rfl) (fun _ _ => rfl) (fun _ _ => rfl) (fun _ _ => rfl) (fun i hi z => (ru_i (by omega)).trans z)
  · unfold sWant
    split
    · exact h.2.1
    · split
      · exact h.2.1
      · split
        · exact h.2.1
        · exact h.2.1.eq rfl rfl rfl
theorem rst_fair (h : rst T) (a b : Int32) : rst (sFair T a b).2.2 := by
  refine ⟨?_, ?_, tOK_fair h.2.2 a b⟩
  · unfold sFair
    split
    · exact h.1
    · split
      · exact h.1
      · exact h.1.eq rfl (fun _ _ => rfl) rfl (fun _ _ => rfl) (fun _ _ => rfl) (fun _ _ => rfl) (fun _ _ => rfl) (fun _ _ z => z)
  · unfold sFair
    split
    · exact h.2.1
    · split
      · exact h.2.1
      · exact h.2.1.eq rfl rfl rfl
theorem rst_mark (h : rst T) (a : Int32) (w : Bool) : rst (sMark T a w).2.2 := by
  refine ⟨?_, ?_, tOK_mark h.2.2 a w⟩
  · unfold sMark
    split
    · exact h.1
    · rename_i j hj
      have hj := ixO_lt hj
      split
      · exact h.1
      · exact h.1.eq rfl (fun _ _ => rfl) rfl (fun _ _ => rfl) (fun _ _ => rfl) (fun _ _ => rfl) (fun i hi => show ru (ru T 9 j (wN w)) 21 j (wN w) 9 i = T 9 i from (ru_k (by decide)).trans (ru_i (by omega))) (fun _ _ z => z)
  · unfold sMark
    split
    · exact h.2.1
    · split
      · exact h.2.1
      · exact h.2.1.eq rfl rfl rfl
theorem rst_add (hN : mNu T) {t df : Nat} : mZ (addT T t df) ∧ mK (addT T t df) := by
  have k6 : ∀ a, a ≠ 0 → a ≠ 1 → a ≠ 2 → a ≠ 3 → a ≠ 4 → a ≠ 20 → addT T t df a = T a := fun a g0 g1 g2 g3 g4 g20 => addT_k g0 g1 g2 g3 g4 g20
  have hz := hN.z
  refine ⟨⟨fun i hi => ?_, fun j hj => ?_, fun k hk => ?_⟩, fun d hd => ?_⟩
  · rw [addT_D] at hi
    rw [addT_i (by decide) (by omega), addT_i (by decide) (by omega), addT_i (by decide) (by omega)]
    exact hz.1 i (by omega)
  · rw [addT_C] at hj
    rw [k6 7 (by decide) (by decide) (by decide) (by decide) (by decide) (by decide), k6 8 (by decide) (by decide) (by decide) (by decide) (by decide) (by decide), k6 9 (by decide) (by decide) (by decide) (by decide) (by decide) (by decide)]
    exact hz.2.1 j hj
  · rw [k6 10 (by decide) (by decide) (by decide) (by decide) (by decide) (by decide)]
    exact hz.2.2 k hk
  · have hdc : dcN (addT T t df) d = dcN T d := by
      unfold dcN
      rw [addT_C, k6 5 (by decide) (by decide) (by decide) (by decide) (by decide) (by decide)]
    rw [hdc]
    rw [addT_D] at hd
    by_cases e : d = nD T
    · subst e
      have h3 : addT T t df 3 (nD T) = 0 := by
        unfold addT
        rw [ru_k (by decide), ru_k (by decide), ru_k (by decide), ru_e]
      rw [h3]
      exact (cntB_0 fun j hj => decide_eq_false (by have := (hN.cn hj).1; omega)).symm
    · rw [addT_i (by decide) e]
      exact hN.k3 (by omega)
theorem rst_new (hN : mNu T) {t df : Nat} : rst (sNew T t df).2.2 := by
  unfold sNew
  split
  · exact ⟨(rst_add hN).1, (rst_add hN).2, hN.2.2.2.2.eq (T' := addT T t df) addT_C (fun j => congrFun (addT_k (a := 8) (by decide) (by decide) (by decide) (by decide) (by decide) (by decide)) j)⟩
  · exact hN.2.2
theorem rst_addDie (hN : mNu T) (a : Int32) : rst (sAddDie T a).2.2 := by
  unfold sAddDie
  split
  · exact hN.2.2
  · exact rst_new hN
theorem rst_cast (hN : mNu T) (a : Int32) : rst (sCast T a).2.2 := by
  unfold sCast
  split
  · exact hN.2.2
  · split
    · exact hN.2.2
    · exact rst_new hN
theorem strikeI_dcx {d x i : Nat} : dcN (strikeI T d i) x = dcN T x + (if x = d then i else 0) := by
  induction i with
  | zero => split <;> rfl
  | succ i ih =>
    show dcN (coinT (strikeI T d i) d) x = _
    rw [coinT_dc, ih]
    split <;> omega
theorem rst_strike (h : rst T) (a b : Int32) : rst (sStrike T a b).2.2 := by
  have key : ∀ d n, d < nD T → mZ (strikeT T d n) ∧ mK (strikeT T d n) := by
    intro d n hd
    have hk : ∀ a, a ≠ 3 → a ≠ 20 → strikeT T d n a = strikeI T d n a := fun a g1 g2 => (ruK g2).trans (ruK g1)
    have hD : nD (strikeT T d n) = nD T := (congrFun (hk 0 (by decide) (by decide)) 0).trans (strikeI_D T d n)
    have hC : nC (strikeT T d n) = nC T + n := (congrFun (hk 0 (by decide) (by decide)) 1).trans (strikeI_C T d n)
    have hI : ∀ a, a ≠ 0 → a ≠ 3 → a ≠ 5 → a ≠ 6 → a ≠ 7 → a ≠ 8 → a ≠ 9 → a ≠ 20 → a ≠ 21 → strikeT T d n a = T a := fun a g0 g3 g5 g6 g7 g8 g9 g20 g21 => (hk a g3 g20).trans (strikeI_k T d n g0 g5 g6 g7 g8 g9 g21)
    have h3 : ∀ i, strikeT T d n 3 i = if i = d then T 3 d + n else T 3 i := fun i => by
      unfold strikeT
      rw [ru_k (by decide)]
      by_cases e : i = d
      · rw [e, ru_e, if_pos rfl]
      · rw [ru_i e, if_neg e, strikeI_k T d n (by decide) (by decide) (by decide) (by decide) (by decide) (by decide) (by decide)]
    refine ⟨⟨fun i hi => ?_, fun j hj => ?_, fun k hk8 => ?_⟩, fun x hx => ?_⟩
    · rw [hD] at hi
      rw [hI 2 (by decide) (by decide) (by decide) (by decide) (by decide) (by decide) (by decide) (by decide) (by decide), hI 4 (by decide) (by decide) (by decide) (by decide) (by decide) (by decide) (by decide) (by decide) (by decide), h3, if_neg (by omega)]
      exact h.1.1 i hi
    · rw [hC] at hj
      rw [hk 7 (by decide) (by decide), hk 8 (by decide) (by decide), hk 9 (by decide) (by decide), strikeI_i (by decide) n hj, strikeI_i (by decide) n hj, strikeI_i (by decide) n hj]
      exact h.1.2.1 j (by omega)
    · rw [hI 10 (by decide) (by decide) (by decide) (by decide) (by decide) (by decide) (by decide) (by decide) (by decide)]
      exact h.1.2.2 k hk8
    · rw [hD] at hx
      have hdc : dcN (strikeT T d n) x = dcN (strikeI T d n) x := by
        unfold dcN
        rw [hk 5 (by decide) (by decide), show nC (strikeT T d n) = nC (strikeI T d n) from congrFun (hk 0 (by decide) (by decide)) 1]
      rw [hdc, strikeI_dcx, h3]
      have := h.2.1 x hx
      by_cases e : x = d
      · subst e
        rw [if_pos rfl, if_pos rfl]
        omega
      · rw [if_neg e, if_neg e]
        omega
  refine ⟨?_, ?_, tOK_strike h.2.2 a b⟩
  · unfold sStrike
    split
    · exact h.1
    · rename_i d hd
      split
      · exact h.1
      · split
        · exact h.1
        · split
          · exact h.1
          · exact (key _ _ (ixO_lt hd)).1
  · unfold sStrike
    split
    · exact h.2.1
    · rename_i d hd
      split
      · exact h.2.1
      · split
        · exact h.2.1
        · split
          · exact h.2.1
          · exact (key _ _ (ixO_lt hd)).2
theorem rst_melt (h : rst T) (a : Int32) : rst (sMelt T a).2.2 := by
  have key : ∀ j, j < nC T → mZ (meltT T j) ∧ mK (meltT T j) := by
    intro j hj
    have hk : ∀ a, a ≠ 7 → a ≠ 8 → a ≠ 9 → a ≠ 20 → meltT T j a = T a := fun a g7 g8 g9 g20 => meltT_k g7 g8 g9 g20
    refine ⟨h.1.eq (hk 0 (by decide) (by decide) (by decide) (by decide)) (fun i _ => congrFun (hk 2 (by decide) (by decide) (by decide) (by decide)) i) (hk 3 (by decide) (by decide) (by decide) (by decide)) (fun i _ => congrFun (hk 4 (by decide) (by decide) (by decide) (by decide)) i) (fun i hi => ?_) (fun i hi => ?_) (fun i hi => ?_) (fun k _ z => (congrFun (hk 10 (by decide) (by decide) (by decide) (by decide)) k).trans z), h.2.1.eq (hk 0 (by decide) (by decide) (by decide) (by decide)) (hk 3 (by decide) (by decide) (by decide) (by decide)) (hk 5 (by decide) (by decide) (by decide) (by decide))⟩
    · exact (ru_k (by decide)).trans ((ru_k (by decide)).trans ((ru_k (by decide)).trans (ru_i (by omega))))
    · exact (ru_k (by decide)).trans ((ru_k (by decide)).trans ((ru_i (by omega)).trans (ru_k (by decide))))
    · exact (ru_k (by decide)).trans ((ru_i (by omega)).trans ((ru_k (by decide)).trans (ru_k (by decide))))
  refine ⟨?_, ?_, tOK_melt h.2.2 a⟩
  · unfold sMelt
    split
    · exact h.1
    · rename_i j hj
      split
      · exact h.1
      · exact (key j (ixO_lt hj)).1
  · unfold sMelt
    split
    · exact h.2.1
    · rename_i j hj
      split
      · exact h.2.1
      · exact (key j (ixO_lt hj)).2
theorem rst_cond (h : rst T) (a : Int32) : rst (sCond T a).2.2 := by
  have key : ∀ d, d < nD T → mZ (condT T d) ∧ mK (condT T d) := by
    intro d hd
    have hk : ∀ a, a ≠ 4 → a ≠ 20 → a ≠ 10 → condT T d a = T a := fun a g4 g20 g10 => condT_k g4 g20 g10
    exact ⟨h.1.eq (hk 0 (by decide) (by decide) (by decide)) (fun i _ => congrFun (hk 2 (by decide) (by decide) (by decide)) i) (hk 3 (by decide) (by decide) (by decide)) (fun i hi => condT_4n (by omega)) (fun j _ => congrFun (hk 7 (by decide) (by decide) (by decide)) j) (fun j _ => congrFun (hk 8 (by decide) (by decide) (by decide)) j) (fun j _ => congrFun (hk 9 (by decide) (by decide) (by decide)) j) (fun k _ z => by
      rw [condT_10, z]
      exact Nat.zero_and _), h.2.1.eq (hk 0 (by decide) (by decide) (by decide)) (hk 3 (by decide) (by decide) (by decide)) (hk 5 (by decide) (by decide) (by decide))⟩
  refine ⟨?_, ?_, tOK_cond h.2.2 a⟩
  · unfold sCond
    split
    · exact h.1
    · rename_i d hd
      split
      · exact h.1
      · exact (key d (ixO_lt hd)).1
  · unfold sCond
    split
    · exact h.2.1
    · rename_i d hd
      split
      · exact h.2.1
      · exact (key d (ixO_lt hd)).2
theorem rst_give (h : rst T) (a b : Int32) : rst (sGive T a b).2.2 := by
  have key : ∀ k j, k < 8 → j < nC T → mZ (gainT T k j) ∧ mK (gainT T k j) := by
    intro k j hk8 hj
    have hk : ∀ a, a ≠ 8 → a ≠ 9 → a ≠ 10 → a ≠ 21 → gainT T k j a = T a := fun a g8 g9 g10 g21 => gainT_k g8 g9 g10 g21
    refine ⟨h.1.eq (hk 0 (by decide) (by decide) (by decide) (by decide)) (fun i _ => congrFun (hk 2 (by decide) (by decide) (by decide) (by decide)) i) (hk 3 (by decide) (by decide) (by decide) (by decide)) (fun i _ => congrFun (hk 4 (by decide) (by decide) (by decide) (by decide)) i) (fun i _ => congrFun (hk 7 (by decide) (by decide) (by decide) (by decide)) i) (fun i hi => ?_) (fun i hi => ?_) (fun q hq z => ?_), h.2.1.eq (hk 0 (by decide) (by decide) (by decide) (by decide)) (hk 3 (by decide) (by decide) (by decide) (by decide)) (hk 5 (by decide) (by decide) (by decide) (by decide))⟩
    · exact (ru_k (by decide)).trans ((ru_k (by decide)).trans ((ru_k (by decide)).trans (ru_i (by omega))))
    · exact (ru_k (by decide)).trans ((ru_k (by decide)).trans ((ru_i (by omega)).trans (ru_k (by decide))))
    · exact (ru_i (by omega)).trans z
  refine ⟨?_, ?_, tOK_give h.2.2 a b⟩
  · unfold sGive
    split
    · exact h.1
    · rename_i j hj
      split
      · exact h.1
      · rename_i k hk
        split
        · exact h.1
        · exact (key k j (ixO_lt hk) (ixO_lt hj)).1
  · unfold sGive
    split
    · exact h.2.1
    · rename_i j hj
      split
      · exact h.2.1
      · rename_i k hk
        split
        · exact h.2.1
        · exact (key k j (ixO_lt hk) (ixO_lt hj)).2
theorem handI_9 {xs ys : List Nat} {y : Nat} : ∀ p, (∀ x z, x < p → ys[x]? = some z → z ≠ y) → handI T xs ys p 9 y = T 9 y := by
  intro p
  induction p with
  | zero => exact fun _ => rfl
  | succ p ih =>
    intro h
    have ih := ih (fun x z hx hz => h x z (by omega) hz)
    show (match xs[nxt xs.length p]?, ys[p]? with | some c, some j => gainT (ru (handI T xs ys p) 8 j 0) c j | _, _ => handI T xs ys p) 9 y = _
    cases h1 : xs[nxt xs.length p]? with
    | none => exact ih
    | some c =>
      cases h2 : ys[p]? with
      | none => exact ih
      | some j =>
        have hj : y ≠ j := fun e => h p j (Nat.lt_succ_self _) h2 e.symm
        show gainT (ru (handI T xs ys p) 8 j 0) c j 9 y = _
        unfold gainT
        rw [ru_k (by decide), ru_k (by decide), ru_i hj, ru_k (by decide), ru_k (by decide)]
        exact ih
theorem handI_10 {xs ys : List Nat} {k : Nat} (h : ∀ c, c ∈ xs → c ≠ k) : ∀ p, handI T xs ys p 10 k = T 10 k := by
  intro p
  induction p with
  | zero => rfl
  | succ p ih =>
    show (match xs[nxt xs.length p]?, ys[p]? with | some c, some j => gainT (ru (handI T xs ys p) 8 j 0) c j | _, _ => handI T xs ys p) 10 k = _
    cases h1 : xs[nxt xs.length p]? with
    | none => exact ih
    | some c =>
      cases h2 : ys[p]? with
      | none => exact ih
      | some j =>
        have hc : k ≠ c := fun e => h c (List.mem_of_getElem? h1) e.symm
        show gainT (ru (handI T xs ys p) 8 j 0) c j 10 k = _
        unfold gainT
        rw [ru_i hc, ru_k (by decide), ru_k (by decide), ru_k (by decide), ru_k (by decide)]
        exact ih
theorem rst_swap (h : rst T) : rst (sSwap T).2.2 := by
  unfold sSwap
  split
  · exact h
  · show rst (swapT T)
    have hro := (ringL_ok T).1
    have hlt : ∀ x z, (ringL T).2[x]? = some z → z < nC T := fun x z hz => by
      have hx := (List.getElem?_eq_some_iff.mp hz).1
      have hx1 : (ringL T).1[x]? = some ((ringL T).1[x]'(by rw [hro.1]; exact hx)) := List.getElem?_eq_getElem _
      exact (hro.2.2.2 x _ z hx1 hz).1
    have hk : ∀ a, a ≠ 0 → a ≠ 12 → a ≠ 13 → a ≠ 8 → a ≠ 9 → a ≠ 10 → a ≠ 21 → swapT T a = T a := fun a g0 g12 g13 g8 g9 g10 g21 => (doneT_k g0 g12 g13).trans (handI_k g8 g9 g10 g21 _)
    have h0 : ∀ b, b ≠ 2 → swapT T 0 b = T 0 b := fun b hb => (doneT_0 hb).trans (congrFun (handI_k (by decide) (by decide) (by decide) (by decide) _) b)
    have hD : nD (swapT T) = nD T := h0 0 (by decide)
    have hC : nC (swapT T) = nC T := h0 1 (by decide)
    have h8 : ∀ j, swapT T 8 j = handI T (ringL T).1 (ringL T).2 (ringL T).1.length 8 j := fun j => congrFun (doneT_k (by decide) (by decide) (by decide)) j
    refine ⟨⟨fun i hi => ?_, fun j hj => ?_, fun k hk8 => ?_⟩, fun d hd => ?_, fun k hk8 => ?_⟩
    · rw [hD] at hi
      rw [hk 2 (by decide) (by decide) (by decide) (by decide) (by decide) (by decide) (by decide), hk 3 (by decide) (by decide) (by decide) (by decide) (by decide) (by decide) (by decide), hk 4 (by decide) (by decide) (by decide) (by decide) (by decide) (by decide) (by decide)]
      exact h.1.1 i hi
    · rw [hC] at hj
      have hne : ∀ x z, x < (ringL T).1.length → (ringL T).2[x]? = some z → z ≠ j := fun x z _ hz => by
        have := hlt x z hz
        omega
      rw [hk 7 (by decide) (by decide) (by decide) (by decide) (by decide) (by decide) (by decide), h8, handI_8 _ hne, show swapT T 9 j = handI T (ringL T).1 (ringL T).2 (ringL T).1.length 9 j from congrFun (doneT_k (by decide) (by decide) (by decide)) j, handI_9 _ hne]
      exact h.1.2.1 j hj
    · rw [show swapT T 10 k = handI T (ringL T).1 (ringL T).2 (ringL T).1.length 10 k from congrFun (doneT_k (by decide) (by decide) (by decide)) k, handI_10 (fun c hc => by have := hro.2.2.1 c hc; omega)]
      exact h.1.2.2 k hk8
    · rw [hD] at hd
      have hdc : dcN (swapT T) d = dcN T d := by
        unfold dcN
        rw [hC, hk 5 (by decide) (by decide) (by decide) (by decide) (by decide) (by decide) (by decide)]
      rw [hdc, hk 3 (by decide) (by decide) (by decide) (by decide) (by decide) (by decide) (by decide)]
      exact h.2.1 d hd
    · rw [own_eq (T := handI T (ringL T).1 (ringL T).2 (ringL T).1.length) (T' := swapT T) (doneT_0 (by decide)) h8, hand_all hro]
      exact h.2.2 k hk8
theorem rst_0 : rst T00 := by
  have z : ∀ a b, a ≠ 11 → T00 a b = 0 := fun a b ha => T00_0 ha
  have hC : nC T00 = 0 := z 0 1 (by decide)
  have hD : nD T00 = 0 := z 0 0 (by decide)
  refine ⟨⟨fun i _ => ⟨z _ _ (by decide), z _ _ (by decide), z _ _ (by decide)⟩, fun j _ => ⟨z _ _ (by decide), z _ _ (by decide), z _ _ (by decide)⟩, fun k _ => z _ _ (by decide)⟩, fun d hd => by omega, fun k _ => ?_⟩
  unfold ownedN
  rw [hC]
  exact Nat.zero_le _
end RST
