/-! the lists' methods over the picture lSh -/
theorem rMet.post {G : rG} {l : Launch} {y : MethodName} {bytes : ByteArray} {maxL : Nat} {ret : Option FieldType} {rm : Room} {av : List Value} {C : rC} {ad : rA} {R1 R2 : Option Value → rC → rA → Prop} (h : rMet G l y bytes maxL ret rm av C ad R1) (hR : ∀ v C' ad', R1 v C' ad' → R2 v C' ad') : rMet G l y bytes maxL ret rm av C ad R2 := by
  intro sz p e ha hc hk s m args below hf happ hP hKt
  obtain ⟨n, o, h1, h2, h3, ⟨⟨v, C', ad', g1, g2, g3, g4⟩, hF⟩, h5⟩ := h sz p e ha hc hk s m args below hf happ hP hKt
  exact ⟨n, o, h1, h2, h3, ⟨⟨v, C', ad', g1, hR v C' ad' g2, g3, g4⟩, hF⟩, h5⟩
section LM
variable {G : rG} {l : Launch} {C : rC} {ad : rA} {L : rL} {k i ek : Nat}
theorem lSh.obj' (h : lSh G L C ad k i ek) (hz : ¬ L.2.1 k i = 0) : C k i = some (alO (L.2.2 k i) (ad (k + 10) i) (L.1 k i).length) := by
  rw [h.1]
  unfold lAd
  rw [if_neg hz]
theorem lSh.objE (h : lSh G L C ad k i ek) (hz : L.2.1 k i = 0) : C k i = some (alO (L.2.2 k i) G.2.2 0) ∧ L.1 k i = [] ∧ C (k + 10) i = none := by
  have h0 : (L.1 k i).length = 0 := by have := h.2.2.1; omega
  refine ⟨?_, List.length_eq_zero_iff.mp h0, by rw [h.2.1, if_pos hz]⟩
  rw [h.1, h0]
  unfold lAd
  rw [if_pos hz]
theorem l_size (h : lSh G L C ad k i ek) : rMet G l yJx4a65c_size_8abf5 cJx4a65c_size_8abf5 1 (some .int) (rmP 1) [.ref (ad k i)] C ad (rPure C ad (.int (nI (L.1 k i).length))) := c_Jx4a65c_size_8abf5 h.1
theorem l_isEmpty (h : lSh G L C ad k i ek) : rMet G l yJx4a65c_isEmpty_aae02 cJx4a65c_isEmpty_aae02 1 (some .boolean) (rmP 1) [.ref (ad k i)] C ad (rPure C ad (.int (bI (decide ((L.1 k i).length = 0))))) := c_Jx4a65c_isEmpty_aae02 h.1 (by have := h.2.2; omega)
theorem l_get (h : lSh G L C ad k i ek) {x y : Nat} (hy : (L.1 k i)[x]? = some y) : rMet G l yJx4a65c_get_915e3 cJx4a65c_get_915e3 2 (some (.object "java/lang/Object")) (rmP 3) [.ref (ad k i), .int (nI x)] C ad (rPure C ad (.ref (ad ek y))) := by
  have hz := h.pos hy
  have e : va_rf (lFn L ad k i ek x) = .ref (ad ek y) := by
    unfold lFn
    rw [hy]
    rfl
  rw [← e]
  have h4 := h.2.2
  exact c_Jx4a65c_get_915e3 (h.obj' hz) (h.arr hz) (by omega) (List.getElem?_eq_some_iff.mp hy).1 h4.1
/-- how long the array is behind an add -/
def lCap (n c : Nat) : Nat := if n < c then c else if c = 0 then 10 else c + c / 2
theorem lFn_none {j : Nat} (h : (L.1 k i).length ≤ j) : lFn L ad k i ek j = none := by
  unfold lFn
  rw [List.getElem?_eq_none h]
  rfl
theorem lFn_add {L' : rL} {y n : Nat} {f : Nat → Option Nat} (hn : (L.1 k i).length = n) (hL : L'.1 k i = L.1 k i ++ [y]) (hf : ∀ j, j < n → f j = lFn L ad k i ek j) (hf2 : ∀ j, n < j → f j = none) : va_up f n (some (ad ek y)) = lFn L' ad k i ek := by
  funext j
  unfold lFn
  rw [hL]
  by_cases hj : j = n
  · subst hj
    rw [va_up_self, List.getElem?_append_right (by omega), hn, Nat.sub_self]
    rfl
  · rw [va_up_ne _ _ hj]
    by_cases h2 : j < n
    · rw [hf j h2, List.getElem?_append_left (by omega)]
      rfl
    · rw [hf2 j (by omega), List.getElem?_eq_none (by rw [List.length_append, List.length_singleton]; omega)]
      rfl
theorem lFn_ad {ad' : rA} (h : ad' ek = ad ek) : lFn L ad' k i ek = lFn L ad k i ek := by
  unfold lFn
  rw [h]
theorem l_add (h : lSh G L C ad k i ek) (h9 : C 9 0 = none) (hk : 10 ≤ k) (hek : ek < 9) {y ci ms : Nat} {fs : List Value} (hy : C ek y = some (.inr (ci, fs))) (hca : rCa ci) (hci0 : ¬ ci = 0) (hel : ∀ x ∈ L.1 k i, ∃ fs, C ek x = some (.inr (ci, fs))) (hc2 : L.2.1 k i ≠ 1) (hcap : L.2.1 k i < 600) (hms : lCap (L.1 k i).length (L.2.1 k i) ≤ ms) :
    rMet G l yJx4a65c_add_9ea2d cJx4a65c_add_9ea2d 2 (some .boolean) (rmM 8 1 ms) [.ref (ad k i), .ref (ad ek y)] C ad (fun v C' ad' => v = some (.int (nI 1)) ∧ ∃ mc, lSh G (lUp L k i (L.1 k i ++ [y]) (lCap (L.1 k i).length (L.2.1 k i)) mc) C' ad' k i ek ∧ lCh k i C ad C' ad') := by
  have h3 := h.2.2
  have fin : ∀ (C' : rC) (ad' : rA) (mc : Int32) (N : Nat) (f : Nat → Option Nat), N = lCap (L.1 k i).length (L.2.1 k i) → ad' ek = ad ek → f = lFn (lUp L k i (L.1 k i ++ [y]) N mc) ad k i ek → C' k i = some (alO mc (ad' (k + 10) i) ((L.1 k i).length + 1)) → C' (k + 10) i = some (arO G N f) → ¬ N = 0 → (L.1 k i).length + 1 ≤ N → N < 1000 → lSh G (lUp L k i (L.1 k i ++ [y]) (lCap (L.1 k i).length (L.2.1 k i)) mc) C' ad' k i ek := by
    intro C' ad' mc N f hN had hf g1 g2 g3 g4 g5
    subst hN
    refine ⟨?_, ?_, ?_, ?_⟩
    · rw [g1]
      unfold lAd
      rw [lUp_e1, lUp_e2, lUp_e3, if_neg g3, List.length_append, List.length_singleton]
    · rw [g2, lUp_e2, if_neg g3, hf, lFn_ad had]
    · rw [lUp_e1, lUp_e2, List.length_append, List.length_singleton]; exact g4
    · rw [lUp_e2]; exact g5
  have hLn : ∀ N mc, (lUp L k i (L.1 k i ++ [y]) N mc).1 k i = L.1 k i ++ [y] := fun _ _ => lUp_e1
  by_cases hz : L.2.1 k i = 0
  · obtain ⟨o1, o2, o3⟩ := h.objE hz
    have hl0 : (L.1 k i).length = 0 := by rw [o2]; rfl
    have hcp : lCap (L.1 k i).length (L.2.1 k i) = 10 := by unfold lCap; rw [if_neg (by omega), if_pos hz]
    refine (c_addE (k2 := k + 10) (i2 := i) (ms := ms) o1 o3 (by omega) hca (by omega) hy (by omega) (by omega)).post fun v C' ad' hv => ?_
    obtain ⟨rfl, q, rfl, rfl⟩ := hv
    refine ⟨rfl, L.2.2 k i + nI 1, fin _ _ _ 10 _ hcp.symm ?_ (lFn_add (ad := ad) (L := L) hl0 (hLn 10 _) (fun j hj => absurd hj (by omega)) (fun _ _ => rfl)) ?_ ?_ (by omega) (by omega) (by omega), ?_, ?_⟩
    · funext j
      exact ru_n (by omega)
    · rw [ru_e, ru_e, hl0]
    · rw [ru_n (by omega), ru_e]
    · intro a b g1 g2
      rw [ru_n g1, ru_n g2]
    · intro a b g1
      rw [ru_n g1]
  · have o1 := h.obj' hz
    have o2 := h.arr hz
    by_cases hlt : (L.1 k i).length < L.2.1 k i
    · have hcp : lCap (L.1 k i).length (L.2.1 k i) = L.2.1 k i := if_pos hlt
      refine (c_addF (k2 := k + 10) (i2 := i) (ms := ms) o1 o2 (by omega) (by omega) hy hca (by omega) (by omega) hlt).post fun v C' ad' hv => ?_
      obtain ⟨r, rfl, rfl, rfl, rfl⟩ := hv
      refine ⟨rfl, L.2.2 k i + nI 1, fin _ _ _ (L.2.1 k i) _ hcp.symm rfl (lFn_add (ad := ad) (L := L) rfl (hLn _ _) (fun j hj => rfl) (fun j hj => lFn_none (by omega))) ?_ ?_ hz (by omega) (by omega), ?_, fun _ _ _ => rfl⟩
      · rw [ru_e]
      · rw [ru_n (by omega), ru_e]
      · intro a b g1 g2
        rw [ru_n g1, ru_n g2]
    · have hlen : (L.1 k i).length = L.2.1 k i := by omega
      have hcp : lCap (L.1 k i).length (L.2.1 k i) = L.2.1 k i + L.2.1 k i / 2 := by unfold lCap; rw [if_neg hlt, if_neg hz]
      rw [hlen] at o1
      refine (c_addG (k2 := k + 10) (i2 := i) (ms := ms) o1 o2 h9 (by omega) (by omega) (by omega) (by omega) (by omega) hca (by omega) hci0 ?_ hy (by omega) (by omega)).post fun v C' ad' hv => ?_
      · intro j w hj hw
        unfold lFn at hw
        cases hq : (L.1 k i)[j]? with
        | none => rw [hq] at hw; cases hw
        | some x =>
          rw [hq] at hw
          cases hw
          obtain ⟨fs9, h8⟩ := hel x (List.mem_of_getElem? hq)
          exact ⟨ek, x, fs9, rfl, h8⟩
      · obtain ⟨rfl, q, rfl, rfl⟩ := hv
        refine ⟨rfl, L.2.2 k i + nI 1, fin _ _ _ (L.2.1 k i + L.2.1 k i / 2) _ hcp.symm ?_ (lFn_add (ad := ad) (L := L) (f := va_cpy (lFn L ad k i ek) (fun _ => none) 0 0 (L.2.1 k i)) hlen (hLn _ _) (fun j hj => ?_) (fun j hj => ?_)) ?_ ?_ (by omega) (by omega) (by omega), ?_, ?_⟩
        · funext j
          exact ru_n (by omega)
        · unfold va_cpy
          rw [if_pos (by omega), Nat.zero_add, Nat.sub_zero]
        · unfold va_cpy
          rw [if_neg (by omega)]
        · rw [ru_e, ru_e, hlen]
        · rw [ru_n (by omega), ru_e]
        · intro a b g1 g2
          rw [ru_n g1, ru_n g2]
        · intro a b g1
          rw [ru_n g1]
theorem l_clear (h : lSh G L C ad k i ek) (hk : 10 ≤ k) : rMet G l yJx4a65c_clear_da8c8 cJx4a65c_clear_da8c8 4 none (rmP 1) [.ref (ad k i)] C ad (rVoid fun C' ad' => ∃ mc, lSh G (lUp L k i [] (L.2.1 k i) mc) C' ad' k i ek ∧ lCh k i C ad C' ad') := by
  have h3 := h.2.2
  by_cases hz : L.2.1 k i = 0
  · obtain ⟨o1, o2, o3⟩ := h.objE hz
    refine (c_clear0 o1).post fun v C' ad' hv => ?_
    obtain ⟨rfl, rfl, rfl⟩ := hv
    refine ⟨rfl, L.2.2 k i + nI 1, ⟨?_, ?_, ?_, ?_⟩, ?_, fun _ _ _ => rfl⟩
    · rw [ru_e]
      unfold lAd
      rw [lUp_e1, lUp_e2, lUp_e3, if_pos hz]
      rfl
    · rw [ru_n (by omega), lUp_e2, if_pos hz]; exact o3
    · rw [lUp_e1, lUp_e2]; exact Nat.zero_le _
    · rw [lUp_e2]; exact h3.2
    · intro a b g1 g2
      rw [ru_n g1]
  · refine (c_clear1 (h.obj' hz) (h.arr hz) (by omega) (by omega) h3.1 (fun j hj => lFn_none hj)).post fun v C' ad' hv => ?_
    obtain ⟨rfl, rfl, rfl⟩ := hv
    refine ⟨rfl, L.2.2 k i + nI 1, ⟨?_, ?_, ?_, ?_⟩, ?_, fun _ _ _ => rfl⟩
    · rw [ru_n (by omega), ru_e]
      unfold lAd
      rw [lUp_e1, lUp_e2, lUp_e3, if_neg hz]
      rfl
    · rw [ru_e, lUp_e2, if_neg hz]
      congr 6
      funext j
      rw [lFn_none (by rw [lUp_e1]; exact Nat.zero_le _)]
    · rw [lUp_e1, lUp_e2]; exact Nat.zero_le _
    · rw [lUp_e2]; exact h3.2
    · intro a b g1 g2
      rw [ru_n g2, ru_n g1]
theorem l_remove (h : lSh G L C ad k i ek) (hk : 10 ≤ k) {x y ci : Nat} (hy : (L.1 k i)[x]? = some y) (hca : rCa ci) (hci0 : ¬ ci = 0) (hel : ∀ x ∈ L.1 k i, ∃ fs, C ek x = some (.inr (ci, fs))) : rMet G l yJx4a65c_remove_915e3 cJx4a65c_remove_915e3 4 (some (.object "java/lang/Object")) (rmP 4) [.ref (ad k i), .int (nI x)] C ad (rRet fun r C' ad' => r = .ref (ad ek y) ∧ ad = ad' ∧ ∃ mc, lSh G (lUp L k i ((L.1 k i).eraseIdx x) (L.2.1 k i) mc) C' ad' k i ek ∧ lCh k i C ad C' ad') := by
  have h3 := h.2.2
  have hz := h.pos hy
  have hx : x < (L.1 k i).length := (List.getElem?_eq_some_iff.mp hy).1
  refine (c_remove (k2 := k + 10) (i2 := i) (ci := ci) (a9 := ek) (b9 := y) (h.obj' hz) (h.arr hz) (by omega) (by omega) hx h3.1 hca (fun j w hj hw => ?_) hci0 ?_).post fun v C' ad' hv => ?_
  · unfold lFn at hw
    cases hq : (L.1 k i)[j]? with
    | none => rw [hq] at hw; cases hw
    | some x =>
      rw [hq] at hw
      cases hw
      obtain ⟨fs9, h8⟩ := hel x (List.mem_of_getElem? hq)
      exact ⟨ek, x, fs9, rfl, h8⟩
  · unfold lFn
    rw [hy]
    rfl
  · obtain ⟨r, rfl, rfl, rfl, rfl⟩ := hv
    have hlen : ((L.1 k i).eraseIdx x).length = (L.1 k i).length - 1 := by rw [List.length_eraseIdx, if_pos hx]
    refine ⟨_, rfl, rfl, rfl, L.2.2 k i + nI 1, ⟨?_, ?_, ?_, ?_⟩, ?_, fun _ _ _ => rfl⟩
    · rw [ru_e]
      unfold lAd
      rw [lUp_e1, lUp_e2, lUp_e3, if_neg hz, hlen]
    · rw [ru_n (by omega), ru_e, lUp_e2, if_neg hz]
      congr 6
      funext j
      show _ = (((lUp L k i ((L.1 k i).eraseIdx x) (L.2.1 k i) (L.2.2 k i + nI 1)).1 k i)[j]?).map (ad ek)
      rw [lUp_e1, List.getElem?_eraseIdx]
      by_cases hj : j = (L.1 k i).length - 1
      · rw [hj, va_up_self, if_neg (by omega), List.getElem?_eq_none (by omega)]
        rfl
      · rw [va_up_ne _ _ hj]
        unfold va_cpy lFn
        by_cases h1 : j < x
        · rw [if_neg (by omega), if_pos h1]
        · rw [if_neg h1]
          by_cases h2 : j < (L.1 k i).length - 1
          · rw [if_pos (by omega)]
            congr 2
            omega
          · rw [if_neg (by omega), List.getElem?_eq_none (by omega), List.getElem?_eq_none (by omega)]
    · rw [lUp_e1, lUp_e2, hlen]; omega
    · rw [lUp_e2]; exact h3.2
    · intro a b g1 g2
      rw [ru_n g1, ru_n g2]
end LM
