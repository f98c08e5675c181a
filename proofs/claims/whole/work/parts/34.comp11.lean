/-! what a collector offers (printed by wip/whole/gen/comp11.py) -/
def offL (T : rTab) (k n : Nat) : List Nat := (List.range n).filterMap (offer T k)
theorem offL_s {T : rTab} {k n m : Nat} (h : offer T k n = some m) : offL T k (n + 1) = offL T k n ++ [m] := by
  unfold offL
  rw [List.range_succ, List.filterMap_append]
  simp [h]
theorem offL_n {T : rTab} {k n : Nat} (h : offer T k n = none) : offL T k (n + 1) = offL T k n := by
  unfold offL
  rw [List.range_succ, List.filterMap_append]
  simp [h]
theorem offL_len (T : rTab) (k n : Nat) : (offL T k n).length ≤ n := by
  have := List.length_filterMap_le (offer T k) (List.range n)
  rwa [List.length_range] at this
theorem offer_s {T : rTab} {k d m : Nat} (h : offer T k d = some m) : m < nC T ∧ T 5 m = d ∧ T 8 m = k + 1 ∧ tru T m = true := by
  unfold offer at h
  cases hf : fstB (offAt T k d) (nC T) with
  | none => rw [hf] at h; cases h
  | some j =>
    rw [hf] at h
    have h1 : (if 1 < cntB (offAt T k d) (nC T) ∨ T 9 j = 1 then some j else none) = some m := h
    split at h1
    · cases h1
      have h2 := fstB_some.mp hf
      have h3 := h2.2.1
      unfold offAt at h3
      rw [Bool.and_eq_true, Bool.and_eq_true] at h3
      exact ⟨h2.1, of_decide_eq_true h3.1, of_decide_eq_true h3.2.1, h3.2.2⟩
    · cases h1
theorem offL_lt {T : rTab} {k n : Nat} : ∀ j, j ∈ offL T k n → j < nC T := by
  intro j hj
  obtain ⟨d, _, hd⟩ := List.mem_filterMap.mp hj
  exact (offer_s hd).1
def offerB (T : rTab) (k d : Nat) : Bool := (offer T k d).isSome
def setL (f : Nat → Nat) (xs : List Nat) : Nat := xs.foldl (fun s j => s ||| 2 ^ f j) 0
theorem setL_a {f : Nat → Nat} {xs : List Nat} {y : Nat} : setL f (xs ++ [y]) = setL f xs ||| 2 ^ f y := by
  unfold setL
  rw [List.foldl_append]
  rfl
theorem setL_t {f : Nat → Nat} {xs : List Nat} {i y : Nat} (h : xs[i]? = some y) : setL f (xs.take (i + 1)) = setL f (xs.take i) ||| 2 ^ f y := by
  rw [List.take_add_one, h]
  exact setL_a
theorem setL_off {T : rTab} {k : Nat} : ∀ n, setL (T 5) (offL T k n) = setN (offerB T k) n := by
  intro n
  induction n with
  | zero => rfl
  | succ n ih =>
    cases h : offer T k n with
    | none => rw [offL_n h, ih, setN_f (by unfold offerB; rw [h]; rfl)]
    | some m => rw [offL_s h, setL_a, ih, setN_t (by unfold offerB; rw [h]; rfl), (offer_s h).2.1]
section OF
variable {G : rG} {T T' : rTab} {L : rL} {C C' : rC} {ad ad' : rA}
theorem up_off {k c : Nat} {xs : List Nat} {mc : Int32} (hI : cInv G T L C ad) (hk : k < 8) (hch : lCh 15 k C ad C' ad') (hsh : lSh G (lUp L 15 k xs c mc) C' ad' 15 k 4) (hx : (∀ j, j ∈ xs → j < nC T) ∧ xs.length ≤ 16 ∧ capB 16 c) : cInv G T (lUp L 15 k xs c mc) C' ad' := by
  refine ⟨⟨hI.1.1.lst hch (by decide), hI.1.2.1.lst (Or.inr (Or.inr (Or.inr (Or.inr (Or.inl ⟨Or.inr rfl, hk, rfl⟩))))) hch hsh, hI.1.2.2.1, ?_⟩, hI.2⟩
  obtain ⟨a1, a2, a3, a4, a5, a6, a7, a8⟩ := hI.1.2.2.2
  have n1 : ∀ {a b : Nat}, ¬ (a = 15 ∧ b = k) → (lUp L 15 k xs c mc).1 a b = L.1 a b ∧ (lUp L 15 k xs c mc).2.1 a b = L.2.1 a b := fun h1 => ⟨lUp_n1 h1, lUp_n2 h1⟩
  unfold cHo
  refine ⟨?_, ?_, ?_, fun i hi => ?_, fun q hq => ?_, fun q hq => ?_, fun q hq => ?_, fun q hq => ?_⟩
  · rw [(n1 (fun z => absurd z.1 (by decide))).1, (n1 (fun z => absurd z.1 (by decide))).2]
    exact a1
  · rw [(n1 (fun z => absurd z.1 (by decide))).1, (n1 (fun z => absurd z.1 (by decide))).2]
    exact a2
  · rw [(n1 (fun z => absurd z.1 (by decide))).1, (n1 (fun z => absurd z.1 (by decide))).2]
    exact a3
  · rw [(n1 (fun z => absurd z.1 (by decide))).1, (n1 (fun z => absurd z.1 (by decide))).2]
    exact a4 i hi
  · rw [(n1 (fun z => absurd z.1 (by decide))).1, (n1 (fun z => absurd z.1 (by decide))).2]
    exact a5 q hq
  · by_cases e : q = k
    · subst e
      rw [lUp_e1, lUp_e2]
      exact hx
    · rw [(n1 (fun z => e z.2)).1, (n1 (fun z => e z.2)).2]
      exact a6 q hq
  · rw [(n1 (fun z => absurd z.1 (by decide))).1, (n1 (fun z => absurd z.1 (by decide))).2, (n1 (fun z => absurd z.1 (by decide))).1, (n1 (fun z => absurd z.1 (by decide))).2]
    exact a7 q hq
  · rw [(n1 (fun z => absurd z.1 (by decide))).1, (n1 (fun z => absurd z.1 (by decide))).1]
    exact a8 q hq
end OF
/-- all lists but one are what they were -/
def lSame (k i : Nat) (L L' : rL) : Prop := ∀ a b, ¬ (a = k ∧ b = i) → L'.1 a b = L.1 a b ∧ L'.2.1 a b = L.2.1 a b
theorem lSame.rf {k i : Nat} {L : rL} : lSame k i L L := fun _ _ _ => ⟨rfl, rfl⟩
theorem lSame.up {k i c : Nat} {L L' : rL} {xs : List Nat} {mc : Int32} (h : lSame k i L L') : lSame k i L (lUp L' k i xs c mc) := fun a b hn => ⟨(lUp_n1 hn).trans (h a b hn).1, (lUp_n2 hn).trans (h a b hn).2⟩
def sOffers (T : rTab) (a : Int32) : sR := match ixO a 8 with
  | none => (1, 0, T)
  | some k => (0, nI (setN (offerB T k) (nD T)), T)
theorem sOffers_1 {T : rTab} {a : Int32} (h : ixO a 8 = none) : sOffers T a = (1, 0, T) := by
  unfold sOffers
  rw [h]
theorem sOffers_0 {T : rTab} {a : Int32} {k : Nat} (h : ixO a 8 = some k) : sOffers T a = (0, nI (setN (offerB T k) (nD T)), T) := by
  unfold sOffers
  rw [h]

set_option maxHeartbeats 4000000 in
set_option maxRecDepth 100000 in
theorem c_X1_listOffers {G : rG} {l : Launch} {T : rTab} {L : rL} {C : rC} {ad : rA} (hI : cInv G T L C ad) {k : Nat} (hk : k < 8) : rMet G l yX1_listOffers cX1_listOffers 4 none (rmM 9 16 544) [.ref (ad 5 k), .ref (ad 10 0)] C ad (rVoid fun C' ad' => (∃ L', cInv G T L' C' ad' ∧ L'.1 15 k = offL T k (nD T) ∧ lSame 15 k L L') ∧ cFr C ad C' ad' ∧ ∀ a, a < 20 → ad' a = ad a) := by
  refine rMet.of (by decide) ?_
  intro p e s m below meth c hx hb hml hr hlocks hown hname hK hZ hS
  have hown : s.vm.findClass RX1 = some m.cls := hown
  have hA : ∀ q : Nat, s.heap.size ≤ q → (rF C ad s.heap.size) q := rF.new
  refine r_entry _ (Nat.le_of_ble_eq_true rfl) (fun ls hl => ?_)
  have hl : lv_has ls 4 [(0, .ref (ad 5 k)), (1, .ref (ad 10 0))] := hl
  have hD := hI.hD
  refine lv_aload_n hx hb dX1_listOffers_0 rfl (lv_at hl 0 rfl) ?_
  refine gf_X1_22 hx hb hown hK hS (hI.col hk) rfl dX1_listOffers_1 ?_
  refine cl_X1_65 hx hb hml hown hK hZ hS hA (l_clear (hI.offered hk) (by decide)) ((hI.offered hk).1) rfl hl.1 (Nat.le_of_ble_eq_true rfl) ⟨Nat.le_of_ble_eq_true rfl, Nat.le_of_ble_eq_true rfl⟩ ⟨Nat.zero_le _, Nat.zero_le _⟩ rfl dX1_listOffers_4 (r_kv (fun C1 ad1 H locs hQ hS => ?_))
  obtain ⟨mc, hsh, hch⟩ := hQ
  have hE1 : ∀ a, a < 20 → ad1 a = ad a := fun a ha => hch.ade (by decide) ha
  have ead10 : ad 5 k = ad1 5 k := (congrFun (hE1 5 (by decide)) k).symm
  try rw [ead10] at hl
  try rw [ead10]
  have ead11 : ad 10 0 = ad1 10 0 := (congrFun (hE1 10 (by decide)) 0).symm
  try rw [ead11] at hl
  try rw [ead11]
  have hI1 := up_off hI hk hch hsh ⟨fun j hj => (nomatch hj), Nat.zero_le _, (hI.hof hk).2.2⟩
  have hF1 : cFr C ad C1 ad1 := cFr.lst hch (by decide)
  obtain ⟨L1, hL1⟩ : ∃ z, z = lUp L 15 k [] (L.2.1 15 k) mc := ⟨_, rfl⟩
  have hs1 : lSame 15 k L L1 := by rw [hL1]; exact lSame.rf.up
  have hx1 : L1.1 15 k = offL T k 0 := by rw [hL1]; exact lUp_e1
  rw [← hL1] at hI1
  refine lv_iconst (v := nI 0) hx hb dX1_listOffers_7 (by decide) ?_
  refine lv_istore_n (lv' := [(2, .int (nI 0)), (0, .ref (ad1 5 k)), (1, .ref (ad1 10 0))]) hx hb dX1_listOffers_8 rfl hl (by decide) rfl (fun ls hl => ?_)
  refine r_loop (σ := Nat × rL × rC × rA) (fun ⟨i, L2, C2, ad2⟩ => nD T - i) (fun ⟨i, L2, C2, ad2⟩ H locs ls => (i ≤ nD T) ∧ (cInv G T L2 C2 ad2) ∧ (L2.1 15 k = offL T k i) ∧ (lSame 15 k L L2) ∧ (cFr C ad C2 ad2) ∧ (∀ a, a < 20 → ad2 a = ad a) ∧ rS G.1 (rF C ad s.heap.size) s.heap C2 ad2 H locs ∧ lv_has ls 4 [(2, .int (nI i)), (0, .ref (ad2 5 k)), (1, .ref (ad2 10 0))]) (fun ⟨i, _, _, _⟩ => i) (fun ⟨i, _, _, _⟩ => 34 * i) (fun z ih H locs ls hI => ?_) (0, L1, C1, ad1) (Nat.le_of_ble_eq_true rfl) (Nat.le_of_ble_eq_true rfl) ⟨Nat.zero_le _, hI1, hx1, hs1, hF1, hE1, hS, lv_sub hl [0, 1, 2] rfl⟩
  obtain ⟨i, L2, C2, ad2⟩ := z
  obtain ⟨hil, hI2, hx2, hs2, hF2, hE2, hS, hl⟩ := hI
  try dsimp only at hil hI2 hx2 hs2 hF2 hE2 hS hl ih ⊢
  refine lv_iload_n hx hb dX1_listOffers_9 rfl (lv_at hl 0 rfl) ?_
  refine lv_aload_n hx hb dX1_listOffers_10 rfl (lv_at hl 2 rfl) ?_
  refine cl_X1_55 hx hb hml hown hK hZ hS hA (l_size (hI2.dies)) ((hI2.dies).1) rfl hl.1 (Nat.le_of_ble_eq_true rfl) ⟨Nat.le_of_ble_eq_true rfl, Nat.le_of_ble_eq_true rfl⟩ ⟨(by dsimp only [rmM, rmP]; omega), (by dsimp only [rmM, rmP]; omega)⟩ rfl dX1_listOffers_11 (r_kp (fun H locs hS => ?_))
  refine r_top (y := nI (nD T)) (by rw [hI2.ldies]) ?_
  refine r_icmp_ge (a := i) (b := nD T) (tgt := 49) hx hb (by omega) (by omega) dX1_listOffers_14 (by decide) (fun q14 => ?_) (fun q14 => ?_)
  · -- T
    obtain rfl : i = nD T := by omega
    exact r_vret hx hb hr hlocks hS (⟨rfl, ⟨L2, hI2, hx2, hs2⟩, hF2, hE2⟩) (by dsimp only [rmM, rmP]; omega) (by dsimp only [rmM, rmP]; omega) dX1_listOffers_49
  · -- F
    have hi := q14
    have hlt16 : (L2.1 15 k).length < 16 := by rw [hx2]; have := offL_len T k i; omega
    refine lv_aload_n hx hb dX1_listOffers_17 rfl (lv_at hl 1 rfl) ?_
    refine lv_aload_n hx hb dX1_listOffers_18 rfl (lv_at hl 2 rfl) ?_
    refine lv_iload_n hx hb dX1_listOffers_19 rfl (lv_at hl 0 rfl) ?_
    refine cl_X1_58 hx hb hml hown hK hZ hS hA (l_get (hI2.dies) (hI2.dieAt hi)) ((hI2.dies).1) rfl hl.1 (Nat.le_of_ble_eq_true rfl) ⟨Nat.le_of_ble_eq_true rfl, Nat.le_of_ble_eq_true rfl⟩ ⟨(by dsimp only [rmM, rmP]; omega), (by dsimp only [rmM, rmP]; omega)⟩ rfl dX1_listOffers_20 (r_kp (fun H locs hS => ?_))
    refine ck_X1_50 hx hb hown hK hS (hI2.die hi) dX1_listOffers_23 ?_
    refine cl_X1_68 hx hb hml hown hK hZ hS hA (c_X1_lowestOffered hI2 hk hi) (hI2.col hk) rfl hl.1 (Nat.le_of_ble_eq_true rfl) ⟨Nat.le_of_ble_eq_true rfl, Nat.le_of_ble_eq_true rfl⟩ ⟨(by dsimp only [rmM, rmP]; omega), (by dsimp only [rmM, rmP]; omega)⟩ rfl dX1_listOffers_26 (r_kp (fun H locs hS => ?_))
    refine r_astoreq_n (lv' := [(3, va_rf ((offer T k i).map (ad2 4))), (2, .int (nI i)), (0, .ref (ad2 5 k)), (1, .ref (ad2 10 0))]) hx hb dX1_listOffers_29 rfl hl (by decide) rfl (fun ls hl => ?_)
    refine r_aloadq_n hx hb dX1_listOffers_30 rfl (lv_at hl 0 rfl) ?_
    refine r_ifnullq (tgt := 43) hx hb dX1_listOffers_31 (by decide) (fun q31 => ?_) (fun x31 q31 => ?_)
    · -- T
      have hm : offer T k i = none := by cases ho : offer T k i with | none => rfl | some m => rw [ho] at q31; cases q31
      refine lv_iinc (v := nI (i + 1)) (lv' := [(2, .int (nI (i + 1))), (3, va_rf ((offer T k i).map (ad2 4))), (0, .ref (ad2 5 k)), (1, .ref (ad2 10 0))]) hx hb dX1_listOffers_43 hl (k := 1) rfl (nI_inc _) (by decide) rfl (fun ls hl => ?_)
      refine lv_goto (tgt := 9) hx hb dX1_listOffers_46 (by decide) ?_
      refine W.widen (by dsimp only [rmM, rmP]; omega) (by dsimp only [rmM, rmP]; omega) (ih (i + 1, L2, C2, ad2) (show nD T - (i + 1) < nD T - i by omega) _ _ _ ⟨(show i + 1 ≤ nD T by omega), hI2, (hx2.trans (offL_n hm).symm), hs2, hF2, hE2, hS, lv_sub hl [0, 2, 3] rfl⟩)
    · -- F
      obtain ⟨m, hm⟩ : ∃ z, offer T k i = some z := by cases ho : offer T k i with | none => rw [ho] at q31; cases q31 | some m => exact ⟨m, rfl⟩
      have hmC : m < nC T := (offer_s hm).1
      rw [hm] at hl
      have hl : lv_has ls 4 [(3, .ref (ad2 4 m)), (2, .int (nI i)), (0, .ref (ad2 5 k)), (1, .ref (ad2 10 0))] := hl
      refine lv_aload_n hx hb dX1_listOffers_34 rfl (lv_at hl 2 rfl) ?_
      refine gf_X1_22 hx hb hown hK hS (hI2.col hk) rfl dX1_listOffers_35 ?_
      refine lv_aload_n hx hb dX1_listOffers_38 rfl (lv_at hl 0 rfl) ?_
      refine cl_X1_28 hx hb hml hown hK hZ hS hA (add_coin hI2.1.1 hI2.1.2.1 (Or.inr (Or.inr (Or.inr (Or.inr (Or.inl ⟨Or.inr rfl, hk, rfl⟩))))) (hI2.offered hk) hmC (hI2.hof hk).1 (M := 16) (by decide) (hI2.hof hk).2.2 hlt16) ((hI2.offered hk).1) rfl hl.1 (Nat.le_of_ble_eq_true rfl) ⟨Nat.le_of_ble_eq_true rfl, Nat.le_of_ble_eq_true rfl⟩ ⟨(by dsimp only [rmM, rmP]; omega), (by dsimp only [rmM, rmP]; omega)⟩ rfl dX1_listOffers_39 (r_kr (fun r C5 ad5 H locs hQ hS => ?_))
      obtain ⟨rfl, m1, hob, hls, hch, hF5, hE5⟩ := hQ
      have ead50 : ad2 4 m = ad5 4 m := (congrFun (hE5 4 (by decide)) m).symm
      try rw [ead50] at hl
      try rw [ead50]
      have ead51 : ad2 5 k = ad5 5 k := (congrFun (hE5 5 (by decide)) k).symm
      try rw [ead51] at hl
      try rw [ead51]
      have ead52 : ad2 10 0 = ad5 10 0 := (congrFun (hE5 10 (by decide)) 0).symm
      try rw [ead52] at hl
      try rw [ead52]
      have hlen1 : (L2.1 15 k ++ [m]).length ≤ 16 := by rw [List.length_append, hx2]; have := offL_len T k i; show _ + 1 ≤ 16; omega
      have hI5 := up_off hI2 hk hch (hls.2.2.2.2.1 k hk).2 ⟨fun j hj => by
        rcases List.mem_append.mp hj with z | z
        · exact (hI2.hof hk).1 j z
        · rw [List.mem_singleton.mp z]; exact hmC, hlen1, capB_add (hI2.hof hk).2.2 hlt16 (hI2.offered hk).2.2.1⟩
      obtain ⟨L5, hL5⟩ : ∃ z, z = lUp L2 15 k (L2.1 15 k ++ [m]) (lCap (L2.1 15 k).length (L2.2.1 15 k)) m1 := ⟨_, rfl⟩
      have hs5 : lSame 15 k L L5 := by rw [hL5]; exact hs2.up
      have hx5 : L5.1 15 k = offL T k (i + 1) := by rw [hL5, offL_s hm, ← hx2]; exact lUp_e1
      rw [← hL5] at hI5
      refine lv_pop hx hb dX1_listOffers_42 rfl ?_
      refine lv_iinc (v := nI (i + 1)) (lv' := [(2, .int (nI (i + 1))), (3, .ref (ad5 4 m)), (0, .ref (ad5 5 k)), (1, .ref (ad5 10 0))]) hx hb dX1_listOffers_43 hl (k := 1) rfl (nI_inc _) (by decide) rfl (fun ls hl => ?_)
      refine lv_goto (tgt := 9) hx hb dX1_listOffers_46 (by decide) ?_
      refine W.widen (by dsimp only [rmM, rmP]; omega) (by dsimp only [rmM, rmP]; omega) (ih (i + 1, L5, C5, ad5) (show nD T - (i + 1) < nD T - i by omega) _ _ _ ⟨(show i + 1 ≤ nD T by omega), hI5, hx5, hs5, (hF2.tr hF5), (fun a ha => (hE5 a ha).trans (hE2 a ha)), hS, lv_sub hl [0, 2, 3] rfl⟩)

set_option maxHeartbeats 4000000 in
set_option maxRecDepth 100000 in
theorem c_X4_offers {G : rG} {l : Launch} {T : rTab} {L : rL} {C : rC} {ad : rA} (hlt : l.stackTraces = false) (hI : cInv G T L C ad) (a : Int32) : rMetX G l yX4_offers cX4_offers 5 (some .int) (rmM 11 18 560) [.ref (ad 0 0), .int a] C ad (pM G C ad (sOffers T a)) (xM G C ad (sOffers T a) ec2) := by
  refine rMetX.of (by decide) ?_
  intro p e s m below meth c hx hb hml hr hlocks hown hname hK hZ hS hex
  have hown : s.vm.findClass RX4 = some m.cls := hown
  have hA : ∀ q : Nat, s.heap.size ≤ q → (rF C ad s.heap.size) q := rF.new
  refine r_entry _ (Nat.le_of_ble_eq_true rfl) (fun ls hl => ?_)
  have hl : lv_has ls 5 [(0, .ref (ad 0 0)), (1, .int a)] := hl
  refine lv_aload_n hx hb dX4_offers_0 rfl (lv_at hl 0 rfl) ?_
  refine lv_iload_n hx hb dX4_offers_1 rfl (lv_at hl 1 rfl) ?_
  refine cl_X4_157 hx hb hml hown hK hZ hS hA (c_X4_theCollector hlt hI a) hI.reg rfl hl.1 (Nat.le_of_ble_eq_true rfl) ⟨Nat.le_of_ble_eq_true rfl, Nat.le_of_ble_eq_true rfl⟩ ⟨Nat.le_of_ble_eq_true rfl, Nat.le_of_ble_eq_true rfl⟩ rfl dX4_offers_2 ?_ (r_kr (fun r C' ad' H locs hQ hS => ?_))
  · -- thrown
    intro E ce q9 C9 ad9 H locs hX9 hS hce hcv hcl
    obtain ⟨⟨rfl, hno⟩, rfl, rfl⟩ := hX9
    exact r_out hex hlocks hS hce hcv hcl (xM.mk (n := 1) (sOffers_1 hno) (by decide) hI) (Nat.le_of_ble_eq_true rfl) (Nat.le_of_ble_eq_true rfl)
  obtain ⟨⟨k, hixk, rfl⟩, rfl, rfl⟩ := hQ
  have hk : k < 8 := ixO_lt hixk
  have hD := hI.hD
  have hfl := offL_len T k (nD T)
  refine lv_astore_n (lv' := [(2, .ref (ad 5 k)), (0, .ref (ad 0 0)), (1, .int a)]) hx hb dX4_offers_5 rfl hl (by decide) rfl (fun ls hl => ?_)
  refine lv_aload_n hx hb dX4_offers_6 rfl (lv_at hl 0 rfl) ?_
  refine lv_aload_n hx hb dX4_offers_7 rfl (lv_at hl 1 rfl) ?_
  refine gf_X4_10 hx hb hown hK hS hI.reg rfl dX4_offers_8 ?_
  refine cl_X4_181 hx hb hml hown hK hZ hS hA (c_X1_listOffers hI hk) (hI.col hk) rfl hl.1 (Nat.le_of_ble_eq_true rfl) ⟨Nat.le_of_ble_eq_true rfl, Nat.le_of_ble_eq_true rfl⟩ ⟨Nat.le_of_ble_eq_true rfl, Nat.le_of_ble_eq_true rfl⟩ rfl dX4_offers_11 (r_kv (fun C5 ad5 H locs hQ hS => ?_))
  obtain ⟨⟨L5, hI5, hx5, hs5⟩, hF5, hE5⟩ := hQ
  have ead50 : ad 5 k = ad5 5 k := (congrFun (hE5 5 (by decide)) k).symm
  try rw [ead50] at hl
  try rw [ead50]
  have ead51 : ad 0 0 = ad5 0 0 := (congrFun (hE5 0 (by decide)) 0).symm
  try rw [ead51] at hl
  try rw [ead51]
  refine lv_iconst (v := nI 0) hx hb dX4_offers_14 (by decide) ?_
  refine lv_istore_n (lv' := [(3, .int (nI 0)), (2, .ref (ad5 5 k)), (0, .ref (ad5 0 0)), (1, .int a)]) hx hb dX4_offers_15 rfl hl (by decide) rfl (fun ls hl => ?_)
  refine lv_iconst (v := nI 0) hx hb dX4_offers_16 (by decide) ?_
  refine lv_istore (lv' := [(4, .int (nI 0)), (3, .int (nI 0)), (2, .ref (ad5 5 k)), (0, .ref (ad5 0 0)), (1, .int a)]) hx hb dX4_offers_17 hl (by decide) rfl (fun ls hl => ?_)
  refine r_loop (σ := Nat) (fun i => (offL T k (nD T)).length - i) (fun i H locs ls => (i ≤ (offL T k (nD T)).length) ∧ rS G.1 (rF C ad s.heap.size) s.heap C5 ad5 H locs ∧ lv_has ls 5 [(4, .int (nI i)), (3, .int (nI (setL (T 5) ((offL T k (nD T)).take i)))), (2, .ref (ad5 5 k))]) (fun _ => 17) (fun _ => 550) (fun z ih H locs ls hI => ?_) 0 (Nat.le_of_ble_eq_true rfl) (Nat.le_of_ble_eq_true rfl) ⟨Nat.zero_le _, hS, lv_sub hl [0, 1, 2] rfl⟩
  obtain ⟨i, rfl⟩ : ∃ y, y = z := ⟨_, rfl⟩
  obtain ⟨hil, hS, hl⟩ := hI
  try dsimp only at hil hS hl ih ⊢
  refine lv_iload hx hb dX4_offers_19 (lv_at hl 0 rfl) ?_
  refine lv_aload_n hx hb dX4_offers_21 rfl (lv_at hl 2 rfl) ?_
  refine gf_X4_185 hx hb hown hK hS (hI5.col hk) rfl dX4_offers_22 ?_
  refine cl_X4_81 hx hb hml hown hK hZ hS hA (l_size (hI5.offered hk)) ((hI5.offered hk).1) rfl hl.1 (Nat.le_of_ble_eq_true rfl) ⟨Nat.le_of_ble_eq_true rfl, Nat.le_of_ble_eq_true rfl⟩ ⟨Nat.le_of_ble_eq_true rfl, Nat.le_of_ble_eq_true rfl⟩ rfl dX4_offers_25 (r_kp (fun H locs hS => ?_))
  refine r_top (y := nI ((offL T k (nD T)).length)) (by rw [hx5]) ?_
  refine r_icmp_ge (a := i) (b := (offL T k (nD T)).length) (tgt := 58) hx hb (by omega) (by omega) dX4_offers_28 (by decide) (fun q28 => ?_) (fun q28 => ?_)
  · -- T
    have hie : i = (offL T k (nD T)).length := by omega
    rw [hie, List.take_length, setL_off] at hl
    refine lv_iload_n hx hb dX4_offers_58 rfl (lv_at hl 1 rfl) ?_
    refine vx_ret ?_
    exact r_iret hx hb hr hlocks hS (pM.mk (sOffers_0 hixk) hI5 hF5) (Nat.le_of_ble_eq_true rfl) (Nat.le_of_ble_eq_true rfl) dX4_offers_59
  · -- F
    obtain ⟨y, hy⟩ : ∃ z, (offL T k (nD T))[i]? = some z := ⟨_, List.getElem?_eq_getElem q28⟩
    have hyC : y < nC T := offL_lt y (List.mem_of_getElem? hy)
    refine lv_iload_n hx hb dX4_offers_31 rfl (lv_at hl 1 rfl) ?_
    refine lv_aload_n hx hb dX4_offers_32 rfl (lv_at hl 2 rfl) ?_
    refine gf_X4_185 hx hb hown hK hS (hI5.col hk) rfl dX4_offers_33 ?_
    refine lv_iload hx hb dX4_offers_36 (lv_at hl 0 rfl) ?_
    refine cl_X4_132 hx hb hml hown hK hZ hS hA (l_get (hI5.offered hk) (by rw [hx5]; exact hy)) ((hI5.offered hk).1) rfl hl.1 (Nat.le_of_ble_eq_true rfl) ⟨Nat.le_of_ble_eq_true rfl, Nat.le_of_ble_eq_true rfl⟩ ⟨Nat.le_of_ble_eq_true rfl, Nat.le_of_ble_eq_true rfl⟩ rfl dX4_offers_38 (r_kp (fun H locs hS => ?_))
    refine ck_X4_88 hx hb hown hK hS (hI5.coin hyC) dX4_offers_41 ?_
    refine gf_X4_109 hx hb hown hK hS (hI5.coin hyC) rfl dX4_offers_44 ?_
    refine cl_X4_139 hx hb hml hown hK hZ hS hA (c_X2_bit hI5 (hI5.odie hyC)) (hI5.die (hI5.odie hyC)) rfl hl.1 (Nat.le_of_ble_eq_true rfl) ⟨Nat.le_of_ble_eq_true rfl, Nat.le_of_ble_eq_true rfl⟩ ⟨Nat.le_of_ble_eq_true rfl, Nat.le_of_ble_eq_true rfl⟩ rfl dX4_offers_47 (r_kp (fun H locs hS => ?_))
    refine lv_ior hx hb dX4_offers_50 ?_
    refine r_top (y := nI (setL (T 5) ((offL T k (nD T)).take (i + 1)))) ((nx_or _ _).trans (by rw [setL_t hy])) ?_
    refine lv_istore_n (lv' := [(3, .int (nI (setL (T 5) ((offL T k (nD T)).take (i + 1))))), (4, .int (nI i)), (2, .ref (ad5 5 k))]) hx hb dX4_offers_51 rfl hl (by decide) rfl (fun ls hl => ?_)
    refine lv_iinc (v := nI (i + 1)) (lv' := [(4, .int (nI (i + 1))), (3, .int (nI (setL (T 5) ((offL T k (nD T)).take (i + 1))))), (2, .ref (ad5 5 k))]) hx hb dX4_offers_52 hl (k := 1) rfl (nI_inc _) (by decide) rfl (fun ls hl => ?_)
    refine lv_goto (tgt := 19) hx hb dX4_offers_55 (by decide) ?_
    exact ih (i + 1) (by omega) _ _ _ ⟨(show i + 1 ≤ (offL T k (nD T)).length by omega), hS, lv_sub hl [0, 1, 2] rfl⟩
