/-! coins lost and gained (printed by wip/whole/gen/comp8.py) -/
theorem er_mem {xs : List Nat} {x j y : Nat} (hn : xs.Nodup) (hx : xs[x]? = some j) : y ∈ xs.eraseIdx x ↔ y ∈ xs ∧ y ≠ j := by
  rw [List.mem_eraseIdx_iff_getElem?]
  constructor
  · intro ⟨i, hi, hy⟩
    refine ⟨List.mem_of_getElem? hy, fun e => hi ?_⟩
    subst e
    exact (List.getElem?_inj (List.getElem?_eq_some_iff.mp hy).1 hn).mp (hy.trans hx.symm)
  · intro ⟨hm, hne⟩
    obtain ⟨i, hi⟩ := List.mem_iff_getElem?.mp hm
    refine ⟨i, fun e => hne ?_, hi⟩
    subst e
    rw [hx] at hi
    exact (Option.some.inj hi).symm
theorem rar_eq {T T' : rTab} (h1 : T' 0 1 = T 0 1) (h4 : T' 4 = T 4) (h5 : T' 5 = T 5) (h7 : T' 7 = T 7) (i : Nat) : rar T' i = rar T i := by
  unfold rar nC
  rw [h1]
  refine cntB_congr fun j _ => ?_
  unfold rarAt tru
  rw [h4, h5, h7]
def gainT (T : rTab) (k j : Nat) : rTab := ru (ru (ru (ru T 8 j (k + 1)) 9 j 0) 21 j 0) 10 k (clrB (T 10 k) (T 5 j))
def sGive (T : rTab) (a b : Int32) : sR := match ixO a (nC T) with
  | none => (1, 0, T)
  | some j => match ixO b 8 with
    | none => (1, 0, T)
    | some k => if T 7 j = 1 ∨ T 8 j ≠ 0 ∨ 10 ≤ ownedN T k then (2, 0, T) else (0, nI (ownedN (gainT T k j) k), gainT T k j)
theorem sGive_1 {T : rTab} {a b : Int32} (h : ixO a (nC T) = none) : sGive T a b = (1, 0, T) := by
  unfold sGive
  rw [h]
theorem sGive_2 {T : rTab} {a b : Int32} {j : Nat} (h : ixO a (nC T) = some j) (h2 : ixO b 8 = none) : sGive T a b = (1, 0, T) := by
  unfold sGive
  rw [h]
  show (match ixO b 8 with | none => _ | some x => _) = _
  rw [h2]
theorem sGive_0 {T : rTab} {a b : Int32} {j k : Nat} (h : ixO a (nC T) = some j) (h2 : ixO b 8 = some k) : sGive T a b = if T 7 j = 1 ∨ T 8 j ≠ 0 ∨ 10 ≤ ownedN T k then (2, 0, T) else (0, nI (ownedN (gainT T k j) k), gainT T k j) := by
  unfold sGive
  rw [h]
  show (match ixO b 8 with | none => _ | some x => _) = _
  rw [h2]
def meltT (T : rTab) (j : Nat) : rTab := ru (ru (ru (ru T 7 j 1) 8 j 0) 9 j 0) 20 (T 5 j) (if tru T j = true then T 20 (T 5 j) - 1 else T 20 (T 5 j))
def sMelt (T : rTab) (a : Int32) : sR := match ixO a (nC T) with
  | none => (1, 0, T)
  | some j => if T 7 j = 1 then (2, 0, T) else (0, nI (T 8 j) - nI 1, meltT T j)
theorem sMelt_1 {T : rTab} {a : Int32} (h : ixO a (nC T) = none) : sMelt T a = (1, 0, T) := by
  unfold sMelt
  rw [h]
theorem sMelt_0 {T : rTab} {a : Int32} {j : Nat} (h : ixO a (nC T) = some j) : sMelt T a = if T 7 j = 1 then (2, 0, T) else (0, nI (T 8 j) - nI 1, meltT T j) := by
  unfold sMelt
  rw [h]
section LO
variable {G : rG} {T T' : rTab} {L : rL} {C C' : rC} {ad ad' : rA}
theorem cInvW.inj4 (hI : cInvW G T L C ad) {D : va_G} {A : Nat → Prop} {H0 H : Heap} {locs : List Loc} (hS : rS D A H0 C ad H locs) {i j : Nat} (hi : i < nC T) (hj : j < nC T) (h : ad 4 i = ad 4 j) : i = j := (hS.1.2 _ _ _ _ _ _ (hI.coin hi) (hI.coin hj) h).2
theorem ow_len (hI : cInvW G T L C ad) {k : Nat} (hk : k < 8) : (L.1 14 k).length = ownedN T k := by
  have h := hI.how hk
  have h1 : ∀ xs : List Nat, sumL (fun _ => 1) xs = xs.length := by
    intro xs
    induction xs with
    | nil => rfl
    | cons x xs ih =>
      show 1 + sumL (fun _ => 1) xs = xs.length + 1
      rw [ih]
      omega
  rw [← h1, ← sumN_list (n := nC T) h.1 (fun j hj => ((h.2.1 j).mp hj).1)]
  unfold ownedN
  rw [cntB_sum]
  refine sumN_congr fun j hj => ?_
  unfold ownAt
  by_cases e : T 8 j = k + 1
  · rw [if_pos ((h.2.1 j).mpr ⟨hj, e⟩), if_pos (decide_eq_true e)]
  · rw [if_neg (fun q => e ((h.2.1 j).mp q).2), if_neg (fun q => e (of_decide_eq_true q))]
theorem cInvW.ext (h : cInvW G T L C ad) (hE : ∀ a b, a ≠ 9 → T' a b = T a b) (h9 : ∀ j, j < nC T → T 8 j ≠ 0 → T' 9 j = T 9 j) : cInvW G T' L C ad := by
  have k : ∀ a, a ≠ 9 → T' a = T a := fun a ha => funext fun b => hE a b ha
  refine h.up (k 0 (by decide)) (k 5 (by decide)) (k 8 (by decide)) (k 12 (by decide)) (k 13 (by decide)) (fun _ _ _ => rfl) (h.1.up (k 0 (by decide)) (fun _ _ _ _ _ _ => rfl) (fun i hi => ?_) (fun _ _ => rfl) (fun j hj => ?_) (fun _ _ => rfl) (fun q hq => ?_)) ?_
  · rw [diO_eq (hE 1 i (by decide)) (hE 2 i (by decide)) (hE 4 i (by decide)) (hE 20 i (by decide))]
    exact h.die hi
  · rw [coO_eq (hE 5 j (by decide)) (hE 6 j (by decide)) (hE 7 j (by decide)) (hE 8 j (by decide)) (hE 21 j (by decide))]
    exact h.coin hj
  · rw [clO_eq (hE 10 q (by decide)) (hE 11 q (by decide))]
    exact h.col hq
  · refine cNu.mk _ (by rw [show nD T' = nD T from hE 0 0 (by decide)]; exact h.hD) (by rw [show nC T' = nC T from hE 0 1 (by decide)]; exact h.hC) (by rw [show nS T' = nS T from hE 0 2 (by decide)]; exact h.hS) (fun i hi => ?_) (fun j hj => ?_) (fun q hq => ?_)
    · rw [show nD T' = nD T from hE 0 0 (by decide)] at hi
      rw [hE 1 i (by decide), hE 2 i (by decide), hE 4 i (by decide)]
      exact h.dn hi
    · rw [show nC T' = nC T from hE 0 1 (by decide)] at hj
      rw [show nD T' = nD T from hE 0 0 (by decide), hE 5 j (by decide), hE 6 j (by decide), hE 7 j (by decide), hE 8 j (by decide), hE 21 j (by decide)]
      have hc := h.cn hj
      exact ⟨hc.1, hc.2.1, hc.2.2.1, hc.2.2.2.1, hc.2.2.2.2.1, hc.2.2.2.2.2.1, fun h8 => (hc.2.2.2.2.2.2 h8).trans (h9 j hj h8).symm⟩
    · rw [hE 10 q (by decide), hE 11 q (by decide)]
      exact h.kn hq
theorem ho_own {k : Nat} {xs : List Nat} {c : Nat} {m : Int32} (h : cHo T L) (hE : ∀ a, a ≠ 8 → a ≠ 9 → a ≠ 10 → a ≠ 21 → T' a = T a) (hk : xs.Nodup ∧ (∀ j, j ∈ xs ↔ j < nC T ∧ T' 8 j = k + 1) ∧ xs.length ≤ 11 ∧ capB 11 c) (ho : ∀ q j, q ≠ k → (T' 8 j = q + 1 ↔ T 8 j = q + 1)) : cHo T' (lUp L 14 k xs c m) := by
  obtain ⟨a1, a2, a3, a4, a5, a6, a7, a8⟩ := h
  have n1 : ∀ {a b : Nat}, ¬ (a = 14 ∧ b = k) → (lUp L 14 k xs c m).1 a b = L.1 a b ∧ (lUp L 14 k xs c m).2.1 a b = L.2.1 a b := fun h1 => ⟨lUp_n1 h1, lUp_n2 h1⟩
  have e0 := hE 0 (by decide) (by decide) (by decide) (by decide)
  unfold cHo nD nC nS
  rw [e0, hE 5 (by decide) (by decide) (by decide) (by decide), hE 12 (by decide) (by decide) (by decide) (by decide), hE 13 (by decide) (by decide) (by decide) (by decide)]
  refine ⟨?_, ?_, ?_, fun i hi => ?_, fun q hq => ?_, fun q hq => ?_, fun q hq => ?_, fun q hq => ?_⟩
  · rw [(n1 (fun z => absurd z.1 (by decide))).1, (n1 (fun z => absurd z.1 (by decide))).2]
    exact a1
  · rw [(n1 (fun z => absurd z.1 (by decide))).1, (n1 (fun z => absurd z.1 (by decide))).2]
    exact a2
  · rw [(n1 (fun z => absurd z.1 (by decide))).1, (n1 (fun z => absurd z.1 (by decide))).2]
    exact a3
  · rw [(n1 (fun z => absurd z.1 (by decide))).1, (n1 (fun z => absurd z.1 (by decide))).2]
    exact a4 i hi
  · by_cases e : q = k
    · subst e
      rw [lUp_e1, lUp_e2]
      exact hk
    · rw [(n1 (fun z => e z.2)).1, (n1 (fun z => e z.2)).2]
      refine ⟨(a5 q hq).1, fun j => ?_, (a5 q hq).2.2⟩
      rw [ho q j e]
      exact (a5 q hq).2.1 j
  · rw [(n1 (fun z => absurd z.1 (by decide))).1, (n1 (fun z => absurd z.1 (by decide))).2]
    exact a6 q hq
  · rw [(n1 (fun z => absurd z.1 (by decide))).1, (n1 (fun z => absurd z.1 (by decide))).2, (n1 (fun z => absurd z.1 (by decide))).1, (n1 (fun z => absurd z.1 (by decide))).2]
    exact a7 q hq
  · rw [(n1 (fun z => absurd z.1 (by decide))).1, (n1 (fun z => absurd z.1 (by decide))).1]
    exact a8 q hq
theorem up_lose (hI : cInvW G T L C ad) {k j x : Nat} {mc : Int32} (hk : k < 8) (hj : j < nC T) (h8 : T 8 j = k + 1) (hx : (L.1 14 k)[x]? = some j) (hch : lCh 14 k C ad C' ad) (hsh : lSh G (lUp L 14 k ((L.1 14 k).eraseIdx x) (L.2.1 14 k) mc) C' ad 14 k 4) : cInvW G (ru T 8 j 0) (lUp L 14 k ((L.1 14 k).eraseIdx x) (L.2.1 14 k) mc) (ru C' 4 j (some (coO (ru T 8 j 0) ad j))) ad := by
  have hob := hI.1.lst hch (by decide)
  have hls := hI.2.1.lst (Or.inr (Or.inr (Or.inr (Or.inr (Or.inl ⟨Or.inl rfl, hk, rfl⟩))))) hch hsh
  have hw := hI.how hk
  refine ⟨hob.coin1 (ruK (by decide)) hj rfl (fun i => rfl) (fun i hi => coO_eq (ru_k (by decide)) (ru_k (by decide)) (ru_k (by decide)) (ru_i hi) (ru_k (by decide))) (fun q => rfl), hls.up (ruK (by decide)) (ru_ge (by decide)), ?_, ?_⟩
  · refine cNu.mk _ hI.hD hI.hC hI.hS (fun i hi => hI.dn hi) (fun i hi => ?_) (fun i hi => hI.kn hi)
    have hc := hI.cn hi
    by_cases e : i = j
    · subst e
      refine ⟨hc.1, hc.2.1, hc.2.2.1, by rw [ru_e]; decide, hc.2.2.2.2.1, fun _ => ru_e, fun z => absurd ru_e z⟩
    · rw [show ru T 8 j 0 8 i = T 8 i from ru_i e]
      exact hc
  · refine ho_own hI.2.2.2 (fun a h8 _ _ _ => ruK h8) ⟨List.Nodup.sublist (List.eraseIdx_sublist _ _) hw.1, fun y => ?_, Nat.le_trans (List.Sublist.length_le (List.eraseIdx_sublist _ _)) hw.2.2.1, hw.2.2.2⟩ (fun q y hq => ?_)
    · rw [er_mem hw.1 hx, hw.2.1]
      by_cases e : y = j
      · rw [e, ru_e]
        omega
      · rw [ru_i e]
        exact ⟨fun z => z.1, fun z => ⟨z, e⟩⟩
    · by_cases e : y = j
      · rw [e, ru_e, h8]
        omega
      · rw [ru_i e]
theorem up_gain (hI : cInvW G T L C ad) {k j : Nat} {mc : Int32} (hk : k < 8) (hj : j < nC T) (h8 : T 8 j = 0) (h7 : T 7 j = 0) (hlen : (L.1 14 k).length < 11) (hob : cOb G T C' ad') (hls : cLs G T (lUp L 14 k (L.1 14 k ++ [j]) (lCap (L.1 14 k).length (L.2.1 14 k)) mc) C' ad') : cInvW G (gainT T k j) (lUp L 14 k (L.1 14 k ++ [j]) (lCap (L.1 14 k).length (L.2.1 14 k)) mc) (ru (ru C' 4 j (some (coO (gainT T k j) ad' j))) 5 k (some (clO (gainT T k j) ad' k))) ad' := by
  have hw := hI.how hk
  have hK : ∀ a, a ≠ 8 → a ≠ 9 → a ≠ 10 → a ≠ 21 → gainT T k j a = T a := fun a h8 h9 h10 h21 => (ruK h10).trans ((ruK h21).trans ((ruK h9).trans (ruK h8)))
  have hJ : ∀ a i, a ≠ 10 → i ≠ j → gainT T k j a i = T a i := fun a i h10 hi => (ru_k h10).trans ((ru_i hi).trans ((ru_i hi).trans (ru_i hi)))
  have g8 : gainT T k j 8 j = k + 1 := (ru_k (by decide)).trans ((ru_k (by decide)).trans ((ru_k (by decide)).trans ru_e))
  have g9 : gainT T k j 9 j = 0 := (ru_k (by decide)).trans ((ru_k (by decide)).trans ru_e)
  have g21 : gainT T k j 21 j = 0 := (ru_k (by decide)).trans ru_e
  have hb1 : cOb G (ru (ru (ru T 8 j (k + 1)) 9 j 0) 21 j 0) (ru C' 4 j (some (coO (gainT T k j) ad' j))) ad' := hob.coin1 ((ruK (by decide)).trans ((ruK (by decide)).trans (ruK (by decide)))) hj rfl (fun i => rfl) (fun i hi => coO_eq rfl rfl rfl ((ru_k (by decide)).trans ((ru_k (by decide)).trans (ru_i hi))) (ru_i hi |>.trans ((ru_k (by decide)).trans (ru_k (by decide))))) (fun q => rfl)
  refine ⟨hb1.col1 (ruK (by decide)) hk rfl (fun i => rfl) (fun i => rfl) (fun q hq => clO_eq (ru_i hq) rfl), (hls.up (hK 0 (by decide) (by decide) (by decide) (by decide)) (fun a b ha => (ru_k (by omega)).trans (ru_k (by omega)))), ?_, ?_⟩
  · refine cNu.mk _ hI.hD hI.hC hI.hS (fun i hi => hI.dn hi) (fun i hi => ?_) (fun i hi => ?_)
    · have hc := hI.cn hi
      by_cases e : i = j
      · subst e
        refine ⟨hc.1, hc.2.1, hc.2.2.1, by rw [g8]; omega, by rw [g21]; omega, fun z => ?_, fun _ => by rw [g21, g9]⟩
        exact absurd (show T 7 i = 1 from z) (by omega)
      · rw [hJ 8 i (by decide) e, hJ 9 i (by decide) e, hJ 21 i (by decide) e]
        exact hc
    · refine ⟨?_, (hI.kn hi).2⟩
      by_cases e : i = k
      · rw [e]
        show ru _ 10 k _ 10 k < _
        rw [ru_e]
        exact Nat.lt_of_le_of_lt (clrB_le _ _) (hI.kn hk).1
      · show ru _ 10 k _ 10 i < _
        rw [ru_i e]
        exact (hI.kn hi).1
  · refine ho_own hI.2.2.2 hK ⟨?_, fun y => ?_, by rw [List.length_append]; exact hlen, capB_add hw.2.2.2 hlen (hI.owned hk).2.2.1⟩ (fun q y hq => ?_)
    · refine List.nodup_append.mpr ⟨hw.1, List.pairwise_singleton _ _, fun a ha b hb e => ?_⟩
      rw [List.mem_singleton.mp hb] at e
      subst e
      have := ((hw.2.1 a).mp ha).2
      omega
    · rw [List.mem_append, hw.2.1, List.mem_singleton]
      by_cases e : y = j
      · rw [e, g8]
        exact ⟨fun _ => ⟨hj, rfl⟩, fun _ => Or.inr rfl⟩
      · rw [hJ 8 y (by decide) e]
        exact ⟨fun z => z.elim id (fun z => absurd z e), fun z => Or.inl z⟩
    · by_cases e : y = j
      · rw [e, g8, h8]
        omega
      · rw [hJ 8 y (by decide) e]
theorem gainT_k {k j a : Nat} (h8 : a ≠ 8) (h9 : a ≠ 9) (h10 : a ≠ 10) (h21 : a ≠ 21) : gainT T k j a = T a := (ruK h10).trans ((ruK h21).trans ((ruK h9).trans (ruK h8)))
theorem gainT_rr (h : cRr T) {k j : Nat} : cRr (gainT T k j) := by
  intro i hi
  have e := rar_eq (T := T) (T' := gainT T k j) rfl (gainT_k (by decide) (by decide) (by decide) (by decide)) (gainT_k (by decide) (by decide) (by decide) (by decide)) (gainT_k (by decide) (by decide) (by decide) (by decide)) i
  rw [e]
  exact h i hi
theorem cntB_pt {p q : Nat → Bool} {n j : Nat} (hj : j < n) (hp : p j = true) (hq : q j = false) (h : ∀ i, i ≠ j → q i = p i) : cntB q n = cntB p n - 1 := by
  have h1 := sumN_pt (f := fun i => if p i = true then 1 else 0) (g := fun i => if q i = true then 1 else 0) hj (fun i hi => by show (if p i = true then 1 else 0) = (if q i = true then 1 else 0); rw [h i hi]) (by show (if q j = true then 1 else 0) = 0; rw [hq]; rfl)
  rw [← cntB_sum, ← cntB_sum] at h1
  have h2 : (if p j = true then 1 else 0) = 1 := if_pos hp
  have h3 : cntB p n = cntB q n + (if p j = true then 1 else 0) := h1
  rw [h2] at h3
  omega
end LO

set_option maxHeartbeats 4000000 in
set_option maxRecDepth 100000 in
theorem c_bit {G : rG} {l : Launch} {C : rC} {ad : rA} {d : Nat} {v1 v2 v3 v4 v5 v6 : Value} (hd : C 1 d = some (.inr (3, [.int (nI d), v1, v2, v3, v4, v5, v6]))) (h16 : d < 16) : rMet G l yX2_bit cX2_bit 1 (some .int) (rmP 1) [.ref (ad 1 d)] C ad (rPure C ad (.int (nI (2 ^ d)))) := by
  refine rMet.of (by decide) ?_
  intro p e s m below meth c hx hb hml hr hlocks hown hname hK hZ hS
  have hown : s.vm.findClass RX2 = some m.cls := hown
  have hA : ∀ q : Nat, s.heap.size ≤ q → (rF C ad s.heap.size) q := rF.new
  refine r_entry _ (Nat.le_of_ble_eq_true rfl) (fun ls hl => ?_)
  have hl : lv_has ls 1 [(0, .ref (ad 1 d))] := hl
  refine lv_iconst (v := nI 1) hx hb dX2_bit_0 (by decide) ?_
  refine lv_aload_n hx hb dX2_bit_1 rfl (lv_at hl 0 rfl) ?_
  refine gf_X2_18 hx hb hown hK hS hd rfl dX2_bit_2 ?_
  refine lv_ishl hx hb dX2_bit_5 ?_
  refine r_top (y := nI (2 ^ d)) (bit_i d h16) ?_
  exact r_iret hx hb hr hlocks hS (⟨rfl, rfl, rfl⟩) (Nat.zero_le _) (Nat.zero_le _) dX2_bit_6

set_option maxHeartbeats 4000000 in
set_option maxRecDepth 100000 in
theorem c_ownerW {G : rG} {l : Launch} {T : rTab} {L : rL} {C : rC} {ad : rA} (hI : cInvW G T L C ad) {j : Nat} (hj : j < nC T) : rMet G l yX0_ownerNumber cX0_ownerNumber 1 (some .int) (rmP 1) [.ref (ad 4 j)] C ad (rPure C ad (.int (nI (T 8 j) - nI 1))) := by
  refine rMet.of (by decide) ?_
  intro p e s m below meth c hx hb hml hr hlocks hown hname hK hZ hS
  have hown : s.vm.findClass RX0 = some m.cls := hown
  have hA : ∀ q : Nat, s.heap.size ≤ q → (rF C ad s.heap.size) q := rF.new
  refine r_entry _ (Nat.le_of_ble_eq_true rfl) (fun ls hl => ?_)
  have hl : lv_has ls 1 [(0, .ref (ad 4 j))] := hl
  have hn := hI.cn hj
  refine lv_aload_n hx hb dX0_ownerNumber_0 rfl (lv_at hl 0 rfl) ?_
  refine gf_X0_40 hx hb hown hK hS (hI.coin hj) rfl dX0_ownerNumber_1 ?_
  refine r_ifnonnullq (tgt := 11) hx hb dX0_ownerNumber_4 (by decide) (fun x4 q4 => ?_) (fun q4 => ?_)
  · -- T
    have h8 : ¬ T 8 j = 0 := fun e => by rw [if_pos e] at q4; cases q4
    rw [if_neg h8] at q4
    cases q4
    refine lv_aload_n hx hb dX0_ownerNumber_11 rfl (lv_at hl 0 rfl) ?_
    refine gf_X0_40 hx hb hown hK hS (hI.coin hj) rfl dX0_ownerNumber_12 ?_
    refine r_topv (y := .ref (ad 5 (T 8 j - 1))) (by rw [if_neg h8]; rfl) ?_
    refine gf_X0_44 hx hb hown hK hS (hI.col (show T 8 j - 1 < 8 by omega)) rfl dX0_ownerNumber_15 ?_
    exact r_iret hx hb hr hlocks hS (⟨by rw [pk_sub (by omega)], rfl, rfl⟩) (Nat.zero_le _) (Nat.zero_le _) dX0_ownerNumber_18
  · -- F
    have h8 : T 8 j = 0 := by
      by_cases e : T 8 j = 0
      · exact e
      · rw [if_neg e] at q4; cases q4
    refine lv_iconst (v := (-1)) hx hb dX0_ownerNumber_7 (by decide) ?_
    refine lv_goto (tgt := 18) hx hb dX0_ownerNumber_8 (by decide) ?_
    exact r_iret hx hb hr hlocks hS (⟨by rw [h8]; rfl, rfl, rfl⟩) (Nat.zero_le _) (Nat.zero_le _) dX0_ownerNumber_18

set_option maxHeartbeats 4000000 in
set_option maxRecDepth 100000 in
theorem c_X1_lose {G : rG} {l : Launch} {T : rTab} {L : rL} {C : rC} {ad : rA} (hI : cInvW G T L C ad) {k : Nat} (hk : k < 8) {j : Nat} (hj : j < nC T) (h8 : T 8 j = k + 1) : rMet G l yX1_lose cX1_lose 3 none (rmP 5) [.ref (ad 5 k), .ref (ad 4 j)] C ad (rVoid fun C' ad' => (∃ L', cInvW G (ru T 8 j 0) L' C' ad' ∧ ∀ a b, a ≠ 14 → L'.1 a b = L.1 a b) ∧ cFr C ad C' ad' ∧ ad = ad') := by
  refine rMet.of (by decide) ?_
  intro p e s m below meth c hx hb hml hr hlocks hown hname hK hZ hS
  have hown : s.vm.findClass RX1 = some m.cls := hown
  have hA : ∀ q : Nat, s.heap.size ≤ q → (rF C ad s.heap.size) q := rF.new
  refine r_entry _ (Nat.le_of_ble_eq_true rfl) (fun ls hl => ?_)
  have hl : lv_has ls 3 [(0, .ref (ad 5 k)), (1, .ref (ad 4 j))] := hl
  have hlen := (hI.how hk).2.2.1
  have hmem := ((hI.how hk).2.1 j).mpr ⟨hj, h8⟩
  refine lv_iconst (v := nI 0) hx hb dX1_lose_0 (by decide) ?_
  refine lv_istore_n (lv' := [(2, .int (nI 0)), (0, .ref (ad 5 k)), (1, .ref (ad 4 j))]) hx hb dX1_lose_1 rfl hl (by decide) rfl (fun ls hl => ?_)
  refine r_loop (σ := Nat) (fun i => (L.1 14 k).length - i) (fun i H locs ls => (i ≤ (L.1 14 k).length) ∧ (∀ x y, x < i → (L.1 14 k)[x]? = some y → y ≠ j) ∧ rS G.1 (rF C ad s.heap.size) s.heap C ad H locs ∧ lv_has ls 3 [(2, .int (nI i)), (0, .ref (ad 5 k)), (1, .ref (ad 4 j))]) (fun _ => 0) (fun _ => 0) (fun z ih H locs ls hI => ?_) 0 (Nat.zero_le _) (Nat.zero_le _) ⟨Nat.zero_le _, fun x a hx => absurd hx (Nat.not_lt_zero _), hS, lv_sub hl [0, 1, 2] rfl⟩
  obtain ⟨i, rfl⟩ : ∃ y, y = z := ⟨_, rfl⟩
  obtain ⟨hil, hz, hS, hl⟩ := hI
  try dsimp only at hil hz hS hl ih ⊢
  refine lv_iload_n hx hb dX1_lose_2 rfl (lv_at hl 0 rfl) ?_
  refine lv_aload_n hx hb dX1_lose_3 rfl (lv_at hl 1 rfl) ?_
  refine gf_X1_18 hx hb hown hK hS (hI.col hk) rfl dX1_lose_4 ?_
  refine cl_X1_55 hx hb hml hown hK hZ hS hA (l_size (hI.owned hk)) ((hI.owned hk).1) rfl hl.1 (Nat.le_of_ble_eq_true rfl) ⟨Nat.le_of_ble_eq_true rfl, Nat.le_of_ble_eq_true rfl⟩ ⟨Nat.zero_le _, Nat.zero_le _⟩ rfl dX1_lose_7 (r_kp (fun H locs hS => ?_))
  refine r_icmp_ge (a := i) (b := (L.1 14 k).length) (tgt := 43) hx hb (by omega) (by omega) dX1_lose_10 (by decide) (fun q10 => ?_) (fun q10 => ?_)
  · -- T
    obtain ⟨x, hx⟩ := List.mem_iff_getElem?.mp hmem
    exact absurd rfl (hz x j (by have := (List.getElem?_eq_some_iff.mp hx).1; omega) hx)
  · -- F
    have h1 : (L.1 14 k)[i]? = some (L.1 14 k)[i] := List.getElem?_eq_getElem q10
    obtain ⟨y, hy⟩ : ∃ z, (L.1 14 k)[i]? = some z := ⟨_, h1⟩
    have hyC : y < nC T := (((hI.how hk).2.1 y).mp (List.mem_of_getElem? hy)).1
    refine lv_aload_n hx hb dX1_lose_13 rfl (lv_at hl 1 rfl) ?_
    refine gf_X1_18 hx hb hown hK hS (hI.col hk) rfl dX1_lose_14 ?_
    refine lv_iload_n hx hb dX1_lose_17 rfl (lv_at hl 0 rfl) ?_
    refine cl_X1_58 hx hb hml hown hK hZ hS hA (l_get (hI.owned hk) hy) ((hI.owned hk).1) rfl hl.1 (Nat.le_of_ble_eq_true rfl) ⟨Nat.le_of_ble_eq_true rfl, Nat.le_of_ble_eq_true rfl⟩ ⟨Nat.zero_le _, Nat.zero_le _⟩ rfl dX1_lose_18 (r_kp (fun H locs hS => ?_))
    refine lv_aload_n hx hb dX1_lose_21 rfl (lv_at hl 2 rfl) ?_
    refine r_acmp_ne (tgt := 37) hx hb dX1_lose_22 (by decide) (fun q22 => ?_) (fun q22 => ?_)
    · -- T
      have q22 : y ≠ j := fun e => q22 (by rw [e])
      refine lv_iinc (v := nI (i + 1)) (lv' := [(2, .int (nI (i + 1))), (0, .ref (ad 5 k)), (1, .ref (ad 4 j))]) hx hb dX1_lose_37 hl (k := 0) rfl (nI_inc _) (by decide) rfl (fun ls hl => ?_)
      refine lv_goto (tgt := 2) hx hb dX1_lose_40 (by decide) ?_
      exact ih (i + 1) (by omega) _ _ _ ⟨(show i + 1 ≤ (L.1 14 k).length by omega), (fun x a hx hxa => by
              by_cases e : x = i
              · rw [e, hy] at hxa
                cases hxa
                exact q22
              · exact hz x a (by omega) hxa), hS, lv_sub hl [0, 1, 2] rfl⟩
    · -- F
      have q22 : y = j := hI.inj4 hS hyC hj q22
      refine lv_aload_n hx hb dX1_lose_25 rfl (lv_at hl 1 rfl) ?_
      refine gf_X1_18 hx hb hown hK hS (hI.col hk) rfl dX1_lose_26 ?_
      refine lv_iload_n hx hb dX1_lose_29 rfl (lv_at hl 0 rfl) ?_
      refine cl_X1_62 hx hb hml hown hK hZ hS hA (l_remove (hI.owned hk) (by decide) hy rCa_X0 (by decide) (fun x hx => ⟨_, hI.coin (((hI.how hk).2.1 x).mp hx).1⟩)) ((hI.owned hk).1) rfl hl.1 (Nat.le_of_ble_eq_true rfl) ⟨Nat.le_of_ble_eq_true rfl, Nat.le_of_ble_eq_true rfl⟩ ⟨Nat.zero_le _, Nat.zero_le _⟩ rfl dX1_lose_30 (r_kr (fun r C' ad' H locs hQ hS => ?_))
      obtain ⟨rfl, rfl, mc, hsh, hch⟩ := hQ
      obtain ⟨C4, hC4⟩ : ∃ z, z = C' := ⟨_, rfl⟩
      rw [← hC4] at hS hsh hch
      have hob : cOb G T C4 ad := hI.1.lst hch (by decide)
      rw [q22] at hy
      have hu := up_lose hI hk hj h8 hy hch hsh
      have hFr : cFr C ad C4 ad := cFr.lst hch (by decide)
      refine lv_pop hx hb dX1_lose_33 rfl ?_
      refine lv_goto (tgt := 43) hx hb dX1_lose_34 (by decide) ?_
      refine lv_aload_n hx hb dX1_lose_43 rfl (lv_at hl 2 rfl) ?_
      refine lv_null hx hb dX1_lose_44 ?_
      refine pf_X1_32 hx hb hown hK hS ((hob.2.2.2.2.1 j).trans (if_pos hj)) rfl rfl (fs' := [.int (nI j), .ref (ad 1 (T 5 j)), .int (nI (T 6 j)), .null, .int (nI (T 7 j)), .int (nI (T 21 j))]) (Nat.le_of_ble_eq_true rfl) rfl dX1_lose_45 (fun H locs hS => ?_)
      exact r_vret hx hb hr hlocks hS (⟨rfl, ⟨_, by unfold coO at hu; rw [show ru T 8 j 0 8 j = 0 from ru_e] at hu; exact hu, fun a b ha => lUp_n1 (fun z => ha z.1)⟩, hFr.tr (cFr.ru1 (by decide)), rfl⟩) (Nat.zero_le _) (Nat.zero_le _) dX1_lose_48

set_option maxHeartbeats 4000000 in
set_option maxRecDepth 100000 in
theorem c_X1_gain {G : rG} {l : Launch} {T : rTab} {L : rL} {C : rC} {ad : rA} (hI : cInvW G T L C ad) {k : Nat} (hk : k < 8) {j : Nat} (hj : j < nC T) (h8 : T 8 j = 0) (h7 : T 7 j = 0) (hlen : (L.1 14 k).length < 11) : rMet G l yX1_gain cX1_gain 2 none (rmM 9 1 26) [.ref (ad 5 k), .ref (ad 4 j)] C ad (rVoid fun C' ad' => (∃ L', cInvW G (gainT T k j) L' C' ad' ∧ ∀ a b, a ≠ 14 → L'.1 a b = L.1 a b) ∧ cFr C ad C' ad' ∧ ∀ a, a < 20 → ad' a = ad a) := by
  refine rMet.of (by decide) ?_
  intro p e s m below meth c hx hb hml hr hlocks hown hname hK hZ hS
  have hown : s.vm.findClass RX1 = some m.cls := hown
  have hA : ∀ q : Nat, s.heap.size ≤ q → (rF C ad s.heap.size) q := rF.new
  refine r_entry _ (Nat.le_of_ble_eq_true rfl) (fun ls hl => ?_)
  have hl : lv_has ls 2 [(0, .ref (ad 5 k)), (1, .ref (ad 4 j))] := hl
  have hD := hI.hD
  have hod := hI.odie hj
  refine lv_aload_n hx hb dX1_gain_0 rfl (lv_at hl 0 rfl) ?_
  refine gf_X1_18 hx hb hown hK hS (hI.col hk) rfl dX1_gain_1 ?_
  refine lv_aload_n hx hb dX1_gain_4 rfl (lv_at hl 1 rfl) ?_
  refine cl_X1_28 hx hb hml hown hK hZ hS hA (add_coin hI.1 hI.2.1 (Or.inr (Or.inr (Or.inr (Or.inr (Or.inl ⟨Or.inl rfl, hk, rfl⟩))))) (hI.owned hk) hj (fun x hx => (((hI.how hk).2.1 x).mp hx).1) (M := 11) (by decide) (hI.how hk).2.2.2 hlen) ((hI.owned hk).1) rfl hl.1 (Nat.le_of_ble_eq_true rfl) ⟨Nat.le_of_ble_eq_true rfl, Nat.le_of_ble_eq_true rfl⟩ ⟨Nat.le_of_ble_eq_true rfl, Nat.le_of_ble_eq_true rfl⟩ rfl dX1_gain_5 (r_kr (fun r C5 ad5 H locs hQ hS => ?_))
  obtain ⟨rfl, m1, hob, hls, hch, hF5, hE5⟩ := hQ
  have ead50 : ad 5 k = ad5 5 k := (congrFun (hE5 5 (by decide)) k).symm
  try rw [ead50] at hl
  try rw [ead50]
  have ead51 : ad 4 j = ad5 4 j := (congrFun (hE5 4 (by decide)) j).symm
  try rw [ead51] at hl
  try rw [ead51]
  have hu := up_gain hI hk hj h8 h7 hlen hob hls
  refine lv_pop hx hb dX1_gain_8 rfl ?_
  refine lv_aload_n hx hb dX1_gain_9 rfl (lv_at hl 1 rfl) ?_
  refine lv_aload_n hx hb dX1_gain_10 rfl (lv_at hl 0 rfl) ?_
  refine pf_X1_32 hx hb hown hK hS ((hob.2.2.2.2.1 j).trans (if_pos hj)) rfl rfl (fs' := [.int (nI j), .ref (ad5 1 (T 5 j)), .int (nI (T 6 j)), .ref (ad5 5 k), .int (nI (T 7 j)), .int (nI (T 21 j))]) (Nat.le_of_ble_eq_true rfl) rfl dX1_gain_11 (fun H locs hS => ?_)
  refine lv_aload_n hx hb dX1_gain_14 rfl (lv_at hl 1 rfl) ?_
  refine lv_iconst (v := nI 0) hx hb dX1_gain_15 (by decide) ?_
  refine pf_X1_38 hx hb hown hK hS ru_e rfl rfl (fs' := [.int (nI j), .ref (ad5 1 (T 5 j)), .int (nI (T 6 j)), .ref (ad5 5 k), .int (nI (T 7 j)), .int (nI 0)]) (Nat.le_of_ble_eq_true rfl) rfl dX1_gain_16 (fun H locs hS => ?_)
  rw [ru_ru] at hS
  refine lv_aload_n hx hb dX1_gain_19 rfl (lv_at hl 0 rfl) ?_
  refine lv_dup hx hb dX1_gain_20 rfl ?_
  refine gf_X1_42 hx hb hown hK hS ((ru_k (by decide)).trans (hob.2.2.2.2.2.1 k hk)) rfl dX1_gain_21 ?_
  refine lv_aload_n hx hb dX1_gain_24 rfl (lv_at hl 1 rfl) ?_
  refine gf_X1_45 hx hb hown hK hS ru_e rfl dX1_gain_25 ?_
  refine cl_X1_49 hx hb hml hown hK hZ hS hA (c_bit ((ru_k (by decide)).trans ((hob.2.2.2.1 (T 5 j)).trans (if_pos hod))) (by omega)) ((ru_k (by decide)).trans ((hob.2.2.2.1 (T 5 j)).trans (if_pos (hI.odie hj)))) rfl hl.1 (Nat.le_of_ble_eq_true rfl) ⟨Nat.le_of_ble_eq_true rfl, Nat.le_of_ble_eq_true rfl⟩ ⟨Nat.le_of_ble_eq_true rfl, Nat.le_of_ble_eq_true rfl⟩ rfl dX1_gain_28 (r_kp (fun H locs hS => ?_))
  refine lv_iconst (v := (-1)) hx hb dX1_gain_31 (by decide) ?_
  refine lv_ixor hx hb dX1_gain_32 ?_
  refine r_top (y := nI (2 ^ T 5 j) ^^^ (-1)) rfl ?_
  refine lv_iand hx hb dX1_gain_33 ?_
  refine r_top (y := nI (clrB (T 10 k) (T 5 j))) (clr_i _ _) ?_
  refine pf_X1_42 hx hb hown hK hS ((ru_k (by decide)).trans (hob.2.2.2.2.2.1 k hk)) rfl rfl (fs' := [.int (nI k), .int (nI (clrB (T 10 k) (T 5 j))), .int (nI (T 11 k)), .ref (ad5 14 k), .ref (ad5 15 k)]) (Nat.le_of_ble_eq_true rfl) rfl dX1_gain_34 (fun H locs hS => ?_)
  exact r_vret hx hb hr hlocks hS (⟨rfl, ⟨_, by unfold coO clO at hu; rw [show gainT T k j 21 j = 0 from (ru_k (by decide)).trans ru_e, show gainT T k j 8 j = k + 1 from (ru_k (by decide)).trans ((ru_k (by decide)).trans ((ru_k (by decide)).trans ru_e)), show gainT T k j 10 k = clrB (T 10 k) (T 5 j) from ru_e] at hu; exact hu, fun a b ha => lUp_n1 (fun z => ha z.1)⟩, hF5.tr ((cFr.ru1 (by decide)).tr (cFr.ru1 (by decide))), hE5⟩) (Nat.le_of_ble_eq_true rfl) (Nat.le_of_ble_eq_true rfl) dX1_gain_37
