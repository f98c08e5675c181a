/-! collectors and rings: what is read (printed by wip/whole/gen/comp2.py) -/
theorem dif_pos {a b : Nat} (ha : a ≤ 20000) (hb : b ≤ 20000) : 0 < nI a - nI b ↔ b < a := by
  rw [Int32.lt_iff_toInt_lt, pk_sub_toInt (by omega) (by omega)]
  show (0 : Int) < _ ↔ _
  omega
theorem dif_eq {a b : Nat} (ha : a ≤ 20000) (hb : b ≤ 20000) : nI a - nI b = 0 ↔ a = b := by
  rw [← Int32.toInt_inj, pk_sub_toInt (by omega) (by omega)]
  show _ = (0 : Int) ↔ _
  omega
theorem va_cat (r : Option Nat) : (va_rf r).category = 1 := by cases r <;> rfl
theorem mn0 {a : Nat} : (if nI a < nI a then nI a else nI a) = nI a := by split <;> rfl
theorem cInv.owAt {G : rG} {T : rTab} {L : rL} {C : rC} {ad : rA} (hI : cInv G T L C ad) {k : Nat} (hk : k < 8) {x : Nat} (hx : x < (L.1 14 k).length) : ∃ y, (L.1 14 k)[x]? = some y ∧ y < nC T ∧ T 8 y = k + 1 := by
  have h1 : (L.1 14 k)[x]? = some (L.1 14 k)[x] := List.getElem?_eq_getElem hx
  exact ⟨_, h1, ((hI.how hk).2.1 _).mp (List.mem_of_getElem? h1)⟩
theorem ow_sum {G : rG} {T : rTab} {L : rL} {C : rC} {ad : rA} (hI : cInv G T L C ad) {k : Nat} (hk : k < 8) (f : Nat → Nat) : sumL f (L.1 14 k) = sumN (fun j => if ownAt T k j = true then f j else 0) (nC T) := by
  have h := hI.how hk
  rw [← sumN_list (n := nC T) h.1 (fun j hj => ((h.2.1 j).mp hj).1)]
  refine sumN_congr fun j hj => ?_
  unfold ownAt
  by_cases e : T 8 j = k + 1
  · rw [if_pos ((h.2.1 j).mpr ⟨hj, e⟩), if_pos (decide_eq_true e)]
  · rw [if_neg (fun q => e ((h.2.1 j).mp q).2), if_neg (fun q => e (of_decide_eq_true q))]
def hitAt (T : rTab) (d : Nat) (j : Nat) : Bool := decide (T 5 j = d) && tru T j
def hit1 (T : rTab) (d : Nat) (j : Nat) : Nat := if hitAt T d j = true then 1 else 0
def mkd (T : rTab) (j : Nat) : Bool := decide (T 21 j = 1)
theorem low_end {G : rG} {T : rTab} {L : rL} {C : rC} {ad : rA} (hI : cInv G T L C ad) {k : Nat} (hk : k < 8) (d : Nat) : sumL (hit1 T d) (L.1 14 k) = cntB (offAt T k d) (nC T) ∧ lowAt (hitAt T d) (L.1 14 k) (L.1 14 k).length = fstB (offAt T k d) (nC T) := by
  have h := hI.how hk
  have e : ∀ j, offAt T k d j = (ownAt T k j && hitAt T d j) := fun j => by
    unfold offAt ownAt hitAt
    cases decide (T 5 j = d) <;> cases decide (T 8 j = k + 1) <;> rfl
  have hm : ∀ j, j < nC T → offAt T k d j = true → j ∈ L.1 14 k ∧ hitAt T d j = true := fun j hj ho => by
    rw [e, Bool.and_eq_true] at ho
    exact ⟨(h.2.1 j).mpr ⟨hj, of_decide_eq_true ho.1⟩, ho.2⟩
  have hm2 : ∀ j, j ∈ L.1 14 k → hitAt T d j = true → j < nC T ∧ offAt T k d j = true := fun j hj ho => by
    have h2 := (h.2.1 j).mp hj
    refine ⟨h2.1, ?_⟩
    rw [e, Bool.and_eq_true]
    exact ⟨decide_eq_true h2.2, ho⟩
  constructor
  · rw [cntB_sum, ow_sum hI hk]
    refine sumN_congr fun j hj => ?_
    rw [e]
    unfold hit1
    cases ownAt T k j <;> cases hitAt T d j <;> rfl
  · have hl := lowAt_mem (p := hitAt T d) (xs := L.1 14 k) (L.1 14 k).length
    cases ho : lowAt (hitAt T d) (L.1 14 k) (L.1 14 k).length with
    | none =>
      refine (fstB_none.mpr fun j hj => ?_).symm
      cases hq : offAt T k d j with
      | false => rfl
      | true =>
        obtain ⟨h1, h2⟩ := hm j hj hq
        obtain ⟨x, hx⟩ := List.mem_iff_getElem?.mp h1
        obtain ⟨m, hm3, -⟩ := hl.2 x j (List.getElem?_eq_some_iff.mp hx).1 hx h2
        rw [ho] at hm3
        cases hm3
    | some m =>
      obtain ⟨h1, h2⟩ := hl.1 m ho
      obtain ⟨h3, h4⟩ := hm2 m h1 h2
      refine (fstB_some.mpr ⟨h3, h4, fun j hj => ?_⟩).symm
      cases hq : offAt T k d j with
      | false => rfl
      | true =>
        obtain ⟨h5, h6⟩ := hm j (by omega) hq
        obtain ⟨x, hx⟩ := List.mem_iff_getElem?.mp h5
        obtain ⟨m', hm3, hm4⟩ := hl.2 x j (List.getElem?_eq_some_iff.mp hx).1 hx h6
        rw [ho] at hm3
        cases hm3
        omega
theorem cnt_one {p : Nat → Bool} {n i j : Nat} (hc : cntB p n ≤ 1) (hi : i < n) (hj : j < n) (h1 : p i = true) (h2 : p j = true) : i = j := by
  have key : ∀ n, ∀ a b, a < b → b < n → p a = true → p b = true → 1 < cntB p n := by
    intro n
    induction n with
    | zero => intro a b _ hb; exact absurd hb (Nat.not_lt_zero _)
    | succ n ih =>
      intro a b hab hb ha hb2
      by_cases e : b = n
      · subst e
        rw [cntB_t hb2]
        have := cntB_pos hab ha
        omega
      · have := ih a b hab (by omega) ha hb2
        show 1 < cntB p n + (if p n = true then 1 else 0)
        omega
  rcases Nat.lt_trichotomy i j with g | g | g
  · have := key n i j g hj h1 h2
    omega
  · exact g
  · have := key n j i g hi h2 h1
    omega
theorem off_end {G : rG} {T : rTab} {L : rL} {C : rC} {ad : rA} (hI : cInv G T L C ad) {k : Nat} (hk : k < 8) (d : Nat) : (if 1 < sumL (hit1 T d) (L.1 14 k) ∨ anyAt (hitAt T d) (mkd T) (L.1 14 k) (L.1 14 k).length = true then lowAt (hitAt T d) (L.1 14 k) (L.1 14 k).length else none) = offer T k d := by
  have h := hI.how hk
  obtain ⟨e1, e2⟩ := low_end hI hk d
  rw [e1, e2]
  unfold offer
  have e : ∀ j, offAt T k d j = (ownAt T k j && hitAt T d j) := fun j => by
    unfold offAt ownAt hitAt
    cases decide (T 5 j = d) <;> cases decide (T 8 j = k + 1) <;> rfl
  cases hf : fstB (offAt T k d) (nC T) with
  | none => split <;> rfl
  | some m =>
    obtain ⟨m1, m2, m3⟩ := fstB_some.mp hf
    show _ = if 1 < cntB (offAt T k d) (nC T) ∨ T 9 m = 1 then some m else none
    by_cases hc : 1 < cntB (offAt T k d) (nC T)
    · rw [if_pos (Or.inl hc), if_pos (Or.inl hc)]
    · have hmo : T 8 m = k + 1 ∧ hitAt T d m = true := by
        have := m2
        rw [e, Bool.and_eq_true] at this
        exact ⟨of_decide_eq_true this.1, this.2⟩
      have h9 : T 21 m = T 9 m := (hI.cn m1).2.2.2.2.2.2 (by omega)
      have ha : anyAt (hitAt T d) (mkd T) (L.1 14 k) (L.1 14 k).length = true ↔ T 9 m = 1 := by
        rw [anyAt_iff]
        constructor
        · intro ⟨x, j, hx, hxj, hp, hq⟩
          have hj := (h.2.1 j).mp (List.mem_of_getElem? hxj)
          have hoj : offAt T k d j = true := by
            rw [e, Bool.and_eq_true]
            exact ⟨decide_eq_true hj.2, hp⟩
          have : j = m := cnt_one (by omega) hj.1 m1 hoj m2
          subst this
          rw [← h9]
          exact of_decide_eq_true hq
        · intro h1
          obtain ⟨x, hx⟩ := List.mem_iff_getElem?.mp ((h.2.1 m).mpr ⟨m1, hmo.1⟩)
          exact ⟨x, m, (List.getElem?_eq_some_iff.mp hx).1, hx, hmo.2, decide_eq_true (by rw [h9]; exact h1)⟩
      by_cases h1 : T 9 m = 1
      · rw [if_pos (Or.inr (ha.mpr h1)), if_pos (Or.inr h1)]
      · rw [if_neg (fun q => q.elim hc (fun z => h1 (ha.mp z))), if_neg (fun q => q.elim hc h1)]
theorem ahead_end {G : rG} {T : rTab} {L : rL} {C : rC} {ad : rA} (hI : cInv G T L C ad) {k : Nat} (hk : k < 8) (j : Nat) : sumL (fun o => if priceN T j < priceN T o ∨ (priceN T o = priceN T j ∧ o < j) then 1 else 0) (L.1 14 k) = aheadN T k j := by
  unfold aheadN
  rw [cntB_sum, ow_sum hI hk]
  refine sumN_congr fun o ho => ?_
  unfold aheadOf
  cases ownAt T k o with
  | false => rfl
  | true =>
    rw [if_pos rfl, Bool.true_and]
    by_cases h1 : priceN T j < priceN T o
    · rw [if_pos (Or.inl h1), decide_eq_true h1]
      rfl
    · by_cases h2 : priceN T o = priceN T j ∧ o < j
      · rw [if_pos (Or.inr h2), decide_eq_true h2.1, decide_eq_true h2.2, Bool.and_true, Bool.or_true]
        rfl
      · rw [if_neg (fun q => q.elim h1 h2), decide_eq_false h1, Bool.false_or]
        by_cases h3 : priceN T o = priceN T j
        · rw [decide_eq_true h3, decide_eq_false (fun z => h2 ⟨h3, z⟩)]
          rfl
        · rw [decide_eq_false h3]
          rfl
/-! rings: xs the collectors, ys the coins that they give -/
def wantB (T : rTab) (k d : Nat) : Bool := (T 10 k).testBit d
def fairB (T : rTab) (k got given : Nat) : Bool := decide (T 11 k * priceN T given ≤ priceN T got * 100)
def mayJ (T : rTab) (xs ys : List Nat) (k : Nat) : Bool := match xs[0]? with
  | none => true
  | some c0 => if k ≤ c0 ∨ k ∈ xs then false else match ys[xs.length - 1]? with
    | none => false
    | some j => wantB T k (T 5 j)
def pleaB (T : rTab) (xs ys : List Nat) (k j : Nat) : Bool := if xs.length = 0 then true else match ys[xs.length - 1]? with
  | none => true
  | some p => fairB T k p j
def closB (T : rTab) (xs ys : List Nat) : Bool := if xs.length < 2 then false else match xs[0]?, ys[xs.length - 1]?, ys[0]? with
  | some c0, some g, some g0 => wantB T c0 (T 5 g) && fairB T c0 g g0
  | _, _, _ => false
theorem cInv.gvAt {G : rG} {T : rTab} {L : rL} {C : rC} {ad : rA} (hI : cInv G T L C ad) {q : Nat} (hq : q ≤ nS T) {x : Nat} (hx : x < (L.1 16 q).length) : ∃ y, (L.1 16 q)[x]? = some y ∧ y < 8 := by
  have h1 : (L.1 16 q)[x]? = some (L.1 16 q)[x] := List.getElem?_eq_getElem hx
  exact ⟨_, h1, (hI.hrg hq).1 _ (List.mem_of_getElem? h1)⟩
theorem cInv.gfAt {G : rG} {T : rTab} {L : rL} {C : rC} {ad : rA} (hI : cInv G T L C ad) {q : Nat} (hq : q ≤ nS T) {x : Nat} (hx : x < (L.1 16 q).length) : ∃ y, (L.1 17 q)[x]? = some y ∧ y < nC T := by
  have h1 : (L.1 17 q)[x]? = some ((L.1 17 q)[x]'(by rw [← (hI.hrg hq).2.2.1]; exact hx)) := List.getElem?_eq_getElem _
  exact ⟨_, h1, (hI.hrg hq).2.1 _ (List.mem_of_getElem? h1)⟩

set_option maxHeartbeats 4000000 in
set_option maxRecDepth 100000 in
theorem c_X1_isAfter {G : rG} {l : Launch} {T : rTab} {L : rL} {C : rC} {ad : rA} (hI : cInv G T L C ad) {k : Nat} (hk : k < 8) {d : Nat} (hd : d < nD T) : rMet G l yX1_isAfter cX1_isAfter 2 (some .boolean) (rmP 2) [.ref (ad 5 k), .ref (ad 1 d)] C ad (rPure C ad (.int (bI (wantB T k d)))) := by
  refine rMet.of (by decide) ?_
  intro p e s m below meth c hx hb hml hr hlocks hown hname hK hZ hS
  have hown : s.vm.findClass RX1 = some m.cls := hown
  have hA : ∀ q : Nat, s.heap.size ≤ q → (rF C ad s.heap.size) q := rF.new
  refine r_entry _ (Nat.le_of_ble_eq_true rfl) (fun ls hl => ?_)
  have hl : lv_has ls 2 [(0, .ref (ad 5 k)), (1, .ref (ad 1 d))] := hl
  have hle := Nat.and_le_left (n := T 10 k) (m := 2 ^ d)
  have hkn := (hI.kn hk).1
  refine lv_aload_n hx hb dX1_isAfter_0 rfl (lv_at hl 0 rfl) ?_
  refine gf_X1_42 hx hb hown hK hS (hI.col hk) rfl dX1_isAfter_1 ?_
  refine lv_aload_n hx hb dX1_isAfter_4 rfl (lv_at hl 1 rfl) ?_
  refine cl_X1_49 hx hb hml hown hK hZ hS hA (c_X2_bit hI hd) (hI.die hd) rfl hl.1 (Nat.le_of_ble_eq_true rfl) ⟨Nat.le_of_ble_eq_true rfl, Nat.le_of_ble_eq_true rfl⟩ ⟨Nat.zero_le _, Nat.zero_le _⟩ rfl dX1_isAfter_5 (r_kp (fun H locs hS => ?_))
  refine lv_iand hx hb dX1_isAfter_8 ?_
  refine r_top (y := nI (T 10 k &&& 2 ^ d)) (nx_and _ _) ?_
  refine r_if_eq (a := T 10 k &&& 2 ^ d) (tgt := 16) hx hb (by omega) dX1_isAfter_9 (by decide) (fun q9 => ?_) (fun q9 => ?_)
  · -- T
    refine lv_iconst (v := nI 0) hx hb dX1_isAfter_16 (by decide) ?_
    exact r_zret hx hb hr hlocks hS rfl (⟨by unfold wantB; rw [Bool.eq_false_iff.mpr (fun z => absurd q9 (land_ne.mpr z))]; rfl, rfl, rfl⟩) (Nat.zero_le _) (Nat.zero_le _) dX1_isAfter_17
  · -- F
    refine lv_iconst (v := nI 1) hx hb dX1_isAfter_12 (by decide) ?_
    refine lv_goto (tgt := 17) hx hb dX1_isAfter_13 (by decide) ?_
    exact r_zret hx hb hr hlocks hS rfl (⟨by unfold wantB; rw [land_ne.mp q9]; rfl, rfl, rfl⟩) (Nat.zero_le _) (Nat.zero_le _) dX1_isAfter_17

set_option maxHeartbeats 4000000 in
set_option maxRecDepth 100000 in
theorem c_X1_isContentWith {G : rG} {l : Launch} {T : rTab} {L : rL} {C : rC} {ad : rA} (hI : cInv G T L C ad) {k : Nat} (hk : k < 8) {j : Nat} (hj : j < nC T) {j2 : Nat} (hj2 : j2 < nC T) : rMet G l yX1_isContentWith cX1_isContentWith 3 (some .boolean) (rmP 4) [.ref (ad 5 k), .ref (ad 4 j), .ref (ad 4 j2)] C ad (rPure C ad (.int (bI (fairB T k j j2)))) := by
  refine rMet.of (by decide) ?_
  intro p e s m below meth c hx hb hml hr hlocks hown hname hK hZ hS
  have hown : s.vm.findClass RX1 = some m.cls := hown
  have hA : ∀ q : Nat, s.heap.size ≤ q → (rF C ad s.heap.size) q := rF.new
  refine r_entry _ (Nat.le_of_ble_eq_true rfl) (fun ls hl => ?_)
  have hl : lv_has ls 3 [(0, .ref (ad 5 k)), (1, .ref (ad 4 j)), (2, .ref (ad 4 j2))] := hl
  have p1 := priceN_le T j
  have p2 := priceN_le T j2
  have hkn := (hI.kn hk).2
  have hmul : T 11 k * priceN T j2 ≤ 100 * 20000 := Nat.mul_le_mul hkn p2
  refine lv_aload_n hx hb dX1_isContentWith_0 rfl (lv_at hl 1 rfl) ?_
  refine cl_X1_77 hx hb hml hown hK hZ hS hA (c_X0_priceNow hI hj) (hI.coin hj) rfl hl.1 (Nat.le_of_ble_eq_true rfl) ⟨Nat.le_of_ble_eq_true rfl, Nat.le_of_ble_eq_true rfl⟩ ⟨Nat.zero_le _, Nat.zero_le _⟩ rfl dX1_isContentWith_1 (r_kp (fun H locs hS => ?_))
  refine lv_bipush (v := nI 100) hx hb dX1_isContentWith_4 (by decide) ?_
  refine lv_imul hx hb dX1_isContentWith_6 ?_
  refine r_top (pk_mul _ _) ?_
  refine lv_aload_n hx hb dX1_isContentWith_7 rfl (lv_at hl 0 rfl) ?_
  refine gf_X1_9 hx hb hown hK hS (hI.col hk) rfl dX1_isContentWith_8 ?_
  refine lv_aload_n hx hb dX1_isContentWith_11 rfl (lv_at hl 2 rfl) ?_
  refine cl_X1_77 hx hb hml hown hK hZ hS hA (c_X0_priceNow hI hj2) (hI.coin hj2) rfl hl.1 (Nat.le_of_ble_eq_true rfl) ⟨Nat.le_of_ble_eq_true rfl, Nat.le_of_ble_eq_true rfl⟩ ⟨Nat.zero_le _, Nat.zero_le _⟩ rfl dX1_isContentWith_12 (r_kp (fun H locs hS => ?_))
  refine lv_imul hx hb dX1_isContentWith_15 ?_
  refine r_top (pk_mul _ _) ?_
  refine r_icmp_lt (a := (priceN T j) * 100) (b := (T 11 k) * (priceN T j2)) (tgt := 23) hx hb (by omega) (by omega) dX1_isContentWith_16 (by decide) (fun q16 => ?_) (fun q16 => ?_)
  · -- T
    refine lv_iconst (v := nI 0) hx hb dX1_isContentWith_23 (by decide) ?_
    exact r_zret hx hb hr hlocks hS rfl (⟨by unfold fairB; rw [decide_eq_false (by omega)]; rfl, rfl, rfl⟩) (Nat.zero_le _) (Nat.zero_le _) dX1_isContentWith_24
  · -- F
    refine lv_iconst (v := nI 1) hx hb dX1_isContentWith_19 (by decide) ?_
    refine lv_goto (tgt := 24) hx hb dX1_isContentWith_20 (by decide) ?_
    exact r_zret hx hb hr hlocks hS rfl (⟨by unfold fairB; rw [decide_eq_true (by omega)]; rfl, rfl, rfl⟩) (Nat.zero_le _) (Nat.zero_le _) dX1_isContentWith_24

set_option maxHeartbeats 4000000 in
set_option maxRecDepth 100000 in
theorem c_X1_countDearerThan {G : rG} {l : Launch} {T : rTab} {L : rL} {C : rC} {ad : rA} (hI : cInv G T L C ad) {k : Nat} (hk : k < 8) {j : Nat} (hj : j < nC T) : rMet G l yX1_countDearerThan cX1_countDearerThan 6 (some .int) (rmP 4) [.ref (ad 5 k), .ref (ad 4 j)] C ad (rPure C ad (.int (nI (aheadN T k j)))) := by
  refine rMet.of (by decide) ?_
  intro p e s m below meth c hx hb hml hr hlocks hown hname hK hZ hS
  have hown : s.vm.findClass RX1 = some m.cls := hown
  have hA : ∀ q : Nat, s.heap.size ≤ q → (rF C ad s.heap.size) q := rF.new
  refine r_entry _ (Nat.le_of_ble_eq_true rfl) (fun ls hl => ?_)
  have hl : lv_has ls 6 [(0, .ref (ad 5 k)), (1, .ref (ad 4 j))] := hl
  have hlen := (hI.how hk).2.2.1
  have hC := hI.hC
  have p1 := priceN_le T j
  refine lv_iconst (v := nI 0) hx hb dX1_countDearerThan_0 (by decide) ?_
  refine lv_istore_n (lv' := [(2, .int (nI 0)), (0, .ref (ad 5 k)), (1, .ref (ad 4 j))]) hx hb dX1_countDearerThan_1 rfl hl (by decide) rfl (fun ls hl => ?_)
  refine lv_iconst (v := nI 0) hx hb dX1_countDearerThan_2 (by decide) ?_
  refine lv_istore_n (lv' := [(3, .int (nI 0)), (2, .int (nI 0)), (0, .ref (ad 5 k)), (1, .ref (ad 4 j))]) hx hb dX1_countDearerThan_3 rfl hl (by decide) rfl (fun ls hl => ?_)
  refine r_loop (σ := Nat) (fun i => (L.1 14 k).length - i) (fun i H locs ls => (i ≤ (L.1 14 k).length) ∧ rS G.1 (rF C ad s.heap.size) s.heap C ad H locs ∧ lv_has ls 6 [(3, .int (nI i)), (2, .int (nI (sumL (fun o => if priceN T j < priceN T o ∨ (priceN T o = priceN T j ∧ o < j) then 1 else 0) ((L.1 14 k).take i)))), (0, .ref (ad 5 k)), (1, .ref (ad 4 j))]) (fun _ => 0) (fun _ => 0) (fun z ih H locs ls hI => ?_) 0 (Nat.zero_le _) (Nat.zero_le _) ⟨Nat.zero_le _, hS, lv_sub hl [0, 1, 2, 3] rfl⟩
  obtain ⟨i, rfl⟩ : ∃ y, y = z := ⟨_, rfl⟩
  obtain ⟨hil, hS, hl⟩ := hI
  try dsimp only at hil hS hl ih ⊢
  refine lv_iload_n hx hb dX1_countDearerThan_4 rfl (lv_at hl 0 rfl) ?_
  refine lv_aload_n hx hb dX1_countDearerThan_5 rfl (lv_at hl 2 rfl) ?_
  refine gf_X1_18 hx hb hown hK hS (hI.col hk) rfl dX1_countDearerThan_6 ?_
  refine cl_X1_55 hx hb hml hown hK hZ hS hA (l_size (hI.owned hk)) ((hI.owned hk).1) rfl hl.1 (Nat.le_of_ble_eq_true rfl) ⟨Nat.le_of_ble_eq_true rfl, Nat.le_of_ble_eq_true rfl⟩ ⟨Nat.zero_le _, Nat.zero_le _⟩ rfl dX1_countDearerThan_9 (r_kp (fun H locs hS => ?_))
  refine r_icmp_ge (a := i) (b := (L.1 14 k).length) (tgt := 71) hx hb (by omega) (by omega) dX1_countDearerThan_12 (by decide) (fun q12 => ?_) (fun q12 => ?_)
  · -- T
    have hie : i = (L.1 14 k).length := by omega
    rw [hie, List.take_length, ahead_end hI hk] at hl
    refine lv_iload_n hx hb dX1_countDearerThan_71 rfl (lv_at hl 1 rfl) ?_
    exact r_iret hx hb hr hlocks hS (⟨rfl, rfl, rfl⟩) (Nat.zero_le _) (Nat.zero_le _) dX1_countDearerThan_72
  · -- F
    obtain ⟨y, hy, hyC, hy8⟩ := hI.owAt hk q12
    have p2 := priceN_le T y
    refine lv_aload_n hx hb dX1_countDearerThan_15 rfl (lv_at hl 2 rfl) ?_
    refine gf_X1_18 hx hb hown hK hS (hI.col hk) rfl dX1_countDearerThan_16 ?_
    refine lv_iload_n hx hb dX1_countDearerThan_19 rfl (lv_at hl 0 rfl) ?_
    refine cl_X1_58 hx hb hml hown hK hZ hS hA (l_get (hI.owned hk) hy) ((hI.owned hk).1) rfl hl.1 (Nat.le_of_ble_eq_true rfl) ⟨Nat.le_of_ble_eq_true rfl, Nat.le_of_ble_eq_true rfl⟩ ⟨Nat.zero_le _, Nat.zero_le _⟩ rfl dX1_countDearerThan_20 (r_kp (fun H locs hS => ?_))
    refine ck_X1_33 hx hb hown hK hS (hI.coin hyC) dX1_countDearerThan_23 ?_
    refine lv_astore (lv' := [(4, .ref (ad 4 y)), (3, .int (nI i)), (2, .int (nI (sumL (fun o => if priceN T j < priceN T o ∨ (priceN T o = priceN T j ∧ o < j) then 1 else 0) ((L.1 14 k).take i)))), (0, .ref (ad 5 k)), (1, .ref (ad 4 j))]) hx hb dX1_countDearerThan_26 hl (by decide) rfl (fun ls hl => ?_)
    refine lv_aload hx hb dX1_countDearerThan_28 (lv_at hl 0 rfl) ?_
    refine cl_X1_77 hx hb hml hown hK hZ hS hA (c_X0_priceNow hI hyC) (hI.coin hyC) rfl hl.1 (Nat.le_of_ble_eq_true rfl) ⟨Nat.le_of_ble_eq_true rfl, Nat.le_of_ble_eq_true rfl⟩ ⟨Nat.zero_le _, Nat.zero_le _⟩ rfl dX1_countDearerThan_30 (r_kp (fun H locs hS => ?_))
    refine lv_aload_n hx hb dX1_countDearerThan_33 rfl (lv_at hl 4 rfl) ?_
    refine cl_X1_77 hx hb hml hown hK hZ hS hA (c_X0_priceNow hI hj) (hI.coin hj) rfl hl.1 (Nat.le_of_ble_eq_true rfl) ⟨Nat.le_of_ble_eq_true rfl, Nat.le_of_ble_eq_true rfl⟩ ⟨Nat.zero_le _, Nat.zero_le _⟩ rfl dX1_countDearerThan_34 (r_kp (fun H locs hS => ?_))
    refine lv_isub hx hb dX1_countDearerThan_37 ?_
    refine lv_istore (lv' := [(5, .int ((nI (priceN T y)) - (nI (priceN T j)))), (4, .ref (ad 4 y)), (3, .int (nI i)), (2, .int (nI (sumL (fun o => if priceN T j < priceN T o ∨ (priceN T o = priceN T j ∧ o < j) then 1 else 0) ((L.1 14 k).take i)))), (0, .ref (ad 5 k)), (1, .ref (ad 4 j))]) hx hb dX1_countDearerThan_38 hl (by decide) rfl (fun ls hl => ?_)
    refine lv_iload hx hb dX1_countDearerThan_40 (lv_at hl 0 rfl) ?_
    refine lv_if_gt (tgt := 62) hx hb dX1_countDearerThan_42 (by decide) (fun q42 => ?_) (fun q42 => ?_)
    · -- T
      have qf : priceN T j < priceN T y ∨ (priceN T y = priceN T j ∧ y < j) := Or.inl ((dif_pos p2 p1).mp q42)
      refine lv_iinc (v := nI (sumL (fun o => if priceN T j < priceN T o ∨ (priceN T o = priceN T j ∧ o < j) then 1 else 0) ((L.1 14 k).take (i + 1)))) (lv' := [(2, .int (nI (sumL (fun o => if priceN T j < priceN T o ∨ (priceN T o = priceN T j ∧ o < j) then 1 else 0) ((L.1 14 k).take (i + 1))))), (5, .int ((nI (priceN T y)) - (nI (priceN T j)))), (4, .ref (ad 4 y)), (3, .int (nI i)), (0, .ref (ad 5 k)), (1, .ref (ad 4 j))]) hx hb dX1_countDearerThan_62 hl (k := 3) rfl (by rw [nI_inc, sumL_take hy, if_pos qf]) (by decide) rfl (fun ls hl => ?_)
      refine lv_iinc (v := nI (i + 1)) (lv' := [(3, .int (nI (i + 1))), (2, .int (nI (sumL (fun o => if priceN T j < priceN T o ∨ (priceN T o = priceN T j ∧ o < j) then 1 else 0) ((L.1 14 k).take (i + 1))))), (5, .int ((nI (priceN T y)) - (nI (priceN T j)))), (4, .ref (ad 4 y)), (0, .ref (ad 5 k)), (1, .ref (ad 4 j))]) hx hb dX1_countDearerThan_65 hl (k := 3) rfl (nI_inc _) (by decide) rfl (fun ls hl => ?_)
      refine lv_goto (tgt := 4) hx hb dX1_countDearerThan_68 (by decide) ?_
      exact ih (i + 1) (by omega) _ _ _ ⟨(show i + 1 ≤ (L.1 14 k).length by omega), hS, lv_sub hl [0, 1, 4, 5] rfl⟩
    · -- F
      have q42 : ¬ priceN T j < priceN T y := fun z => q42 ((dif_pos p2 p1).mpr z)
      refine lv_iload hx hb dX1_countDearerThan_45 (lv_at hl 0 rfl) ?_
      refine lv_if_ne (tgt := 65) hx hb dX1_countDearerThan_47 (by decide) (fun q47 => ?_) (fun q47 => ?_)
      · -- T
        have qf : ¬ (priceN T j < priceN T y ∨ (priceN T y = priceN T j ∧ y < j)) := fun z => z.elim q42 (fun z => q47 ((dif_eq p2 p1).mpr z.1))
        rw [show nI (sumL (fun o => if priceN T j < priceN T o ∨ (priceN T o = priceN T j ∧ o < j) then 1 else 0) ((L.1 14 k).take i)) = nI (sumL (fun o => if priceN T j < priceN T o ∨ (priceN T o = priceN T j ∧ o < j) then 1 else 0) ((L.1 14 k).take (i + 1))) by rw [sumL_take hy, if_neg qf]; rfl] at hl
        refine lv_iinc (v := nI (i + 1)) (lv' := [(3, .int (nI (i + 1))), (5, .int ((nI (priceN T y)) - (nI (priceN T j)))), (4, .ref (ad 4 y)), (2, .int (nI (sumL (fun o => if priceN T j < priceN T o ∨ (priceN T o = priceN T j ∧ o < j) then 1 else 0) ((L.1 14 k).take (i + 1))))), (0, .ref (ad 5 k)), (1, .ref (ad 4 j))]) hx hb dX1_countDearerThan_65 hl (k := 2) rfl (nI_inc _) (by decide) rfl (fun ls hl => ?_)
        refine lv_goto (tgt := 4) hx hb dX1_countDearerThan_68 (by decide) ?_
        exact ih (i + 1) (by omega) _ _ _ ⟨(show i + 1 ≤ (L.1 14 k).length by omega), hS, lv_sub hl [0, 3, 4, 5] rfl⟩
      · -- F
        have q47 : priceN T y = priceN T j := (dif_eq p2 p1).mp q47
        refine lv_aload hx hb dX1_countDearerThan_50 (lv_at hl 1 rfl) ?_
        refine gf_X1_76 hx hb hown hK hS (hI.coin hyC) rfl dX1_countDearerThan_52 ?_
        refine lv_aload_n hx hb dX1_countDearerThan_55 rfl (lv_at hl 5 rfl) ?_
        refine gf_X1_76 hx hb hown hK hS (hI.coin hj) rfl dX1_countDearerThan_56 ?_
        refine r_icmp_ge (a := y) (b := j) (tgt := 65) hx hb (by omega) (by omega) dX1_countDearerThan_59 (by decide) (fun q59 => ?_) (fun q59 => ?_)
        · -- T
          have qf : ¬ (priceN T j < priceN T y ∨ (priceN T y = priceN T j ∧ y < j)) := fun z => z.elim q42 (fun z => by omega)
          rw [show nI (sumL (fun o => if priceN T j < priceN T o ∨ (priceN T o = priceN T j ∧ o < j) then 1 else 0) ((L.1 14 k).take i)) = nI (sumL (fun o => if priceN T j < priceN T o ∨ (priceN T o = priceN T j ∧ o < j) then 1 else 0) ((L.1 14 k).take (i + 1))) by rw [sumL_take hy, if_neg qf]; rfl] at hl
          refine lv_iinc (v := nI (i + 1)) (lv' := [(3, .int (nI (i + 1))), (5, .int ((nI (priceN T y)) - (nI (priceN T j)))), (4, .ref (ad 4 y)), (2, .int (nI (sumL (fun o => if priceN T j < priceN T o ∨ (priceN T o = priceN T j ∧ o < j) then 1 else 0) ((L.1 14 k).take (i + 1))))), (0, .ref (ad 5 k)), (1, .ref (ad 4 j))]) hx hb dX1_countDearerThan_65 hl (k := 2) rfl (nI_inc _) (by decide) rfl (fun ls hl => ?_)
          refine lv_goto (tgt := 4) hx hb dX1_countDearerThan_68 (by decide) ?_
          exact ih (i + 1) (by omega) _ _ _ ⟨(show i + 1 ≤ (L.1 14 k).length by omega), hS, lv_sub hl [0, 3, 4, 5] rfl⟩
        · -- F
          have qf : priceN T j < priceN T y ∨ (priceN T y = priceN T j ∧ y < j) := Or.inr ⟨q47, q59⟩
          refine lv_iinc (v := nI (sumL (fun o => if priceN T j < priceN T o ∨ (priceN T o = priceN T j ∧ o < j) then 1 else 0) ((L.1 14 k).take (i + 1)))) (lv' := [(2, .int (nI (sumL (fun o => if priceN T j < priceN T o ∨ (priceN T o = priceN T j ∧ o < j) then 1 else 0) ((L.1 14 k).take (i + 1))))), (5, .int ((nI (priceN T y)) - (nI (priceN T j)))), (4, .ref (ad 4 y)), (3, .int (nI i)), (0, .ref (ad 5 k)), (1, .ref (ad 4 j))]) hx hb dX1_countDearerThan_62 hl (k := 3) rfl (by rw [nI_inc, sumL_take hy, if_pos qf]) (by decide) rfl (fun ls hl => ?_)
          refine lv_iinc (v := nI (i + 1)) (lv' := [(3, .int (nI (i + 1))), (2, .int (nI (sumL (fun o => if priceN T j < priceN T o ∨ (priceN T o = priceN T j ∧ o < j) then 1 else 0) ((L.1 14 k).take (i + 1))))), (5, .int ((nI (priceN T y)) - (nI (priceN T j)))), (4, .ref (ad 4 y)), (0, .ref (ad 5 k)), (1, .ref (ad 4 j))]) hx hb dX1_countDearerThan_65 hl (k := 3) rfl (nI_inc _) (by decide) rfl (fun ls hl => ?_)
          refine lv_goto (tgt := 4) hx hb dX1_countDearerThan_68 (by decide) ?_
          exact ih (i + 1) (by omega) _ _ _ ⟨(show i + 1 ≤ (L.1 14 k).length by omega), hS, lv_sub hl [0, 1, 4, 5] rfl⟩

set_option maxHeartbeats 4000000 in
set_option maxRecDepth 100000 in
theorem c_X1_lowestOffered {G : rG} {l : Launch} {T : rTab} {L : rL} {C : rC} {ad : rA} (hI : cInv G T L C ad) {k : Nat} (hk : k < 8) {d : Nat} (hd : d < nD T) : rMet G l yX1_lowestOffered cX1_lowestOffered 7 (some (.object "DieRegister$Coin")) (rmP 4) [.ref (ad 5 k), .ref (ad 1 d)] C ad (rPure C ad (va_rf ((offer T k d).map (ad 4)))) := by
  refine rMet.of (by decide) ?_
  intro p e s m below meth c hx hb hml hr hlocks hown hname hK hZ hS
  have hown : s.vm.findClass RX1 = some m.cls := hown
  have hA : ∀ q : Nat, s.heap.size ≤ q → (rF C ad s.heap.size) q := rF.new
  refine r_entry _ (Nat.le_of_ble_eq_true rfl) (fun ls hl => ?_)
  have hl : lv_has ls 7 [(0, .ref (ad 5 k)), (1, .ref (ad 1 d))] := hl
  have hlen := (hI.how hk).2.2.1
  have hC := hI.hC
  refine lv_null hx hb dX1_lowestOffered_0 ?_
  refine lv_astore_nN (lv' := [(2, .null), (0, .ref (ad 5 k)), (1, .ref (ad 1 d))]) hx hb dX1_lowestOffered_1 rfl hl (by decide) rfl (fun ls hl => ?_)
  refine lv_iconst (v := nI 0) hx hb dX1_lowestOffered_2 (by decide) ?_
  refine lv_istore_n (lv' := [(3, .int (nI 0)), (2, .null), (0, .ref (ad 5 k)), (1, .ref (ad 1 d))]) hx hb dX1_lowestOffered_3 rfl hl (by decide) rfl (fun ls hl => ?_)
  refine lv_iconst (v := nI 0) hx hb dX1_lowestOffered_4 (by decide) ?_
  refine lv_istore (lv' := [(4, .int (nI 0)), (3, .int (nI 0)), (2, .null), (0, .ref (ad 5 k)), (1, .ref (ad 1 d))]) hx hb dX1_lowestOffered_5 hl (by decide) rfl (fun ls hl => ?_)
  refine lv_iconst (v := nI 0) hx hb dX1_lowestOffered_7 (by decide) ?_
  refine lv_istore (lv' := [(5, .int (nI 0)), (4, .int (nI 0)), (3, .int (nI 0)), (2, .null), (0, .ref (ad 5 k)), (1, .ref (ad 1 d))]) hx hb dX1_lowestOffered_8 hl (by decide) rfl (fun ls hl => ?_)
  refine r_loop (σ := Nat) (fun i => (L.1 14 k).length - i) (fun i H locs ls => (i ≤ (L.1 14 k).length) ∧ rS G.1 (rF C ad s.heap.size) s.heap C ad H locs ∧ lv_has ls 7 [(5, .int (nI i)), (4, .int (bI (anyAt (hitAt T d) (mkd T) (L.1 14 k) i))), (3, .int (nI (sumL (hit1 T d) ((L.1 14 k).take i)))), (2, va_rf ((lowAt (hitAt T d) (L.1 14 k) i).map (ad 4))), (0, .ref (ad 5 k)), (1, .ref (ad 1 d))]) (fun _ => 0) (fun _ => 0) (fun z ih H locs ls hI => ?_) 0 (Nat.zero_le _) (Nat.zero_le _) ⟨Nat.zero_le _, hS, lv_sub hl [0, 1, 2, 3, 4, 5] rfl⟩
  obtain ⟨i, rfl⟩ : ∃ y, y = z := ⟨_, rfl⟩
  obtain ⟨hil, hS, hl⟩ := hI
  try dsimp only at hil hS hl ih ⊢
  refine lv_iload hx hb dX1_lowestOffered_10 (lv_at hl 0 rfl) ?_
  refine lv_aload_n hx hb dX1_lowestOffered_12 rfl (lv_at hl 4 rfl) ?_
  refine gf_X1_18 hx hb hown hK hS (hI.col hk) rfl dX1_lowestOffered_13 ?_
  refine cl_X1_55 hx hb hml hown hK hZ hS hA (l_size (hI.owned hk)) ((hI.owned hk).1) rfl hl.1 (Nat.le_of_ble_eq_true rfl) ⟨Nat.le_of_ble_eq_true rfl, Nat.le_of_ble_eq_true rfl⟩ ⟨Nat.zero_le _, Nat.zero_le _⟩ rfl dX1_lowestOffered_16 (r_kp (fun H locs hS => ?_))
  refine r_icmp_ge (a := i) (b := (L.1 14 k).length) (tgt := 101) hx hb (by omega) (by omega) dX1_lowestOffered_19 (by decide) (fun q19 => ?_) (fun q19 => ?_)
  · -- T
    have hie : i = (L.1 14 k).length := by omega
    rw [hie, List.take_length] at hl
    have hoe := off_end hI hk d
    have hsl := sumL_le (f := hit1 T d) (M := 1) (fun x => by unfold hit1; split <;> omega) (L.1 14 k)
    refine lv_iload_n hx hb dX1_lowestOffered_101 rfl (lv_at hl 2 rfl) ?_
    refine lv_iconst (v := nI 1) hx hb dX1_lowestOffered_102 (by decide) ?_
    refine r_icmp_gt (a := sumL (hit1 T d) (L.1 14 k)) (b := 1) (tgt := 111) hx hb (by omega) (by decide) dX1_lowestOffered_103 (by decide) (fun q103 => ?_) (fun q103 => ?_)
    · -- T
      refine r_aloadq_n hx hb dX1_lowestOffered_111 rfl (lv_at hl 3 rfl) ?_
      refine lv_goto (tgt := 116) hx hb dX1_lowestOffered_112 (by decide) ?_
      exact r_aret hx hb hr (Or.inl ⟨_, rfl⟩) hlocks hS (va_rf_or _) (⟨by rw [← hoe, if_pos (Or.inl q103)], rfl, rfl⟩) (Nat.zero_le _) (Nat.zero_le _) dX1_lowestOffered_116
    · -- F
      refine lv_iload hx hb dX1_lowestOffered_106 (lv_at hl 1 rfl) ?_
      refine r_ifb_eq (b := (anyAt (hitAt T d) (mkd T) (L.1 14 k) (L.1 14 k).length)) (tgt := 115) hx hb dX1_lowestOffered_108 (by decide) (fun q108 => ?_) (fun q108 => ?_)
      · -- T
        refine lv_null hx hb dX1_lowestOffered_115 ?_
        exact r_aret hx hb hr (Or.inl ⟨_, rfl⟩) hlocks hS (Or.inl rfl) (⟨by rw [← hoe, if_neg (fun z => z.elim (fun z => by omega) (fun z => by rw [q108] at z; cases z))]; rfl, rfl, rfl⟩) (Nat.zero_le _) (Nat.zero_le _) dX1_lowestOffered_116
      · -- F
        refine r_aloadq_n hx hb dX1_lowestOffered_111 rfl (lv_at hl 3 rfl) ?_
        refine lv_goto (tgt := 116) hx hb dX1_lowestOffered_112 (by decide) ?_
        exact r_aret hx hb hr (Or.inl ⟨_, rfl⟩) hlocks hS (va_rf_or _) (⟨by rw [← hoe, if_pos (Or.inr q108)], rfl, rfl⟩) (Nat.zero_le _) (Nat.zero_le _) dX1_lowestOffered_116
  · -- F
    obtain ⟨y, hy, hyC, hy8⟩ := hI.owAt hk q19
    have hny := hI.cn hyC
    refine lv_aload_n hx hb dX1_lowestOffered_22 rfl (lv_at hl 4 rfl) ?_
    refine gf_X1_18 hx hb hown hK hS (hI.col hk) rfl dX1_lowestOffered_23 ?_
    refine lv_iload hx hb dX1_lowestOffered_26 (lv_at hl 0 rfl) ?_
    refine cl_X1_58 hx hb hml hown hK hZ hS hA (l_get (hI.owned hk) hy) ((hI.owned hk).1) rfl hl.1 (Nat.le_of_ble_eq_true rfl) ⟨Nat.le_of_ble_eq_true rfl, Nat.le_of_ble_eq_true rfl⟩ ⟨Nat.zero_le _, Nat.zero_le _⟩ rfl dX1_lowestOffered_28 (r_kp (fun H locs hS => ?_))
    refine ck_X1_33 hx hb hown hK hS (hI.coin hyC) dX1_lowestOffered_31 ?_
    refine lv_astore (lv' := [(6, .ref (ad 4 y)), (5, .int (nI i)), (4, .int (bI (anyAt (hitAt T d) (mkd T) (L.1 14 k) i))), (3, .int (nI (sumL (hit1 T d) ((L.1 14 k).take i)))), (2, va_rf ((lowAt (hitAt T d) (L.1 14 k) i).map (ad 4))), (0, .ref (ad 5 k)), (1, .ref (ad 1 d))]) hx hb dX1_lowestOffered_34 hl (by decide) rfl (fun ls hl => ?_)
    refine lv_aload hx hb dX1_lowestOffered_36 (lv_at hl 0 rfl) ?_
    refine gf_X1_45 hx hb hown hK hS (hI.coin hyC) rfl dX1_lowestOffered_38 ?_
    refine lv_aload_n hx hb dX1_lowestOffered_41 rfl (lv_at hl 6 rfl) ?_
    refine r_acmp_ne (tgt := 95) hx hb dX1_lowestOffered_42 (by decide) (fun q42 => ?_) (fun q42 => ?_)
    · -- T
      have q42 : ¬ T 5 y = d := fun e => q42 (by rw [e])
      have qf : hitAt T d y = false := by unfold hitAt; rw [decide_eq_false q42]; rfl
      rw [show (lowAt (hitAt T d) (L.1 14 k) i).map (ad 4) = (lowAt (hitAt T d) (L.1 14 k) (i + 1)).map (ad 4) by rw [lowAt_f hy qf], show nI (sumL (hit1 T d) ((L.1 14 k).take i)) = nI (sumL (hit1 T d) ((L.1 14 k).take (i + 1))) by rw [sumL_take hy]; unfold hit1; rw [if_neg (by rw [qf]; exact Bool.false_ne_true)]; rfl, show bI (anyAt (hitAt T d) (mkd T) (L.1 14 k) i) = bI (anyAt (hitAt T d) (mkd T) (L.1 14 k) (i + 1)) by rw [anyAt_s hy, qf, Bool.false_and, Bool.or_false]] at hl
      refine lv_iinc (v := nI (i + 1)) (lv' := [(5, .int (nI (i + 1))), (6, .ref (ad 4 y)), (4, .int (bI (anyAt (hitAt T d) (mkd T) (L.1 14 k) (i + 1)))), (3, .int (nI (sumL (hit1 T d) ((L.1 14 k).take (i + 1))))), (2, va_rf ((lowAt (hitAt T d) (L.1 14 k) (i + 1)).map (ad 4))), (0, .ref (ad 5 k)), (1, .ref (ad 1 d))]) hx hb dX1_lowestOffered_95 hl (k := 1) rfl (nI_inc _) (by decide) rfl (fun ls hl => ?_)
      refine lv_goto (tgt := 10) hx hb dX1_lowestOffered_98 (by decide) ?_
      exact ih (i + 1) (by omega) _ _ _ ⟨(show i + 1 ≤ (L.1 14 k).length by omega), hS, lv_sub hl [0, 2, 3, 4, 5, 6] rfl⟩
    · -- F
      have q42 : T 5 y = d := hI.inj1 hS (hI.odie hyC) hd q42
      refine lv_aload hx hb dX1_lowestOffered_45 (lv_at hl 0 rfl) ?_
      refine cl_X1_72 hx hb hml hown hK hZ hS hA (c_X0_isGenuine hI hyC) (hI.coin hyC) rfl hl.1 (Nat.le_of_ble_eq_true rfl) ⟨Nat.le_of_ble_eq_true rfl, Nat.le_of_ble_eq_true rfl⟩ ⟨Nat.zero_le _, Nat.zero_le _⟩ rfl dX1_lowestOffered_47 (r_kp (fun H locs hS => ?_))
      refine r_ifb_eq (b := (tru T y)) (tgt := 95) hx hb dX1_lowestOffered_50 (by decide) (fun q50 => ?_) (fun q50 => ?_)
      · -- T
        have qf : hitAt T d y = false := by unfold hitAt; rw [q50, Bool.and_false]
        rw [show (lowAt (hitAt T d) (L.1 14 k) i).map (ad 4) = (lowAt (hitAt T d) (L.1 14 k) (i + 1)).map (ad 4) by rw [lowAt_f hy qf], show nI (sumL (hit1 T d) ((L.1 14 k).take i)) = nI (sumL (hit1 T d) ((L.1 14 k).take (i + 1))) by rw [sumL_take hy]; unfold hit1; rw [if_neg (by rw [qf]; exact Bool.false_ne_true)]; rfl, show bI (anyAt (hitAt T d) (mkd T) (L.1 14 k) i) = bI (anyAt (hitAt T d) (mkd T) (L.1 14 k) (i + 1)) by rw [anyAt_s hy, qf, Bool.false_and, Bool.or_false]] at hl
        refine lv_iinc (v := nI (i + 1)) (lv' := [(5, .int (nI (i + 1))), (6, .ref (ad 4 y)), (4, .int (bI (anyAt (hitAt T d) (mkd T) (L.1 14 k) (i + 1)))), (3, .int (nI (sumL (hit1 T d) ((L.1 14 k).take (i + 1))))), (2, va_rf ((lowAt (hitAt T d) (L.1 14 k) (i + 1)).map (ad 4))), (0, .ref (ad 5 k)), (1, .ref (ad 1 d))]) hx hb dX1_lowestOffered_95 hl (k := 1) rfl (nI_inc _) (by decide) rfl (fun ls hl => ?_)
        refine lv_goto (tgt := 10) hx hb dX1_lowestOffered_98 (by decide) ?_
        exact ih (i + 1) (by omega) _ _ _ ⟨(show i + 1 ≤ (L.1 14 k).length by omega), hS, lv_sub hl [0, 2, 3, 4, 5, 6] rfl⟩
      · -- F
        have qf : hitAt T d y = true := by unfold hitAt; rw [q50, decide_eq_true q42]; rfl
        refine lv_iinc (v := nI (sumL (hit1 T d) ((L.1 14 k).take (i + 1)))) (lv' := [(3, .int (nI (sumL (hit1 T d) ((L.1 14 k).take (i + 1))))), (6, .ref (ad 4 y)), (5, .int (nI i)), (4, .int (bI (anyAt (hitAt T d) (mkd T) (L.1 14 k) i))), (2, va_rf ((lowAt (hitAt T d) (L.1 14 k) i).map (ad 4))), (0, .ref (ad 5 k)), (1, .ref (ad 1 d))]) hx hb dX1_lowestOffered_53 hl (k := 3) rfl (by rw [nI_inc, sumL_take hy]; unfold hit1; rw [if_pos qf]) (by decide) (by simp [va_cat]) (fun ls hl => ?_)
        refine lv_iload hx hb dX1_lowestOffered_56 (lv_at hl 3 rfl) ?_
        refine r_ifb_ne (b := (anyAt (hitAt T d) (mkd T) (L.1 14 k) i)) (tgt := 69) hx hb dX1_lowestOffered_58 (by decide) (fun q58 => ?_) (fun q58 => ?_)
        · -- T
          refine lv_iconst (v := nI 1) hx hb dX1_lowestOffered_69 (by decide) ?_
          refine lv_goto (tgt := 74) hx hb dX1_lowestOffered_70 (by decide) ?_
          refine r_top (y := bI (anyAt (hitAt T d) (mkd T) (L.1 14 k) (i + 1))) (by rw [anyAt_s hy, q58]; rfl) ?_
          refine lv_istore (lv' := [(4, .int (bI (anyAt (hitAt T d) (mkd T) (L.1 14 k) (i + 1)))), (3, .int (nI (sumL (hit1 T d) ((L.1 14 k).take (i + 1))))), (6, .ref (ad 4 y)), (5, .int (nI i)), (2, va_rf ((lowAt (hitAt T d) (L.1 14 k) i).map (ad 4))), (0, .ref (ad 5 k)), (1, .ref (ad 1 d))]) hx hb dX1_lowestOffered_74 hl (by decide) rfl (fun ls hl => ?_)
          refine r_aloadq_n hx hb dX1_lowestOffered_76 rfl (lv_at hl 4 rfl) ?_
          refine r_ifnullq (tgt := 92) hx hb dX1_lowestOffered_77 (by decide) (fun q77 => ?_) (fun x77 q77 => ?_)
          · -- T
            have hlo : lowAt (hitAt T d) (L.1 14 k) i = none := by cases ho : lowAt (hitAt T d) (L.1 14 k) i with | none => rfl | some m => rw [ho] at q77; cases q77
            refine lv_aload hx hb dX1_lowestOffered_92 (lv_at hl 2 rfl) ?_
            refine r_topv (y := va_rf ((lowAt (hitAt T d) (L.1 14 k) (i + 1)).map (ad 4))) (by rw [lowAt_n hy qf hlo]; rfl) ?_
            refine r_astoreq_n (lv' := [(2, va_rf ((lowAt (hitAt T d) (L.1 14 k) (i + 1)).map (ad 4))), (4, .int (bI (anyAt (hitAt T d) (mkd T) (L.1 14 k) (i + 1)))), (3, .int (nI (sumL (hit1 T d) ((L.1 14 k).take (i + 1))))), (6, .ref (ad 4 y)), (5, .int (nI i)), (0, .ref (ad 5 k)), (1, .ref (ad 1 d))]) hx hb dX1_lowestOffered_94 rfl hl (by decide) rfl (fun ls hl => ?_)
            refine lv_iinc (v := nI (i + 1)) (lv' := [(5, .int (nI (i + 1))), (2, va_rf ((lowAt (hitAt T d) (L.1 14 k) (i + 1)).map (ad 4))), (4, .int (bI (anyAt (hitAt T d) (mkd T) (L.1 14 k) (i + 1)))), (3, .int (nI (sumL (hit1 T d) ((L.1 14 k).take (i + 1))))), (6, .ref (ad 4 y)), (0, .ref (ad 5 k)), (1, .ref (ad 1 d))]) hx hb dX1_lowestOffered_95 hl (k := 4) rfl (nI_inc _) (by decide) rfl (fun ls hl => ?_)
            refine lv_goto (tgt := 10) hx hb dX1_lowestOffered_98 (by decide) ?_
            exact ih (i + 1) (by omega) _ _ _ ⟨(show i + 1 ≤ (L.1 14 k).length by omega), hS, lv_sub hl [0, 2, 3, 1, 5, 6] rfl⟩
          · -- F
            obtain ⟨z, hlo⟩ : ∃ z, lowAt (hitAt T d) (L.1 14 k) i = some z := by cases ho : lowAt (hitAt T d) (L.1 14 k) i with | none => rw [ho] at q77; cases q77 | some m => exact ⟨m, rfl⟩
            have hzm := (lowAt_mem (p := hitAt T d) (xs := L.1 14 k) i).1 z hlo
            have hzC : z < nC T := (((hI.how hk).2.1 z).mp hzm.1).1
            refine lv_aload hx hb dX1_lowestOffered_80 (lv_at hl 2 rfl) ?_
            refine gf_X1_76 hx hb hown hK hS (hI.coin hyC) rfl dX1_lowestOffered_82 ?_
            refine r_aloadq_n hx hb dX1_lowestOffered_85 rfl (lv_at hl 4 rfl) ?_
            refine r_topv (y := .ref (ad 4 z)) (by rw [hlo]; rfl) ?_
            refine gf_X1_76 hx hb hown hK hS (hI.coin hzC) rfl dX1_lowestOffered_86 ?_
            refine r_icmp_ge (a := y) (b := z) (tgt := 95) hx hb (by omega) (by omega) dX1_lowestOffered_89 (by decide) (fun q89 => ?_) (fun q89 => ?_)
            · -- T
              rw [show (lowAt (hitAt T d) (L.1 14 k) i).map (ad 4) = (lowAt (hitAt T d) (L.1 14 k) (i + 1)).map (ad 4) by rw [lowAt_g hy qf hlo q89, hlo]] at hl
              refine lv_iinc (v := nI (i + 1)) (lv' := [(5, .int (nI (i + 1))), (4, .int (bI (anyAt (hitAt T d) (mkd T) (L.1 14 k) (i + 1)))), (3, .int (nI (sumL (hit1 T d) ((L.1 14 k).take (i + 1))))), (6, .ref (ad 4 y)), (2, va_rf ((lowAt (hitAt T d) (L.1 14 k) (i + 1)).map (ad 4))), (0, .ref (ad 5 k)), (1, .ref (ad 1 d))]) hx hb dX1_lowestOffered_95 hl (k := 3) rfl (nI_inc _) (by decide) rfl (fun ls hl => ?_)
              refine lv_goto (tgt := 10) hx hb dX1_lowestOffered_98 (by decide) ?_
              exact ih (i + 1) (by omega) _ _ _ ⟨(show i + 1 ≤ (L.1 14 k).length by omega), hS, lv_sub hl [0, 1, 2, 4, 5, 6] rfl⟩
            · -- F
              refine lv_aload hx hb dX1_lowestOffered_92 (lv_at hl 2 rfl) ?_
              refine r_topv (y := va_rf ((lowAt (hitAt T d) (L.1 14 k) (i + 1)).map (ad 4))) (by rw [lowAt_l hy qf hlo q89]; rfl) ?_
              refine r_astoreq_n (lv' := [(2, va_rf ((lowAt (hitAt T d) (L.1 14 k) (i + 1)).map (ad 4))), (4, .int (bI (anyAt (hitAt T d) (mkd T) (L.1 14 k) (i + 1)))), (3, .int (nI (sumL (hit1 T d) ((L.1 14 k).take (i + 1))))), (6, .ref (ad 4 y)), (5, .int (nI i)), (0, .ref (ad 5 k)), (1, .ref (ad 1 d))]) hx hb dX1_lowestOffered_94 rfl hl (by decide) rfl (fun ls hl => ?_)
              refine lv_iinc (v := nI (i + 1)) (lv' := [(5, .int (nI (i + 1))), (2, va_rf ((lowAt (hitAt T d) (L.1 14 k) (i + 1)).map (ad 4))), (4, .int (bI (anyAt (hitAt T d) (mkd T) (L.1 14 k) (i + 1)))), (3, .int (nI (sumL (hit1 T d) ((L.1 14 k).take (i + 1))))), (6, .ref (ad 4 y)), (0, .ref (ad 5 k)), (1, .ref (ad 1 d))]) hx hb dX1_lowestOffered_95 hl (k := 4) rfl (nI_inc _) (by decide) rfl (fun ls hl => ?_)
              refine lv_goto (tgt := 10) hx hb dX1_lowestOffered_98 (by decide) ?_
              exact ih (i + 1) (by omega) _ _ _ ⟨(show i + 1 ≤ (L.1 14 k).length by omega), hS, lv_sub hl [0, 2, 3, 1, 5, 6] rfl⟩
        · -- F
          refine lv_aload hx hb dX1_lowestOffered_61 (lv_at hl 1 rfl) ?_
          refine gf_X1_38 hx hb hown hK hS (hI.coin hyC) rfl dX1_lowestOffered_63 ?_
          refine r_if_eq (a := T 21 y) (tgt := 73) hx hb (by omega) dX1_lowestOffered_66 (by decide) (fun q66 => ?_) (fun q66 => ?_)
          · -- T
            refine lv_iconst (v := nI 0) hx hb dX1_lowestOffered_73 (by decide) ?_
            refine r_top (y := bI (anyAt (hitAt T d) (mkd T) (L.1 14 k) (i + 1))) (by rw [anyAt_s hy, q58, qf, Bool.false_or, Bool.true_and]; unfold mkd; rw [decide_eq_false (by omega)]; rfl) ?_
            refine lv_istore (lv' := [(4, .int (bI (anyAt (hitAt T d) (mkd T) (L.1 14 k) (i + 1)))), (3, .int (nI (sumL (hit1 T d) ((L.1 14 k).take (i + 1))))), (6, .ref (ad 4 y)), (5, .int (nI i)), (2, va_rf ((lowAt (hitAt T d) (L.1 14 k) i).map (ad 4))), (0, .ref (ad 5 k)), (1, .ref (ad 1 d))]) hx hb dX1_lowestOffered_74 hl (by decide) rfl (fun ls hl => ?_)
            refine r_aloadq_n hx hb dX1_lowestOffered_76 rfl (lv_at hl 4 rfl) ?_
            refine r_ifnullq (tgt := 92) hx hb dX1_lowestOffered_77 (by decide) (fun q77 => ?_) (fun x77 q77 => ?_)
            · -- T
              have hlo : lowAt (hitAt T d) (L.1 14 k) i = none := by cases ho : lowAt (hitAt T d) (L.1 14 k) i with | none => rfl | some m => rw [ho] at q77; cases q77
              refine lv_aload hx hb dX1_lowestOffered_92 (lv_at hl 2 rfl) ?_
              refine r_topv (y := va_rf ((lowAt (hitAt T d) (L.1 14 k) (i + 1)).map (ad 4))) (by rw [lowAt_n hy qf hlo]; rfl) ?_
              refine r_astoreq_n (lv' := [(2, va_rf ((lowAt (hitAt T d) (L.1 14 k) (i + 1)).map (ad 4))), (4, .int (bI (anyAt (hitAt T d) (mkd T) (L.1 14 k) (i + 1)))), (3, .int (nI (sumL (hit1 T d) ((L.1 14 k).take (i + 1))))), (6, .ref (ad 4 y)), (5, .int (nI i)), (0, .ref (ad 5 k)), (1, .ref (ad 1 d))]) hx hb dX1_lowestOffered_94 rfl hl (by decide) rfl (fun ls hl => ?_)
              refine lv_iinc (v := nI (i + 1)) (lv' := [(5, .int (nI (i + 1))), (2, va_rf ((lowAt (hitAt T d) (L.1 14 k) (i + 1)).map (ad 4))), (4, .int (bI (anyAt (hitAt T d) (mkd T) (L.1 14 k) (i + 1)))), (3, .int (nI (sumL (hit1 T d) ((L.1 14 k).take (i + 1))))), (6, .ref (ad 4 y)), (0, .ref (ad 5 k)), (1, .ref (ad 1 d))]) hx hb dX1_lowestOffered_95 hl (k := 4) rfl (nI_inc _) (by decide) rfl (fun ls hl => ?_)
              refine lv_goto (tgt := 10) hx hb dX1_lowestOffered_98 (by decide) ?_
              exact ih (i + 1) (by omega) _ _ _ ⟨(show i + 1 ≤ (L.1 14 k).length by omega), hS, lv_sub hl [0, 2, 3, 1, 5, 6] rfl⟩
            · -- F
              obtain ⟨z, hlo⟩ : ∃ z, lowAt (hitAt T d) (L.1 14 k) i = some z := by cases ho : lowAt (hitAt T d) (L.1 14 k) i with | none => rw [ho] at q77; cases q77 | some m => exact ⟨m, rfl⟩
              have hzm := (lowAt_mem (p := hitAt T d) (xs := L.1 14 k) i).1 z hlo
              have hzC : z < nC T := (((hI.how hk).2.1 z).mp hzm.1).1
              refine lv_aload hx hb dX1_lowestOffered_80 (lv_at hl 2 rfl) ?_
              refine gf_X1_76 hx hb hown hK hS (hI.coin hyC) rfl dX1_lowestOffered_82 ?_
              refine r_aloadq_n hx hb dX1_lowestOffered_85 rfl (lv_at hl 4 rfl) ?_
              refine r_topv (y := .ref (ad 4 z)) (by rw [hlo]; rfl) ?_
              refine gf_X1_76 hx hb hown hK hS (hI.coin hzC) rfl dX1_lowestOffered_86 ?_
              refine r_icmp_ge (a := y) (b := z) (tgt := 95) hx hb (by omega) (by omega) dX1_lowestOffered_89 (by decide) (fun q89 => ?_) (fun q89 => ?_)
              · -- T
                rw [show (lowAt (hitAt T d) (L.1 14 k) i).map (ad 4) = (lowAt (hitAt T d) (L.1 14 k) (i + 1)).map (ad 4) by rw [lowAt_g hy qf hlo q89, hlo]] at hl
                refine lv_iinc (v := nI (i + 1)) (lv' := [(5, .int (nI (i + 1))), (4, .int (bI (anyAt (hitAt T d) (mkd T) (L.1 14 k) (i + 1)))), (3, .int (nI (sumL (hit1 T d) ((L.1 14 k).take (i + 1))))), (6, .ref (ad 4 y)), (2, va_rf ((lowAt (hitAt T d) (L.1 14 k) (i + 1)).map (ad 4))), (0, .ref (ad 5 k)), (1, .ref (ad 1 d))]) hx hb dX1_lowestOffered_95 hl (k := 3) rfl (nI_inc _) (by decide) rfl (fun ls hl => ?_)
                refine lv_goto (tgt := 10) hx hb dX1_lowestOffered_98 (by decide) ?_
                exact ih (i + 1) (by omega) _ _ _ ⟨(show i + 1 ≤ (L.1 14 k).length by omega), hS, lv_sub hl [0, 1, 2, 4, 5, 6] rfl⟩
              · -- F
                refine lv_aload hx hb dX1_lowestOffered_92 (lv_at hl 2 rfl) ?_
                refine r_topv (y := va_rf ((lowAt (hitAt T d) (L.1 14 k) (i + 1)).map (ad 4))) (by rw [lowAt_l hy qf hlo q89]; rfl) ?_
                refine r_astoreq_n (lv' := [(2, va_rf ((lowAt (hitAt T d) (L.1 14 k) (i + 1)).map (ad 4))), (4, .int (bI (anyAt (hitAt T d) (mkd T) (L.1 14 k) (i + 1)))), (3, .int (nI (sumL (hit1 T d) ((L.1 14 k).take (i + 1))))), (6, .ref (ad 4 y)), (5, .int (nI i)), (0, .ref (ad 5 k)), (1, .ref (ad 1 d))]) hx hb dX1_lowestOffered_94 rfl hl (by decide) rfl (fun ls hl => ?_)
                refine lv_iinc (v := nI (i + 1)) (lv' := [(5, .int (nI (i + 1))), (2, va_rf ((lowAt (hitAt T d) (L.1 14 k) (i + 1)).map (ad 4))), (4, .int (bI (anyAt (hitAt T d) (mkd T) (L.1 14 k) (i + 1)))), (3, .int (nI (sumL (hit1 T d) ((L.1 14 k).take (i + 1))))), (6, .ref (ad 4 y)), (0, .ref (ad 5 k)), (1, .ref (ad 1 d))]) hx hb dX1_lowestOffered_95 hl (k := 4) rfl (nI_inc _) (by decide) rfl (fun ls hl => ?_)
                refine lv_goto (tgt := 10) hx hb dX1_lowestOffered_98 (by decide) ?_
                exact ih (i + 1) (by omega) _ _ _ ⟨(show i + 1 ≤ (L.1 14 k).length by omega), hS, lv_sub hl [0, 2, 3, 1, 5, 6] rfl⟩
          · -- F
            refine lv_iconst (v := nI 1) hx hb dX1_lowestOffered_69 (by decide) ?_
            refine lv_goto (tgt := 74) hx hb dX1_lowestOffered_70 (by decide) ?_
            refine r_top (y := bI (anyAt (hitAt T d) (mkd T) (L.1 14 k) (i + 1))) (by rw [anyAt_s hy, q58, qf, Bool.false_or, Bool.true_and]; unfold mkd; rw [decide_eq_true (by omega)]; rfl) ?_
            refine lv_istore (lv' := [(4, .int (bI (anyAt (hitAt T d) (mkd T) (L.1 14 k) (i + 1)))), (3, .int (nI (sumL (hit1 T d) ((L.1 14 k).take (i + 1))))), (6, .ref (ad 4 y)), (5, .int (nI i)), (2, va_rf ((lowAt (hitAt T d) (L.1 14 k) i).map (ad 4))), (0, .ref (ad 5 k)), (1, .ref (ad 1 d))]) hx hb dX1_lowestOffered_74 hl (by decide) rfl (fun ls hl => ?_)
            refine r_aloadq_n hx hb dX1_lowestOffered_76 rfl (lv_at hl 4 rfl) ?_
            refine r_ifnullq (tgt := 92) hx hb dX1_lowestOffered_77 (by decide) (fun q77 => ?_) (fun x77 q77 => ?_)
            · -- T
              have hlo : lowAt (hitAt T d) (L.1 14 k) i = none := by cases ho : lowAt (hitAt T d) (L.1 14 k) i with | none => rfl | some m => rw [ho] at q77; cases q77
              refine lv_aload hx hb dX1_lowestOffered_92 (lv_at hl 2 rfl) ?_
              refine r_topv (y := va_rf ((lowAt (hitAt T d) (L.1 14 k) (i + 1)).map (ad 4))) (by rw [lowAt_n hy qf hlo]; rfl) ?_
              refine r_astoreq_n (lv' := [(2, va_rf ((lowAt (hitAt T d) (L.1 14 k) (i + 1)).map (ad 4))), (4, .int (bI (anyAt (hitAt T d) (mkd T) (L.1 14 k) (i + 1)))), (3, .int (nI (sumL (hit1 T d) ((L.1 14 k).take (i + 1))))), (6, .ref (ad 4 y)), (5, .int (nI i)), (0, .ref (ad 5 k)), (1, .ref (ad 1 d))]) hx hb dX1_lowestOffered_94 rfl hl (by decide) rfl (fun ls hl => ?_)
              refine lv_iinc (v := nI (i + 1)) (lv' := [(5, .int (nI (i + 1))), (2, va_rf ((lowAt (hitAt T d) (L.1 14 k) (i + 1)).map (ad 4))), (4, .int (bI (anyAt (hitAt T d) (mkd T) (L.1 14 k) (i + 1)))), (3, .int (nI (sumL (hit1 T d) ((L.1 14 k).take (i + 1))))), (6, .ref (ad 4 y)), (0, .ref (ad 5 k)), (1, .ref (ad 1 d))]) hx hb dX1_lowestOffered_95 hl (k := 4) rfl (nI_inc _) (by decide) rfl (fun ls hl => ?_)
              refine lv_goto (tgt := 10) hx hb dX1_lowestOffered_98 (by decide) ?_
              exact ih (i + 1) (by omega) _ _ _ ⟨(show i + 1 ≤ (L.1 14 k).length by omega), hS, lv_sub hl [0, 2, 3, 1, 5, 6] rfl⟩
            · -- F
              obtain ⟨z, hlo⟩ : ∃ z, lowAt (hitAt T d) (L.1 14 k) i = some z := by cases ho : lowAt (hitAt T d) (L.1 14 k) i with | none => rw [ho] at q77; cases q77 | some m => exact ⟨m, rfl⟩
              have hzm := (lowAt_mem (p := hitAt T d) (xs := L.1 14 k) i).1 z hlo
              have hzC : z < nC T := (((hI.how hk).2.1 z).mp hzm.1).1
              refine lv_aload hx hb dX1_lowestOffered_80 (lv_at hl 2 rfl) ?_
              refine gf_X1_76 hx hb hown hK hS (hI.coin hyC) rfl dX1_lowestOffered_82 ?_
              refine r_aloadq_n hx hb dX1_lowestOffered_85 rfl (lv_at hl 4 rfl) ?_
              refine r_topv (y := .ref (ad 4 z)) (by rw [hlo]; rfl) ?_
              refine gf_X1_76 hx hb hown hK hS (hI.coin hzC) rfl dX1_lowestOffered_86 ?_
              refine r_icmp_ge (a := y) (b := z) (tgt := 95) hx hb (by omega) (by omega) dX1_lowestOffered_89 (by decide) (fun q89 => ?_) (fun q89 => ?_)
              · -- T
                rw [show (lowAt (hitAt T d) (L.1 14 k) i).map (ad 4) = (lowAt (hitAt T d) (L.1 14 k) (i + 1)).map (ad 4) by rw [lowAt_g hy qf hlo q89, hlo]] at hl
                refine lv_iinc (v := nI (i + 1)) (lv' := [(5, .int (nI (i + 1))), (4, .int (bI (anyAt (hitAt T d) (mkd T) (L.1 14 k) (i + 1)))), (3, .int (nI (sumL (hit1 T d) ((L.1 14 k).take (i + 1))))), (6, .ref (ad 4 y)), (2, va_rf ((lowAt (hitAt T d) (L.1 14 k) (i + 1)).map (ad 4))), (0, .ref (ad 5 k)), (1, .ref (ad 1 d))]) hx hb dX1_lowestOffered_95 hl (k := 3) rfl (nI_inc _) (by decide) rfl (fun ls hl => ?_)
                refine lv_goto (tgt := 10) hx hb dX1_lowestOffered_98 (by decide) ?_
                exact ih (i + 1) (by omega) _ _ _ ⟨(show i + 1 ≤ (L.1 14 k).length by omega), hS, lv_sub hl [0, 1, 2, 4, 5, 6] rfl⟩
              · -- F
                refine lv_aload hx hb dX1_lowestOffered_92 (lv_at hl 2 rfl) ?_
                refine r_topv (y := va_rf ((lowAt (hitAt T d) (L.1 14 k) (i + 1)).map (ad 4))) (by rw [lowAt_l hy qf hlo q89]; rfl) ?_
                refine r_astoreq_n (lv' := [(2, va_rf ((lowAt (hitAt T d) (L.1 14 k) (i + 1)).map (ad 4))), (4, .int (bI (anyAt (hitAt T d) (mkd T) (L.1 14 k) (i + 1)))), (3, .int (nI (sumL (hit1 T d) ((L.1 14 k).take (i + 1))))), (6, .ref (ad 4 y)), (5, .int (nI i)), (0, .ref (ad 5 k)), (1, .ref (ad 1 d))]) hx hb dX1_lowestOffered_94 rfl hl (by decide) rfl (fun ls hl => ?_)
                refine lv_iinc (v := nI (i + 1)) (lv' := [(5, .int (nI (i + 1))), (2, va_rf ((lowAt (hitAt T d) (L.1 14 k) (i + 1)).map (ad 4))), (4, .int (bI (anyAt (hitAt T d) (mkd T) (L.1 14 k) (i + 1)))), (3, .int (nI (sumL (hit1 T d) ((L.1 14 k).take (i + 1))))), (6, .ref (ad 4 y)), (0, .ref (ad 5 k)), (1, .ref (ad 1 d))]) hx hb dX1_lowestOffered_95 hl (k := 4) rfl (nI_inc _) (by decide) rfl (fun ls hl => ?_)
                refine lv_goto (tgt := 10) hx hb dX1_lowestOffered_98 (by decide) ?_
                exact ih (i + 1) (by omega) _ _ _ ⟨(show i + 1 ≤ (L.1 14 k).length by omega), hS, lv_sub hl [0, 2, 3, 1, 5, 6] rfl⟩
