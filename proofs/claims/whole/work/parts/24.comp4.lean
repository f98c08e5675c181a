/-! the public calls that only read (printed by wip/whole/gen/comp4.py) -/
theorem ixO_lt {a : Int32} {n d : Nat} (h : ixO a n = some d) : d < n := by
  unfold ixO at h
  by_cases e : 0 ≤ a.toInt ∧ a.toInt < (n : Int)
  · rw [if_pos e] at h
    cases h
    omega
  · rw [if_neg e] at h
    cases h
abbrev rQu : Type := Nat × Int32
def byN (n : Nat) (a : Int32) (f : Nat → Int32) : rQu := match ixO a n with
  | none => (1, 0)
  | some j => (0, f j)
theorem byN_s {n : Nat} {a : Int32} {f : Nat → Int32} {j : Nat} (h : ixO a n = some j) : byN n a f = (0, f j) := by
  unfold byN
  rw [h]
theorem byN_n {n : Nat} {a : Int32} {f : Nat → Int32} (h : ixO a n = none) : byN n a f = (1, 0) := by
  unfold byN
  rw [h]
def setN (p : Nat → Bool) : Nat → Nat
  | 0 => 0
  | n + 1 => if p n = true then setN p n ||| 2 ^ n else setN p n
theorem setN_t {p : Nat → Bool} {n : Nat} (h : p n = true) : setN p (n + 1) = setN p n ||| 2 ^ n := if_pos h
theorem setN_f {p : Nat → Bool} {n : Nat} (h : p n = false) : setN p (n + 1) = setN p n := if_neg (by rw [h]; exact Bool.false_ne_true)
theorem setN_lt {p : Nat → Bool} {n : Nat} (h : n ≤ 16) : setN p n < 65536 := by
  induction n with
  | zero => exact Nat.zero_lt_succ _
  | succ n ih =>
    show (if p n = true then setN p n ||| 2 ^ n else setN p n) < 65536
    split
    · exact or16 (ih (by omega)) (by omega)
    · exact ih (by omega)
def cbB (T : rTab) (j i : Nat) : Bool := decide (T 1 i = T 1 (T 5 j)) && (firstOf T i (T 6 j)).isSome
theorem cntB_lt {p q : Nat → Bool} {n i0 : Nat} (h : ∀ i, i < n → p i = true → q i = true) (hi : i0 < n) (hq : q i0 = true) (hp : p i0 = false) : cntB p n < cntB q n := by
  have mono : ∀ n, (∀ i, i < n → p i = true → q i = true) → cntB p n ≤ cntB q n := by
    intro n
    induction n with
    | zero => exact fun _ => Nat.le_refl _
    | succ n ih =>
      intro h
      have h1 := ih (fun i hi => h i (by omega))
      cases hpn : p n with
      | true => rw [cntB_t hpn, cntB_t (h n (by omega) hpn)]; omega
      | false =>
        rw [cntB_f hpn]
        show _ ≤ cntB q n + _
        omega
  induction n with
  | zero => omega
  | succ n ih =>
    by_cases e : i0 = n
    · subst e
      rw [cntB_f hp, cntB_t hq]
      have := mono i0 (fun i hi => h i (by omega))
      omega
    · have h1 := ih (fun i hi => h i (by omega)) (by omega)
      cases hpn : p n with
      | true => rw [cntB_t hpn, cntB_t (h n (by omega) hpn)]; omega
      | false =>
        rw [cntB_f hpn]
        show _ < cntB q n + _
        omega
theorem aheadOf_iff {T : rTab} {k j o : Nat} : aheadOf T k j o = true ↔ T 8 o = k + 1 ∧ (priceN T j < priceN T o ∨ (priceN T o = priceN T j ∧ o < j)) := by
  unfold aheadOf ownAt
  rw [Bool.and_eq_true, Bool.or_eq_true, Bool.and_eq_true, decide_eq_true_eq, decide_eq_true_eq, decide_eq_true_eq, decide_eq_true_eq]
theorem ahead_lt {T : rTab} {k j o : Nat} (hj : T 8 o = k + 1) (ho : o < nC T) (h : priceN T j < priceN T o ∨ (priceN T o = priceN T j ∧ o < j)) : aheadN T k o < aheadN T k j := by
  refine cntB_lt (i0 := o) (fun i hi hp => ?_) ho (aheadOf_iff.mpr ⟨hj, h⟩) ?_
  · have := aheadOf_iff.mp hp
    refine aheadOf_iff.mpr ⟨this.1, ?_⟩
    omega
  · cases hq : aheadOf T k o o with
    | false => rfl
    | true =>
      have := (aheadOf_iff.mp hq).2
      omega
theorem ahead_inj {T : rTab} {k j o : Nat} (hj : T 8 j = k + 1) (ho : T 8 o = k + 1) (hjC : j < nC T) (hoC : o < nC T) (h : aheadN T k j = aheadN T k o) : j = o := by
  rcases Nat.lt_trichotomy (priceN T j) (priceN T o) with g | g | g
  · have := ahead_lt (T := T) (k := k) ho hoC (Or.inl g)
    omega
  · rcases Nat.lt_trichotomy j o with g2 | g2 | g2
    · have := ahead_lt (T := T) (k := k) hj hjC (Or.inr ⟨g, g2⟩)
      omega
    · exact g2
    · have := ahead_lt (T := T) (k := k) ho hoC (Or.inr ⟨g.symm, g2⟩)
      omega
  · have := ahead_lt (T := T) (k := k) hj hjC (Or.inl g)
    omega
def atB (T : rTab) (k : Nat) (b : Int32) (j : Nat) : Bool := ownAt T k j && decide (nI (aheadN T k j) = b)
def atQ (T : rTab) (k : Nat) (b : Int32) : rQu := match fstB (atB T k b) (nC T) with
  | none => (1, 0)
  | some j => (0, nI j)
def coinQ (T : rTab) (a b : Int32) : rQu := match ixO a 8 with
  | none => (1, 0)
  | some k => atQ T k b
theorem coinQ_n {T : rTab} {a b : Int32} (h : ixO a 8 = none) : coinQ T a b = (1, 0) := by
  unfold coinQ
  rw [h]
theorem coinQ_s {T : rTab} {a b : Int32} {k : Nat} (h : ixO a 8 = some k) : coinQ T a b = atQ T k b := by
  unfold coinQ
  rw [h]
theorem atB_iff {T : rTab} {k : Nat} {b : Int32} {j : Nat} : atB T k b j = true ↔ T 8 j = k + 1 ∧ nI (aheadN T k j) = b := by
  unfold atB ownAt
  rw [Bool.and_eq_true, decide_eq_true_eq, decide_eq_true_eq]
theorem atQ_s {T : rTab} {k : Nat} {b : Int32} {j : Nat} (hC : nC T ≤ 150) (hj : j < nC T) (h8 : T 8 j = k + 1) (h : nI (aheadN T k j) = b) : atQ T k b = (0, nI j) := by
  have : fstB (atB T k b) (nC T) = some j := fstB_some.mpr ⟨hj, atB_iff.mpr ⟨h8, h⟩, fun i hi => by
    cases hq : atB T k b i with
    | false => rfl
    | true =>
      have h2 := atB_iff.mp hq
      have a1 := cntB_le (aheadOf T k i) (nC T)
      have a2 := cntB_le (aheadOf T k j) (nC T)
      have h3 : aheadN T k i = aheadN T k j := (nI_eq (show cntB _ _ < _ by omega) (show cntB _ _ < _ by omega)).mp (h2.2.trans h.symm)
      have := ahead_inj h2.1 h8 (by omega) hj h3
      omega⟩
  unfold atQ
  rw [this]
theorem atQ_n {T : rTab} {k : Nat} {b : Int32} (h : ∀ j, j < nC T → T 8 j = k + 1 → ¬ nI (aheadN T k j) = b) : atQ T k b = (1, 0) := by
  have : fstB (atB T k b) (nC T) = none := fstB_none.mpr fun j hj => by
    cases hq : atB T k b j with
    | false => rfl
    | true => exact absurd (atB_iff.mp hq).2 (h j hj (atB_iff.mp hq).1)
  unfold atQ
  rw [this]
def swapQ (T : rTab) (a b : Int32) : rQu := match ixO a (nS T) with
  | none => (1, 0)
  | some q => match ixO b (T 12 q) with
    | none => (1, 0)
    | some x => (0, nI (T 13 (4 * q + x)))
theorem swapQ_n {T : rTab} {a b : Int32} (h : ixO a (nS T) = none) : swapQ T a b = (1, 0) := by
  unfold swapQ
  rw [h]
theorem swapQ_m {T : rTab} {a b : Int32} {q : Nat} (h : ixO a (nS T) = some q) (h2 : ixO b (T 12 q) = none) : swapQ T a b = (1, 0) := by
  unfold swapQ
  rw [h]
  show (match ixO b (T 12 q) with | none => _ | some x => _) = _
  rw [h2]
theorem swapQ_s {T : rTab} {a b : Int32} {q x : Nat} (h : ixO a (nS T) = some q) (h2 : ixO b (T 12 q) = some x) : swapQ T a b = (0, nI (T 13 (4 * q + x))) := by
  unfold swapQ
  rw [h]
  show (match ixO b (T 12 q) with | none => _ | some x => _) = _
  rw [h2]
theorem tell_sw {G : rG} {T : rTab} {L : rL} {C : rC} {ad : rA} (hI : cInv G T L C ad) {q : Nat} (hq : q < nS T) {a b : Int32} (ha : ixO a (nS T) = some q) : (∀ n, tellO (L.1 16 q) (L.1 17 q) b = some n → swapQ T a b = (0, nI n)) ∧ (tellO (L.1 16 q) (L.1 17 q) b = none → swapQ T a b = (1, 0)) := by
  have h := hI.hsw hq
  cases hb : ixO b (T 12 q) with
  | none =>
    have : tellO (L.1 16 q) (L.1 17 q) b = none := tellO_n (by rw [h.1]; exact hb)
    exact ⟨(fun n hn => by rw [this] at hn; cases hn), fun _ => swapQ_m ha hb⟩
  | some x =>
    have h2 := h.2 x (ixO_lt hb)
    have : tellO (L.1 16 q) (L.1 17 q) b = some (1000 * (T 13 (4 * q + x) / 1000) + T 13 (4 * q + x) % 1000) := tellO_s (by rw [h.1]; exact hb) h2.1 h2.2
    refine ⟨fun n hn => ?_, (fun hn => by rw [this] at hn; cases hn)⟩
    rw [this] at hn
    cases hn
    rw [swapQ_s ha hb, Nat.div_add_mod]
def falsS (T : rTab) (q : Nat) : Bool := (List.range (T 12 q)).any (fun x => !tru T (T 13 (4 * q + x) % 1000))
theorem fals_sw {G : rG} {T : rTab} {L : rL} {C : rC} {ad : rA} (hI : cInv G T L C ad) {q : Nat} (hq : q < nS T) : falsB T (L.1 17 q) = falsS T q := by
  have h := hI.hsw hq
  have hl : (L.1 17 q).length = T 12 q := by rw [← (hI.hrg (Nat.le_of_lt hq)).2.2.1]; exact h.1
  cases hf : falsS T q with
  | true =>
    obtain ⟨x, hx, ht⟩ := List.any_eq_true.mp hf
    have hx := List.mem_range.mp hx
    refine falsB_t (h.2 x hx).2 ?_
    cases hq : tru T (T 13 (4 * q + x) % 1000) with
    | false => rfl
    | true => rw [hq] at ht; cases ht
  | false =>
    refine falsB_f fun x y hx hxy => ?_
    rw [hl] at hx
    rw [(h.2 x hx).2] at hxy
    cases hxy
    have := List.any_eq_false.mp hf x (List.mem_range.mpr hx)
    cases hq : tru T (T 13 (4 * q + x) % 1000) with
    | true => rfl
    | false => rw [hq] at this; exact absurd rfl this

set_option maxHeartbeats 4000000 in
set_option maxRecDepth 100000 in
theorem c_X4_struck {G : rG} {l : Launch} {T : rTab} {L : rL} {C : rC} {ad : rA} (hI : cInv G T L C ad) : rMet G l yX4_struck cX4_struck 1 (some .int) (rmP 2) [.ref (ad 0 0)] C ad (rPure C ad (.int (nI (nC T)))) := by
  refine rMet.of (by decide) ?_
  intro p e s m below meth c hx hb hml hr hlocks hown hname hK hZ hS
  have hown : s.vm.findClass RX4 = some m.cls := hown
  have hA : ∀ q : Nat, s.heap.size ≤ q → (rF C ad s.heap.size) q := rF.new
  refine r_entry _ (Nat.le_of_ble_eq_true rfl) (fun ls hl => ?_)
  have hl : lv_has ls 1 [(0, .ref (ad 0 0))] := hl
  refine lv_aload_n hx hb dX4_struck_0 rfl (lv_at hl 0 rfl) ?_
  refine gf_X4_16 hx hb hown hK hS hI.reg rfl dX4_struck_1 ?_
  refine cl_X4_81 hx hb hml hown hK hZ hS hA (l_size (hI.coins)) ((hI.coins).1) rfl hl.1 (Nat.le_of_ble_eq_true rfl) ⟨Nat.le_of_ble_eq_true rfl, Nat.le_of_ble_eq_true rfl⟩ ⟨Nat.zero_le _, Nat.zero_le _⟩ rfl dX4_struck_4 (r_kp (fun H locs hS => ?_))
  refine r_top (y := nI (nC T)) (by rw [hI.lcoins]) ?_
  exact r_iret hx hb hr hlocks hS (⟨rfl, rfl, rfl⟩) (Nat.zero_le _) (Nat.zero_le _) dX4_struck_7

set_option maxHeartbeats 4000000 in
set_option maxRecDepth 100000 in
theorem c_X4_swaps {G : rG} {l : Launch} {T : rTab} {L : rL} {C : rC} {ad : rA} (hI : cInv G T L C ad) : rMet G l yX4_swaps cX4_swaps 1 (some .int) (rmP 2) [.ref (ad 0 0)] C ad (rPure C ad (.int (nI (nS T)))) := by
  refine rMet.of (by decide) ?_
  intro p e s m below meth c hx hb hml hr hlocks hown hname hK hZ hS
  have hown : s.vm.findClass RX4 = some m.cls := hown
  have hA : ∀ q : Nat, s.heap.size ≤ q → (rF C ad s.heap.size) q := rF.new
  refine r_entry _ (Nat.le_of_ble_eq_true rfl) (fun ls hl => ?_)
  have hl : lv_has ls 1 [(0, .ref (ad 0 0))] := hl
  refine lv_aload_n hx hb dX4_swaps_0 rfl (lv_at hl 0 rfl) ?_
  refine gf_X4_25 hx hb hown hK hS hI.reg rfl dX4_swaps_1 ?_
  refine cl_X4_81 hx hb hml hown hK hZ hS hA (l_size (hI.swapped)) ((hI.swapped).1) rfl hl.1 (Nat.le_of_ble_eq_true rfl) ⟨Nat.le_of_ble_eq_true rfl, Nat.le_of_ble_eq_true rfl⟩ ⟨Nat.zero_le _, Nat.zero_le _⟩ rfl dX4_swaps_4 (r_kp (fun H locs hS => ?_))
  refine r_top (y := nI (nS T)) (by rw [hI.lswapped]) ?_
  exact r_iret hx hb hr hlocks hS (⟨rfl, rfl, rfl⟩) (Nat.zero_le _) (Nat.zero_le _) dX4_swaps_7

set_option maxHeartbeats 4000000 in
set_option maxRecDepth 100000 in
theorem c_X4_defects {G : rG} {l : Launch} {T : rTab} {L : rL} {C : rC} {ad : rA} (hlt : l.stackTraces = false) (hI : cInv G T L C ad) (a : Int32) : rMetX G l yX4_defects cX4_defects 2 (some .int) (rmM 8 1 6) [.ref (ad 0 0), .int a] C ad (rIs (fun r => (byN (nC T) a (fun j => nI (T 6 j))).1 = 0 ∧ r = .int (byN (nC T) a (fun j => nI (T 6 j))).2) C ad) (xIs (fun E => (byN (nC T) a (fun j => nI (T 6 j))).1 ≠ 0 ∧ E = eIOB) C ad) := by
  refine rMetX.of (by decide) ?_
  intro p e s m below meth c hx hb hml hr hlocks hown hname hK hZ hS hex
  have hown : s.vm.findClass RX4 = some m.cls := hown
  have hA : ∀ q : Nat, s.heap.size ≤ q → (rF C ad s.heap.size) q := rF.new
  refine r_entry _ (Nat.le_of_ble_eq_true rfl) (fun ls hl => ?_)
  have hl : lv_has ls 2 [(0, .ref (ad 0 0)), (1, .int a)] := hl
  refine lv_aload_n hx hb dX4_defects_0 rfl (lv_at hl 0 rfl) ?_
  refine lv_iload_n hx hb dX4_defects_1 rfl (lv_at hl 1 rfl) ?_
  refine cl_X4_100 hx hb hml hown hK hZ hS hA (c_X4_theCoin hlt hI a) hI.reg rfl hl.1 (Nat.le_of_ble_eq_true rfl) ⟨Nat.le_of_ble_eq_true rfl, Nat.le_of_ble_eq_true rfl⟩ ⟨Nat.le_of_ble_eq_true rfl, Nat.le_of_ble_eq_true rfl⟩ rfl dX4_defects_2 ?_ (r_kr (fun r C' ad' H locs hQ hS => ?_))
  · -- thrown
    intro E ce q9 C9 ad9 H locs hX9 hS hce hcv hcl
    obtain ⟨⟨rfl, hno⟩, rfl, rfl⟩ := hX9
    exact r_out hex hlocks hS hce hcv hcl ⟨⟨by rw [byN_n hno]; exact Nat.one_ne_zero, rfl⟩, rfl, rfl⟩ (Nat.le_of_ble_eq_true rfl) (Nat.le_of_ble_eq_true rfl)
  obtain ⟨⟨j, hixj, rfl⟩, rfl, rfl⟩ := hQ
  have hj : j < (nC T) := ixO_lt hixj
  refine gf_X4_116 hx hb hown hK hS (hI.coin hj) rfl dX4_defects_5 ?_
  refine vx_ret ?_
  exact r_iret hx hb hr hlocks hS (⟨_, rfl, ⟨by rw [byN_s hixj], by rw [byN_s hixj]⟩, rfl, rfl⟩) (Nat.le_of_ble_eq_true rfl) (Nat.le_of_ble_eq_true rfl) dX4_defects_8

set_option maxHeartbeats 4000000 in
set_option maxRecDepth 100000 in
theorem c_X4_stages {G : rG} {l : Launch} {T : rTab} {L : rL} {C : rC} {ad : rA} (hlt : l.stackTraces = false) (hI : cInv G T L C ad) (a : Int32) : rMetX G l yX4_stages cX4_stages 2 (some .int) (rmM 8 1 6) [.ref (ad 0 0), .int a] C ad (rIs (fun r => (byN (nD T) a (fun d => nI (stagesN T d))).1 = 0 ∧ r = .int (byN (nD T) a (fun d => nI (stagesN T d))).2) C ad) (xIs (fun E => (byN (nD T) a (fun d => nI (stagesN T d))).1 ≠ 0 ∧ E = eIOB) C ad) := by
  refine rMetX.of (by decide) ?_
  intro p e s m below meth c hx hb hml hr hlocks hown hname hK hZ hS hex
  have hown : s.vm.findClass RX4 = some m.cls := hown
  have hA : ∀ q : Nat, s.heap.size ≤ q → (rF C ad s.heap.size) q := rF.new
  refine r_entry _ (Nat.le_of_ble_eq_true rfl) (fun ls hl => ?_)
  have hl : lv_has ls 2 [(0, .ref (ad 0 0)), (1, .int a)] := hl
  refine lv_aload_n hx hb dX4_stages_0 rfl (lv_at hl 0 rfl) ?_
  refine lv_iload_n hx hb dX4_stages_1 rfl (lv_at hl 1 rfl) ?_
  refine cl_X4_49 hx hb hml hown hK hZ hS hA (c_X4_theDie hlt hI a) hI.reg rfl hl.1 (Nat.le_of_ble_eq_true rfl) ⟨Nat.le_of_ble_eq_true rfl, Nat.le_of_ble_eq_true rfl⟩ ⟨Nat.le_of_ble_eq_true rfl, Nat.le_of_ble_eq_true rfl⟩ rfl dX4_stages_2 ?_ (r_kr (fun r C' ad' H locs hQ hS => ?_))
  · -- thrown
    intro E ce q9 C9 ad9 H locs hX9 hS hce hcv hcl
    obtain ⟨⟨rfl, hno⟩, rfl, rfl⟩ := hX9
    exact r_out hex hlocks hS hce hcv hcl ⟨⟨by rw [byN_n hno]; exact Nat.one_ne_zero, rfl⟩, rfl, rfl⟩ (Nat.le_of_ble_eq_true rfl) (Nat.le_of_ble_eq_true rfl)
  obtain ⟨⟨d, hixd, rfl⟩, rfl, rfl⟩ := hQ
  have hd : d < (nD T) := ixO_lt hixd
  refine cl_X4_142 hx hb hml hown hK hZ hS hA (c_X2_countStages hI hd) (hI.die hd) rfl hl.1 (Nat.le_of_ble_eq_true rfl) ⟨Nat.le_of_ble_eq_true rfl, Nat.le_of_ble_eq_true rfl⟩ ⟨Nat.le_of_ble_eq_true rfl, Nat.le_of_ble_eq_true rfl⟩ rfl dX4_stages_5 (r_kp (fun H locs hS => ?_))
  refine vx_ret ?_
  exact r_iret hx hb hr hlocks hS (⟨_, rfl, ⟨by rw [byN_s hixd], by rw [byN_s hixd]⟩, rfl, rfl⟩) (Nat.le_of_ble_eq_true rfl) (Nat.le_of_ble_eq_true rfl) dX4_stages_8

set_option maxHeartbeats 4000000 in
set_option maxRecDepth 100000 in
theorem c_X4_proof {G : rG} {l : Launch} {T : rTab} {L : rL} {C : rC} {ad : rA} (hlt : l.stackTraces = false) (hI : cInv G T L C ad) (a : Int32) : rMetX G l yX4_proof cX4_proof 2 (some .int) (rmM 8 1 6) [.ref (ad 0 0), .int a] C ad (rIs (fun r => (byN (nD T) a (fun d => prI T d)).1 = 0 ∧ r = .int (byN (nD T) a (fun d => prI T d)).2) C ad) (xIs (fun E => (byN (nD T) a (fun d => prI T d)).1 ≠ 0 ∧ E = eIOB) C ad) := by
  refine rMetX.of (by decide) ?_
  intro p e s m below meth c hx hb hml hr hlocks hown hname hK hZ hS hex
  have hown : s.vm.findClass RX4 = some m.cls := hown
  have hA : ∀ q : Nat, s.heap.size ≤ q → (rF C ad s.heap.size) q := rF.new
  refine r_entry _ (Nat.le_of_ble_eq_true rfl) (fun ls hl => ?_)
  have hl : lv_has ls 2 [(0, .ref (ad 0 0)), (1, .int a)] := hl
  refine lv_aload_n hx hb dX4_proof_0 rfl (lv_at hl 0 rfl) ?_
  refine lv_aload_n hx hb dX4_proof_1 rfl (lv_at hl 0 rfl) ?_
  refine lv_iload_n hx hb dX4_proof_2 rfl (lv_at hl 1 rfl) ?_
  refine cl_X4_49 hx hb hml hown hK hZ hS hA (c_X4_theDie hlt hI a) hI.reg rfl hl.1 (Nat.le_of_ble_eq_true rfl) ⟨Nat.le_of_ble_eq_true rfl, Nat.le_of_ble_eq_true rfl⟩ ⟨Nat.le_of_ble_eq_true rfl, Nat.le_of_ble_eq_true rfl⟩ rfl dX4_proof_3 ?_ (r_kr (fun r C' ad' H locs hQ hS => ?_))
  · -- thrown
    intro E ce q9 C9 ad9 H locs hX9 hS hce hcv hcl
    obtain ⟨⟨rfl, hno⟩, rfl, rfl⟩ := hX9
    exact r_out hex hlocks hS hce hcv hcl ⟨⟨by rw [byN_n hno]; exact Nat.one_ne_zero, rfl⟩, rfl, rfl⟩ (Nat.le_of_ble_eq_true rfl) (Nat.le_of_ble_eq_true rfl)
  obtain ⟨⟨d, hixd, rfl⟩, rfl, rfl⟩ := hQ
  have hd : d < (nD T) := ixO_lt hixd
  refine cl_X4_145 hx hb hml hown hK hZ hS hA (c_X4_provedSource hI hd) hI.reg rfl hl.1 (Nat.le_of_ble_eq_true rfl) ⟨Nat.le_of_ble_eq_true rfl, Nat.le_of_ble_eq_true rfl⟩ ⟨Nat.le_of_ble_eq_true rfl, Nat.le_of_ble_eq_true rfl⟩ rfl dX4_proof_6 (r_kp (fun H locs hS => ?_))
  refine vx_ret ?_
  exact r_iret hx hb hr hlocks hS (⟨_, rfl, ⟨by rw [byN_s hixd], by rw [byN_s hixd]⟩, rfl, rfl⟩) (Nat.le_of_ble_eq_true rfl) (Nat.le_of_ble_eq_true rfl) dX4_proof_9

set_option maxHeartbeats 4000000 in
set_option maxRecDepth 100000 in
theorem c_X4_isCondemned {G : rG} {l : Launch} {T : rTab} {L : rL} {C : rC} {ad : rA} (hlt : l.stackTraces = false) (hI : cInv G T L C ad) (a : Int32) : rMetX G l yX4_isCondemned cX4_isCondemned 2 (some .boolean) (rmM 8 1 6) [.ref (ad 0 0), .int a] C ad (rIs (fun r => (byN (nD T) a (fun d => bI (decide (T 4 d = 1)))).1 = 0 ∧ r = .int (byN (nD T) a (fun d => bI (decide (T 4 d = 1)))).2) C ad) (xIs (fun E => (byN (nD T) a (fun d => bI (decide (T 4 d = 1)))).1 ≠ 0 ∧ E = eIOB) C ad) := by
  refine rMetX.of (by decide) ?_
  intro p e s m below meth c hx hb hml hr hlocks hown hname hK hZ hS hex
  have hown : s.vm.findClass RX4 = some m.cls := hown
  have hA : ∀ q : Nat, s.heap.size ≤ q → (rF C ad s.heap.size) q := rF.new
  refine r_entry _ (Nat.le_of_ble_eq_true rfl) (fun ls hl => ?_)
  have hl : lv_has ls 2 [(0, .ref (ad 0 0)), (1, .int a)] := hl
  refine lv_aload_n hx hb dX4_isCondemned_0 rfl (lv_at hl 0 rfl) ?_
  refine lv_iload_n hx hb dX4_isCondemned_1 rfl (lv_at hl 1 rfl) ?_
  refine cl_X4_49 hx hb hml hown hK hZ hS hA (c_X4_theDie hlt hI a) hI.reg rfl hl.1 (Nat.le_of_ble_eq_true rfl) ⟨Nat.le_of_ble_eq_true rfl, Nat.le_of_ble_eq_true rfl⟩ ⟨Nat.le_of_ble_eq_true rfl, Nat.le_of_ble_eq_true rfl⟩ rfl dX4_isCondemned_2 ?_ (r_kr (fun r C' ad' H locs hQ hS => ?_))
  · -- thrown
    intro E ce q9 C9 ad9 H locs hX9 hS hce hcv hcl
    obtain ⟨⟨rfl, hno⟩, rfl, rfl⟩ := hX9
    exact r_out hex hlocks hS hce hcv hcl ⟨⟨by rw [byN_n hno]; exact Nat.one_ne_zero, rfl⟩, rfl, rfl⟩ (Nat.le_of_ble_eq_true rfl) (Nat.le_of_ble_eq_true rfl)
  obtain ⟨⟨d, hixd, rfl⟩, rfl, rfl⟩ := hQ
  have hd : d < (nD T) := ixO_lt hixd
  refine gf_X4_58 hx hb hown hK hS (hI.die hd) rfl dX4_isCondemned_5 ?_
  refine r_top (y := bI (decide (T 4 d = 1))) (by have h4 := (hI.dn hd).2.2.1; rcases (show T 4 d = 0 ∨ T 4 d = 1 by omega) with e | e <;> rw [e] <;> rfl) ?_
  refine vx_ret ?_
  exact r_zret hx hb hr hlocks hS (bI_z _) (⟨_, rfl, ⟨by rw [byN_s hixd], by rw [byN_s hixd]⟩, rfl, rfl⟩) (Nat.le_of_ble_eq_true rfl) (Nat.le_of_ble_eq_true rfl) dX4_isCondemned_8

set_option maxHeartbeats 4000000 in
set_option maxRecDepth 100000 in
theorem c_X4_isTrue {G : rG} {l : Launch} {T : rTab} {L : rL} {C : rC} {ad : rA} (hlt : l.stackTraces = false) (hI : cInv G T L C ad) (a : Int32) : rMetX G l yX4_isTrue cX4_isTrue 2 (some .boolean) (rmM 8 1 6) [.ref (ad 0 0), .int a] C ad (rIs (fun r => (byN (nC T) a (fun j => bI (tru T j))).1 = 0 ∧ r = .int (byN (nC T) a (fun j => bI (tru T j))).2) C ad) (xIs (fun E => (byN (nC T) a (fun j => bI (tru T j))).1 ≠ 0 ∧ E = eIOB) C ad) := by
  refine rMetX.of (by decide) ?_
  intro p e s m below meth c hx hb hml hr hlocks hown hname hK hZ hS hex
  have hown : s.vm.findClass RX4 = some m.cls := hown
  have hA : ∀ q : Nat, s.heap.size ≤ q → (rF C ad s.heap.size) q := rF.new
  refine r_entry _ (Nat.le_of_ble_eq_true rfl) (fun ls hl => ?_)
  have hl : lv_has ls 2 [(0, .ref (ad 0 0)), (1, .int a)] := hl
  refine lv_aload_n hx hb dX4_isTrue_0 rfl (lv_at hl 0 rfl) ?_
  refine lv_iload_n hx hb dX4_isTrue_1 rfl (lv_at hl 1 rfl) ?_
  refine cl_X4_100 hx hb hml hown hK hZ hS hA (c_X4_theCoin hlt hI a) hI.reg rfl hl.1 (Nat.le_of_ble_eq_true rfl) ⟨Nat.le_of_ble_eq_true rfl, Nat.le_of_ble_eq_true rfl⟩ ⟨Nat.le_of_ble_eq_true rfl, Nat.le_of_ble_eq_true rfl⟩ rfl dX4_isTrue_2 ?_ (r_kr (fun r C' ad' H locs hQ hS => ?_))
  · -- thrown
    intro E ce q9 C9 ad9 H locs hX9 hS hce hcv hcl
    obtain ⟨⟨rfl, hno⟩, rfl, rfl⟩ := hX9
    exact r_out hex hlocks hS hce hcv hcl ⟨⟨by rw [byN_n hno]; exact Nat.one_ne_zero, rfl⟩, rfl, rfl⟩ (Nat.le_of_ble_eq_true rfl) (Nat.le_of_ble_eq_true rfl)
  obtain ⟨⟨j, hixj, rfl⟩, rfl, rfl⟩ := hQ
  have hj : j < (nC T) := ixO_lt hixj
  refine cl_X4_117 hx hb hml hown hK hZ hS hA (c_X0_isGenuine hI hj) (hI.coin hj) rfl hl.1 (Nat.le_of_ble_eq_true rfl) ⟨Nat.le_of_ble_eq_true rfl, Nat.le_of_ble_eq_true rfl⟩ ⟨Nat.le_of_ble_eq_true rfl, Nat.le_of_ble_eq_true rfl⟩ rfl dX4_isTrue_5 (r_kp (fun H locs hS => ?_))
  refine vx_ret ?_
  exact r_zret hx hb hr hlocks hS (bI_z _) (⟨_, rfl, ⟨by rw [byN_s hixj], by rw [byN_s hixj]⟩, rfl, rfl⟩) (Nat.le_of_ble_eq_true rfl) (Nat.le_of_ble_eq_true rfl) dX4_isTrue_8

set_option maxHeartbeats 4000000 in
set_option maxRecDepth 100000 in
theorem c_X4_rarity {G : rG} {l : Launch} {T : rTab} {L : rL} {C : rC} {ad : rA} (hlt : l.stackTraces = false) (hI : cInv G T L C ad) (a : Int32) : rMetX G l yX4_rarity cX4_rarity 2 (some .int) (rmM 8 1 6) [.ref (ad 0 0), .int a] C ad (rIs (fun r => (byN (nD T) a (fun d => nI (rar T d))).1 = 0 ∧ r = .int (byN (nD T) a (fun d => nI (rar T d))).2) C ad) (xIs (fun E => (byN (nD T) a (fun d => nI (rar T d))).1 ≠ 0 ∧ E = eIOB) C ad) := by
  refine rMetX.of (by decide) ?_
  intro p e s m below meth c hx hb hml hr hlocks hown hname hK hZ hS hex
  have hown : s.vm.findClass RX4 = some m.cls := hown
  have hA : ∀ q : Nat, s.heap.size ≤ q → (rF C ad s.heap.size) q := rF.new
  refine r_entry _ (Nat.le_of_ble_eq_true rfl) (fun ls hl => ?_)
  have hl : lv_has ls 2 [(0, .ref (ad 0 0)), (1, .int a)] := hl
  refine lv_aload_n hx hb dX4_rarity_0 rfl (lv_at hl 0 rfl) ?_
  refine lv_iload_n hx hb dX4_rarity_1 rfl (lv_at hl 1 rfl) ?_
  refine cl_X4_49 hx hb hml hown hK hZ hS hA (c_X4_theDie hlt hI a) hI.reg rfl hl.1 (Nat.le_of_ble_eq_true rfl) ⟨Nat.le_of_ble_eq_true rfl, Nat.le_of_ble_eq_true rfl⟩ ⟨Nat.le_of_ble_eq_true rfl, Nat.le_of_ble_eq_true rfl⟩ rfl dX4_rarity_2 ?_ (r_kr (fun r C' ad' H locs hQ hS => ?_))
  · -- thrown
    intro E ce q9 C9 ad9 H locs hX9 hS hce hcv hcl
    obtain ⟨⟨rfl, hno⟩, rfl, rfl⟩ := hX9
    exact r_out hex hlocks hS hce hcv hcl ⟨⟨by rw [byN_n hno]; exact Nat.one_ne_zero, rfl⟩, rfl, rfl⟩ (Nat.le_of_ble_eq_true rfl) (Nat.le_of_ble_eq_true rfl)
  obtain ⟨⟨d, hixd, rfl⟩, rfl, rfl⟩ := hQ
  have hd : d < (nD T) := ixO_lt hixd
  refine gf_X4_97 hx hb hown hK hS (hI.die hd) rfl dX4_rarity_5 ?_
  refine vx_ret ?_
  exact r_iret hx hb hr hlocks hS (⟨_, rfl, ⟨by rw [byN_s hixd], by rw [byN_s hixd]; rw [(hI.dn hd).2.2.2]⟩, rfl, rfl⟩) (Nat.le_of_ble_eq_true rfl) (Nat.le_of_ble_eq_true rfl) dX4_rarity_8

set_option maxHeartbeats 4000000 in
set_option maxRecDepth 100000 in
theorem c_X4_price {G : rG} {l : Launch} {T : rTab} {L : rL} {C : rC} {ad : rA} (hlt : l.stackTraces = false) (hI : cInv G T L C ad) (a : Int32) : rMetX G l yX4_price cX4_price 2 (some .int) (rmM 8 1 6) [.ref (ad 0 0), .int a] C ad (rIs (fun r => (byN (nC T) a (fun j => nI (priceN T j))).1 = 0 ∧ r = .int (byN (nC T) a (fun j => nI (priceN T j))).2) C ad) (xIs (fun E => (byN (nC T) a (fun j => nI (priceN T j))).1 ≠ 0 ∧ E = eIOB) C ad) := by
  refine rMetX.of (by decide) ?_
  intro p e s m below meth c hx hb hml hr hlocks hown hname hK hZ hS hex
  have hown : s.vm.findClass RX4 = some m.cls := hown
  have hA : ∀ q : Nat, s.heap.size ≤ q → (rF C ad s.heap.size) q := rF.new
  refine r_entry _ (Nat.le_of_ble_eq_true rfl) (fun ls hl => ?_)
  have hl : lv_has ls 2 [(0, .ref (ad 0 0)), (1, .int a)] := hl
  refine lv_aload_n hx hb dX4_price_0 rfl (lv_at hl 0 rfl) ?_
  refine lv_iload_n hx hb dX4_price_1 rfl (lv_at hl 1 rfl) ?_
  refine cl_X4_100 hx hb hml hown hK hZ hS hA (c_X4_theCoin hlt hI a) hI.reg rfl hl.1 (Nat.le_of_ble_eq_true rfl) ⟨Nat.le_of_ble_eq_true rfl, Nat.le_of_ble_eq_true rfl⟩ ⟨Nat.le_of_ble_eq_true rfl, Nat.le_of_ble_eq_true rfl⟩ rfl dX4_price_2 ?_ (r_kr (fun r C' ad' H locs hQ hS => ?_))
  · -- thrown
    intro E ce q9 C9 ad9 H locs hX9 hS hce hcv hcl
    obtain ⟨⟨rfl, hno⟩, rfl, rfl⟩ := hX9
    exact r_out hex hlocks hS hce hcv hcl ⟨⟨by rw [byN_n hno]; exact Nat.one_ne_zero, rfl⟩, rfl, rfl⟩ (Nat.le_of_ble_eq_true rfl) (Nat.le_of_ble_eq_true rfl)
  obtain ⟨⟨j, hixj, rfl⟩, rfl, rfl⟩ := hQ
  have hj : j < (nC T) := ixO_lt hixj
  refine cl_X4_154 hx hb hml hown hK hZ hS hA (c_X0_priceNow hI hj) (hI.coin hj) rfl hl.1 (Nat.le_of_ble_eq_true rfl) ⟨Nat.le_of_ble_eq_true rfl, Nat.le_of_ble_eq_true rfl⟩ ⟨Nat.le_of_ble_eq_true rfl, Nat.le_of_ble_eq_true rfl⟩ rfl dX4_price_5 (r_kp (fun H locs hS => ?_))
  refine vx_ret ?_
  exact r_iret hx hb hr hlocks hS (⟨_, rfl, ⟨by rw [byN_s hixj], by rw [byN_s hixj]⟩, rfl, rfl⟩) (Nat.le_of_ble_eq_true rfl) (Nat.le_of_ble_eq_true rfl) dX4_price_8

set_option maxHeartbeats 4000000 in
set_option maxRecDepth 100000 in
theorem c_X4_owner {G : rG} {l : Launch} {T : rTab} {L : rL} {C : rC} {ad : rA} (hlt : l.stackTraces = false) (hI : cInv G T L C ad) (a : Int32) : rMetX G l yX4_owner cX4_owner 2 (some .int) (rmM 8 1 6) [.ref (ad 0 0), .int a] C ad (rIs (fun r => (byN (nC T) a (fun j => nI (T 8 j) - nI 1)).1 = 0 ∧ r = .int (byN (nC T) a (fun j => nI (T 8 j) - nI 1)).2) C ad) (xIs (fun E => (byN (nC T) a (fun j => nI (T 8 j) - nI 1)).1 ≠ 0 ∧ E = eIOB) C ad) := by
  refine rMetX.of (by decide) ?_
  intro p e s m below meth c hx hb hml hr hlocks hown hname hK hZ hS hex
  have hown : s.vm.findClass RX4 = some m.cls := hown
  have hA : ∀ q : Nat, s.heap.size ≤ q → (rF C ad s.heap.size) q := rF.new
  refine r_entry _ (Nat.le_of_ble_eq_true rfl) (fun ls hl => ?_)
  have hl : lv_has ls 2 [(0, .ref (ad 0 0)), (1, .int a)] := hl
  refine lv_aload_n hx hb dX4_owner_0 rfl (lv_at hl 0 rfl) ?_
  refine lv_iload_n hx hb dX4_owner_1 rfl (lv_at hl 1 rfl) ?_
  refine cl_X4_100 hx hb hml hown hK hZ hS hA (c_X4_theCoin hlt hI a) hI.reg rfl hl.1 (Nat.le_of_ble_eq_true rfl) ⟨Nat.le_of_ble_eq_true rfl, Nat.le_of_ble_eq_true rfl⟩ ⟨Nat.le_of_ble_eq_true rfl, Nat.le_of_ble_eq_true rfl⟩ rfl dX4_owner_2 ?_ (r_kr (fun r C' ad' H locs hQ hS => ?_))
  · -- thrown
    intro E ce q9 C9 ad9 H locs hX9 hS hce hcv hcl
    obtain ⟨⟨rfl, hno⟩, rfl, rfl⟩ := hX9
    exact r_out hex hlocks hS hce hcv hcl ⟨⟨by rw [byN_n hno]; exact Nat.one_ne_zero, rfl⟩, rfl, rfl⟩ (Nat.le_of_ble_eq_true rfl) (Nat.le_of_ble_eq_true rfl)
  obtain ⟨⟨j, hixj, rfl⟩, rfl, rfl⟩ := hQ
  have hj : j < (nC T) := ixO_lt hixj
  refine cl_X4_121 hx hb hml hown hK hZ hS hA (c_X0_ownerNumber hI hj) (hI.coin hj) rfl hl.1 (Nat.le_of_ble_eq_true rfl) ⟨Nat.le_of_ble_eq_true rfl, Nat.le_of_ble_eq_true rfl⟩ ⟨Nat.le_of_ble_eq_true rfl, Nat.le_of_ble_eq_true rfl⟩ rfl dX4_owner_5 (r_kp (fun H locs hS => ?_))
  refine vx_ret ?_
  exact r_iret hx hb hr hlocks hS (⟨_, rfl, ⟨by rw [byN_s hixj], by rw [byN_s hixj]⟩, rfl, rfl⟩) (Nat.le_of_ble_eq_true rfl) (Nat.le_of_ble_eq_true rfl) dX4_owner_8

set_option maxHeartbeats 4000000 in
set_option maxRecDepth 100000 in
theorem c_X4_wants {G : rG} {l : Launch} {T : rTab} {L : rL} {C : rC} {ad : rA} (hlt : l.stackTraces = false) (hI : cInv G T L C ad) (a : Int32) : rMetX G l yX4_wants cX4_wants 2 (some .int) (rmM 8 1 6) [.ref (ad 0 0), .int a] C ad (rIs (fun r => (byN 8 a (fun k => nI (T 10 k))).1 = 0 ∧ r = .int (byN 8 a (fun k => nI (T 10 k))).2) C ad) (xIs (fun E => (byN 8 a (fun k => nI (T 10 k))).1 ≠ 0 ∧ E = eIOB) C ad) := by
  refine rMetX.of (by decide) ?_
  intro p e s m below meth c hx hb hml hr hlocks hown hname hK hZ hS hex
  have hown : s.vm.findClass RX4 = some m.cls := hown
  have hA : ∀ q : Nat, s.heap.size ≤ q → (rF C ad s.heap.size) q := rF.new
  refine r_entry _ (Nat.le_of_ble_eq_true rfl) (fun ls hl => ?_)
  have hl : lv_has ls 2 [(0, .ref (ad 0 0)), (1, .int a)] := hl
  refine lv_aload_n hx hb dX4_wants_0 rfl (lv_at hl 0 rfl) ?_
  refine lv_iload_n hx hb dX4_wants_1 rfl (lv_at hl 1 rfl) ?_
  refine cl_X4_157 hx hb hml hown hK hZ hS hA (c_X4_theCollector hlt hI a) hI.reg rfl hl.1 (Nat.le_of_ble_eq_true rfl) ⟨Nat.le_of_ble_eq_true rfl, Nat.le_of_ble_eq_true rfl⟩ ⟨Nat.le_of_ble_eq_true rfl, Nat.le_of_ble_eq_true rfl⟩ rfl dX4_wants_2 ?_ (r_kr (fun r C' ad' H locs hQ hS => ?_))
  · -- thrown
    intro E ce q9 C9 ad9 H locs hX9 hS hce hcv hcl
    obtain ⟨⟨rfl, hno⟩, rfl, rfl⟩ := hX9
    exact r_out hex hlocks hS hce hcv hcl ⟨⟨by rw [byN_n hno]; exact Nat.one_ne_zero, rfl⟩, rfl, rfl⟩ (Nat.le_of_ble_eq_true rfl) (Nat.le_of_ble_eq_true rfl)
  obtain ⟨⟨k, hixk, rfl⟩, rfl, rfl⟩ := hQ
  have hk : k < 8 := ixO_lt hixk
  refine gf_X4_151 hx hb hown hK hS (hI.col hk) rfl dX4_wants_5 ?_
  refine vx_ret ?_
  exact r_iret hx hb hr hlocks hS (⟨_, rfl, ⟨by rw [byN_s hixk], by rw [byN_s hixk]⟩, rfl, rfl⟩) (Nat.le_of_ble_eq_true rfl) (Nat.le_of_ble_eq_true rfl) dX4_wants_8

set_option maxHeartbeats 4000000 in
set_option maxRecDepth 100000 in
theorem c_X4_couldBeOf {G : rG} {l : Launch} {T : rTab} {L : rL} {C : rC} {ad : rA} (hlt : l.stackTraces = false) (hI : cInv G T L C ad) (a : Int32) : rMetX G l yX4_couldBeOf cX4_couldBeOf 6 (some .int) (rmM 8 1 6) [.ref (ad 0 0), .int a] C ad (rIs (fun r => (byN (nC T) a (fun j => nI (setN (cbB T j) (nD T)))).1 = 0 ∧ r = .int (byN (nC T) a (fun j => nI (setN (cbB T j) (nD T)))).2) C ad) (xIs (fun E => (byN (nC T) a (fun j => nI (setN (cbB T j) (nD T)))).1 ≠ 0 ∧ E = eIOB) C ad) := by
  refine rMetX.of (by decide) ?_
  intro p e s m below meth c hx hb hml hr hlocks hown hname hK hZ hS hex
  have hown : s.vm.findClass RX4 = some m.cls := hown
  have hA : ∀ q : Nat, s.heap.size ≤ q → (rF C ad s.heap.size) q := rF.new
  refine r_entry _ (Nat.le_of_ble_eq_true rfl) (fun ls hl => ?_)
  have hl : lv_has ls 6 [(0, .ref (ad 0 0)), (1, .int a)] := hl
  refine lv_aload_n hx hb dX4_couldBeOf_0 rfl (lv_at hl 0 rfl) ?_
  refine lv_iload_n hx hb dX4_couldBeOf_1 rfl (lv_at hl 1 rfl) ?_
  refine cl_X4_100 hx hb hml hown hK hZ hS hA (c_X4_theCoin hlt hI a) hI.reg rfl hl.1 (Nat.le_of_ble_eq_true rfl) ⟨Nat.le_of_ble_eq_true rfl, Nat.le_of_ble_eq_true rfl⟩ ⟨Nat.le_of_ble_eq_true rfl, Nat.le_of_ble_eq_true rfl⟩ rfl dX4_couldBeOf_2 ?_ (r_kr (fun r C' ad' H locs hQ hS => ?_))
  · -- thrown
    intro E ce q9 C9 ad9 H locs hX9 hS hce hcv hcl
    obtain ⟨⟨rfl, hno⟩, rfl, rfl⟩ := hX9
    exact r_out hex hlocks hS hce hcv hcl ⟨⟨by rw [byN_n hno]; exact Nat.one_ne_zero, rfl⟩, rfl, rfl⟩ (Nat.le_of_ble_eq_true rfl) (Nat.le_of_ble_eq_true rfl)
  obtain ⟨⟨j, hixj, rfl⟩, rfl, rfl⟩ := hQ
  have hj : j < (nC T) := ixO_lt hixj
  have hD := hI.hD
  have h6 := (hI.cn hj).2.1
  have hdj := hI.dn (hI.odie hj)
  refine lv_astore_n (lv' := [(2, .ref (ad 4 j)), (0, .ref (ad 0 0)), (1, .int a)]) hx hb dX4_couldBeOf_5 rfl hl (by decide) rfl (fun ls hl => ?_)
  refine lv_iconst (v := nI 0) hx hb dX4_couldBeOf_6 (by decide) ?_
  refine lv_istore_n (lv' := [(3, .int (nI 0)), (2, .ref (ad 4 j)), (0, .ref (ad 0 0)), (1, .int a)]) hx hb dX4_couldBeOf_7 rfl hl (by decide) rfl (fun ls hl => ?_)
  refine lv_iconst (v := nI 0) hx hb dX4_couldBeOf_8 (by decide) ?_
  refine lv_istore (lv' := [(4, .int (nI 0)), (3, .int (nI 0)), (2, .ref (ad 4 j)), (0, .ref (ad 0 0)), (1, .int a)]) hx hb dX4_couldBeOf_9 hl (by decide) rfl (fun ls hl => ?_)
  refine r_loop (σ := Nat) (fun i => nD T - i) (fun i H locs ls => (i ≤ nD T) ∧ rS G.1 (rF C ad s.heap.size) s.heap C ad H locs ∧ lv_has ls 6 [(4, .int (nI i)), (3, .int (nI (setN (cbB T j) i))), (0, .ref (ad 0 0)), (2, .ref (ad 4 j))]) (fun _ => 1) (fun _ => 6) (fun z ih H locs ls hI => ?_) 0 (Nat.le_refl _) (Nat.le_refl _) ⟨Nat.zero_le _, hS, lv_sub hl [0, 1, 3, 2] rfl⟩
  obtain ⟨i, rfl⟩ : ∃ y, y = z := ⟨_, rfl⟩
  obtain ⟨hil, hS, hl⟩ := hI
  try dsimp only at hil hS hl ih ⊢
  refine lv_iload hx hb dX4_couldBeOf_11 (lv_at hl 0 rfl) ?_
  refine lv_aload_n hx hb dX4_couldBeOf_13 rfl (lv_at hl 2 rfl) ?_
  refine gf_X4_10 hx hb hown hK hS hI.reg rfl dX4_couldBeOf_14 ?_
  refine cl_X4_81 hx hb hml hown hK hZ hS hA (l_size (hI.dies)) ((hI.dies).1) rfl hl.1 (Nat.le_of_ble_eq_true rfl) ⟨Nat.le_of_ble_eq_true rfl, Nat.le_of_ble_eq_true rfl⟩ ⟨Nat.le_of_ble_eq_true rfl, Nat.le_of_ble_eq_true rfl⟩ rfl dX4_couldBeOf_17 (r_kp (fun H locs hS => ?_))
  refine r_top (y := nI (nD T)) (by rw [hI.ldies]) ?_
  refine r_icmp_ge (a := i) (b := nD T) (tgt := 78) hx hb (by omega) (by omega) dX4_couldBeOf_20 (by decide) (fun q20 => ?_) (fun q20 => ?_)
  · -- T
    have hie : nD T = i := by omega
    refine lv_iload_n hx hb dX4_couldBeOf_78 rfl (lv_at hl 1 rfl) ?_
    refine vx_ret ?_
    exact r_iret hx hb hr hlocks hS (⟨_, rfl, ⟨by rw [byN_s hixj], by rw [byN_s hixj]; rw [hie]⟩, rfl, rfl⟩) (Nat.le_of_ble_eq_true rfl) (Nat.le_of_ble_eq_true rfl) dX4_couldBeOf_79
  · -- F
    have hi := q20
    have hdi := hI.dn hi
    refine lv_aload_n hx hb dX4_couldBeOf_23 rfl (lv_at hl 2 rfl) ?_
    refine gf_X4_10 hx hb hown hK hS hI.reg rfl dX4_couldBeOf_24 ?_
    refine lv_iload hx hb dX4_couldBeOf_27 (lv_at hl 0 rfl) ?_
    refine cl_X4_132 hx hb hml hown hK hZ hS hA (l_get (hI.dies) (hI.dieAt hi)) ((hI.dies).1) rfl hl.1 (Nat.le_of_ble_eq_true rfl) ⟨Nat.le_of_ble_eq_true rfl, Nat.le_of_ble_eq_true rfl⟩ ⟨Nat.le_of_ble_eq_true rfl, Nat.le_of_ble_eq_true rfl⟩ rfl dX4_couldBeOf_29 (r_kp (fun H locs hS => ?_))
    refine ck_X4_59 hx hb hown hK hS (hI.die hi) dX4_couldBeOf_32 ?_
    refine lv_astore (lv' := [(5, .ref (ad 1 i)), (4, .int (nI i)), (3, .int (nI (setN (cbB T j) i))), (0, .ref (ad 0 0)), (2, .ref (ad 4 j))]) hx hb dX4_couldBeOf_35 hl (by decide) rfl (fun ls hl => ?_)
    refine lv_aload hx hb dX4_couldBeOf_37 (lv_at hl 0 rfl) ?_
    refine gf_X4_113 hx hb hown hK hS (hI.die hi) rfl dX4_couldBeOf_39 ?_
    refine lv_aload_n hx hb dX4_couldBeOf_42 rfl (lv_at hl 4 rfl) ?_
    refine gf_X4_109 hx hb hown hK hS (hI.coin hj) rfl dX4_couldBeOf_43 ?_
    refine gf_X4_113 hx hb hown hK hS (hI.die (hI.odie hj)) rfl dX4_couldBeOf_46 ?_
    refine r_icmp_ne (a := T 1 i) (b := T 1 (T 5 j)) (tgt := 72) hx hb (by omega) (by omega) dX4_couldBeOf_49 (by decide) (fun q49 => ?_) (fun q49 => ?_)
    · -- T
      rw [show nI (setN (cbB T j) i) = nI (setN (cbB T j) (i + 1)) by rw [setN_f (by unfold cbB; rw [decide_eq_false q49]; rfl)]] at hl
      refine lv_iinc (v := nI (i + 1)) (lv' := [(4, .int (nI (i + 1))), (5, .ref (ad 1 i)), (3, .int (nI (setN (cbB T j) (i + 1)))), (0, .ref (ad 0 0)), (2, .ref (ad 4 j))]) hx hb dX4_couldBeOf_72 hl (k := 1) rfl (nI_inc _) (by decide) rfl (fun ls hl => ?_)
      refine lv_goto (tgt := 11) hx hb dX4_couldBeOf_75 (by decide) ?_
      exact ih (i + 1) (by omega) _ _ _ ⟨(show i + 1 ≤ nD T by omega), hS, lv_sub hl [0, 2, 3, 4] rfl⟩
    · -- F
      refine lv_aload hx hb dX4_couldBeOf_52 (lv_at hl 0 rfl) ?_
      refine lv_aload_n hx hb dX4_couldBeOf_54 rfl (lv_at hl 4 rfl) ?_
      refine gf_X4_116 hx hb hown hK hS (hI.coin hj) rfl dX4_couldBeOf_55 ?_
      refine cl_X4_136 hx hb hml hown hK hZ hS hA (c_X2_firstOfStage hI hi h6) (hI.die hi) rfl hl.1 (Nat.le_of_ble_eq_true rfl) ⟨Nat.le_of_ble_eq_true rfl, Nat.le_of_ble_eq_true rfl⟩ ⟨Nat.le_of_ble_eq_true rfl, Nat.le_of_ble_eq_true rfl⟩ rfl dX4_couldBeOf_58 (r_kp (fun H locs hS => ?_))
      refine r_ifnullq (tgt := 72) hx hb dX4_couldBeOf_61 (by decide) (fun q61 => ?_) (fun x61 q61 => ?_)
      · -- T
        have hm : firstOf T i (T 6 j) = none := by cases ho : firstOf T i (T 6 j) with | none => rfl | some m => rw [ho] at q61; cases q61
        rw [show nI (setN (cbB T j) i) = nI (setN (cbB T j) (i + 1)) by rw [setN_f (by unfold cbB; rw [hm]; exact Bool.and_false _)]] at hl
        refine lv_iinc (v := nI (i + 1)) (lv' := [(4, .int (nI (i + 1))), (5, .ref (ad 1 i)), (3, .int (nI (setN (cbB T j) (i + 1)))), (0, .ref (ad 0 0)), (2, .ref (ad 4 j))]) hx hb dX4_couldBeOf_72 hl (k := 1) rfl (nI_inc _) (by decide) rfl (fun ls hl => ?_)
        refine lv_goto (tgt := 11) hx hb dX4_couldBeOf_75 (by decide) ?_
        exact ih (i + 1) (by omega) _ _ _ ⟨(show i + 1 ≤ nD T by omega), hS, lv_sub hl [0, 2, 3, 4] rfl⟩
      · -- F
        have hm : (firstOf T i (T 6 j)).isSome = true := by cases ho : firstOf T i (T 6 j) with | none => rw [ho] at q61; cases q61 | some m => rfl
        refine lv_iload_n hx hb dX4_couldBeOf_64 rfl (lv_at hl 2 rfl) ?_
        refine lv_aload hx hb dX4_couldBeOf_65 (lv_at hl 0 rfl) ?_
        refine cl_X4_139 hx hb hml hown hK hZ hS hA (c_X2_bit hI hi) (hI.die hi) rfl hl.1 (Nat.le_of_ble_eq_true rfl) ⟨Nat.le_of_ble_eq_true rfl, Nat.le_of_ble_eq_true rfl⟩ ⟨Nat.le_of_ble_eq_true rfl, Nat.le_of_ble_eq_true rfl⟩ rfl dX4_couldBeOf_67 (r_kp (fun H locs hS => ?_))
        refine lv_ior hx hb dX4_couldBeOf_70 ?_
        refine r_top (y := nI (setN (cbB T j) (i + 1))) ((nx_or _ _).trans (by rw [setN_t (by unfold cbB; rw [hm, decide_eq_true q49]; rfl)])) ?_
        refine lv_istore_n (lv' := [(3, .int (nI (setN (cbB T j) (i + 1)))), (5, .ref (ad 1 i)), (4, .int (nI i)), (0, .ref (ad 0 0)), (2, .ref (ad 4 j))]) hx hb dX4_couldBeOf_71 rfl hl (by decide) rfl (fun ls hl => ?_)
        refine lv_iinc (v := nI (i + 1)) (lv' := [(4, .int (nI (i + 1))), (3, .int (nI (setN (cbB T j) (i + 1)))), (5, .ref (ad 1 i)), (0, .ref (ad 0 0)), (2, .ref (ad 4 j))]) hx hb dX4_couldBeOf_72 hl (k := 2) rfl (nI_inc _) (by decide) rfl (fun ls hl => ?_)
        refine lv_goto (tgt := 11) hx hb dX4_couldBeOf_75 (by decide) ?_
        exact ih (i + 1) (by omega) _ _ _ ⟨(show i + 1 ≤ nD T by omega), hS, lv_sub hl [0, 1, 3, 4] rfl⟩

set_option maxHeartbeats 4000000 in
set_option maxRecDepth 100000 in
theorem c_X4_rarityByCoins {G : rG} {l : Launch} {T : rTab} {L : rL} {C : rC} {ad : rA} (hlt : l.stackTraces = false) (hI : cInv G T L C ad) (a : Int32) : rMetX G l yX4_rarityByCoins cX4_rarityByCoins 6 (some .int) (rmM 8 1 6) [.ref (ad 0 0), .int a] C ad (rIs (fun r => (byN (nD T) a (fun d => nI (rar T d))).1 = 0 ∧ r = .int (byN (nD T) a (fun d => nI (rar T d))).2) C ad) (xIs (fun E => (byN (nD T) a (fun d => nI (rar T d))).1 ≠ 0 ∧ E = eIOB) C ad) := by
  refine rMetX.of (by decide) ?_
  intro p e s m below meth c hx hb hml hr hlocks hown hname hK hZ hS hex
  have hown : s.vm.findClass RX4 = some m.cls := hown
  have hA : ∀ q : Nat, s.heap.size ≤ q → (rF C ad s.heap.size) q := rF.new
  refine r_entry _ (Nat.le_of_ble_eq_true rfl) (fun ls hl => ?_)
  have hl : lv_has ls 6 [(0, .ref (ad 0 0)), (1, .int a)] := hl
  refine lv_aload_n hx hb dX4_rarityByCoins_0 rfl (lv_at hl 0 rfl) ?_
  refine lv_iload_n hx hb dX4_rarityByCoins_1 rfl (lv_at hl 1 rfl) ?_
  refine cl_X4_49 hx hb hml hown hK hZ hS hA (c_X4_theDie hlt hI a) hI.reg rfl hl.1 (Nat.le_of_ble_eq_true rfl) ⟨Nat.le_of_ble_eq_true rfl, Nat.le_of_ble_eq_true rfl⟩ ⟨Nat.le_of_ble_eq_true rfl, Nat.le_of_ble_eq_true rfl⟩ rfl dX4_rarityByCoins_2 ?_ (r_kr (fun r C' ad' H locs hQ hS => ?_))
  · -- thrown
    intro E ce q9 C9 ad9 H locs hX9 hS hce hcv hcl
    obtain ⟨⟨rfl, hno⟩, rfl, rfl⟩ := hX9
    exact r_out hex hlocks hS hce hcv hcl ⟨⟨by rw [byN_n hno]; exact Nat.one_ne_zero, rfl⟩, rfl, rfl⟩ (Nat.le_of_ble_eq_true rfl) (Nat.le_of_ble_eq_true rfl)
  obtain ⟨⟨d, hixd, rfl⟩, rfl, rfl⟩ := hQ
  have hd : d < (nD T) := ixO_lt hixd
  have hC := hI.hC
  refine lv_astore_n (lv' := [(2, .ref (ad 1 d)), (0, .ref (ad 0 0)), (1, .int a)]) hx hb dX4_rarityByCoins_5 rfl hl (by decide) rfl (fun ls hl => ?_)
  refine lv_iconst (v := nI 0) hx hb dX4_rarityByCoins_6 (by decide) ?_
  refine lv_istore_n (lv' := [(3, .int (nI 0)), (2, .ref (ad 1 d)), (0, .ref (ad 0 0)), (1, .int a)]) hx hb dX4_rarityByCoins_7 rfl hl (by decide) rfl (fun ls hl => ?_)
  refine lv_iconst (v := nI 0) hx hb dX4_rarityByCoins_8 (by decide) ?_
  refine lv_istore (lv' := [(4, .int (nI 0)), (3, .int (nI 0)), (2, .ref (ad 1 d)), (0, .ref (ad 0 0)), (1, .int a)]) hx hb dX4_rarityByCoins_9 hl (by decide) rfl (fun ls hl => ?_)
  refine r_loop (σ := Nat) (fun i => nC T - i) (fun i H locs ls => (i ≤ nC T) ∧ rS G.1 (rF C ad s.heap.size) s.heap C ad H locs ∧ lv_has ls 6 [(4, .int (nI i)), (3, .int (nI (cntB (rarAt T d) i))), (0, .ref (ad 0 0)), (2, .ref (ad 1 d))]) (fun _ => 1) (fun _ => 6) (fun z ih H locs ls hI => ?_) 0 (Nat.le_refl _) (Nat.le_refl _) ⟨Nat.zero_le _, hS, lv_sub hl [0, 1, 3, 2] rfl⟩
  obtain ⟨i, rfl⟩ : ∃ y, y = z := ⟨_, rfl⟩
  obtain ⟨hil, hS, hl⟩ := hI
  try dsimp only at hil hS hl ih ⊢
  refine lv_iload hx hb dX4_rarityByCoins_11 (lv_at hl 0 rfl) ?_
  refine lv_aload_n hx hb dX4_rarityByCoins_13 rfl (lv_at hl 2 rfl) ?_
  refine gf_X4_16 hx hb hown hK hS hI.reg rfl dX4_rarityByCoins_14 ?_
  refine cl_X4_81 hx hb hml hown hK hZ hS hA (l_size (hI.coins)) ((hI.coins).1) rfl hl.1 (Nat.le_of_ble_eq_true rfl) ⟨Nat.le_of_ble_eq_true rfl, Nat.le_of_ble_eq_true rfl⟩ ⟨Nat.le_of_ble_eq_true rfl, Nat.le_of_ble_eq_true rfl⟩ rfl dX4_rarityByCoins_17 (r_kp (fun H locs hS => ?_))
  refine r_top (y := nI (nC T)) (by rw [hI.lcoins]) ?_
  refine r_icmp_ge (a := i) (b := nC T) (tgt := 63) hx hb (by omega) (by omega) dX4_rarityByCoins_20 (by decide) (fun q20 => ?_) (fun q20 => ?_)
  · -- T
    have hie : nC T = i := by omega
    refine lv_iload_n hx hb dX4_rarityByCoins_63 rfl (lv_at hl 1 rfl) ?_
    refine vx_ret ?_
    exact r_iret hx hb hr hlocks hS (⟨_, rfl, ⟨by rw [byN_s hixd], by rw [byN_s hixd]; unfold rar; rw [hie]⟩, rfl, rfl⟩) (Nat.le_of_ble_eq_true rfl) (Nat.le_of_ble_eq_true rfl) dX4_rarityByCoins_64
  · -- F
    have hi := q20
    refine lv_aload_n hx hb dX4_rarityByCoins_23 rfl (lv_at hl 2 rfl) ?_
    refine gf_X4_16 hx hb hown hK hS hI.reg rfl dX4_rarityByCoins_24 ?_
    refine lv_iload hx hb dX4_rarityByCoins_27 (lv_at hl 0 rfl) ?_
    refine cl_X4_132 hx hb hml hown hK hZ hS hA (l_get (hI.coins) (hI.coinAt hi)) ((hI.coins).1) rfl hl.1 (Nat.le_of_ble_eq_true rfl) ⟨Nat.le_of_ble_eq_true rfl, Nat.le_of_ble_eq_true rfl⟩ ⟨Nat.le_of_ble_eq_true rfl, Nat.le_of_ble_eq_true rfl⟩ rfl dX4_rarityByCoins_29 (r_kp (fun H locs hS => ?_))
    refine ck_X4_88 hx hb hown hK hS (hI.coin hi) dX4_rarityByCoins_32 ?_
    refine lv_astore (lv' := [(5, .ref (ad 4 i)), (4, .int (nI i)), (3, .int (nI (cntB (rarAt T d) i))), (0, .ref (ad 0 0)), (2, .ref (ad 1 d))]) hx hb dX4_rarityByCoins_35 hl (by decide) rfl (fun ls hl => ?_)
    refine lv_aload hx hb dX4_rarityByCoins_37 (lv_at hl 0 rfl) ?_
    refine gf_X4_109 hx hb hown hK hS (hI.coin hi) rfl dX4_rarityByCoins_39 ?_
    refine lv_aload_n hx hb dX4_rarityByCoins_42 rfl (lv_at hl 4 rfl) ?_
    refine r_acmp_ne (tgt := 57) hx hb dX4_rarityByCoins_43 (by decide) (fun q43 => ?_) (fun q43 => ?_)
    · -- T
      have q43 : ¬ T 5 i = d := fun e => q43 (by rw [e])
      rw [show nI (cntB (rarAt T d) i) = nI (cntB (rarAt T d) (i + 1)) by rw [cntB_f (by unfold rarAt; rw [decide_eq_false q43]; rfl)]] at hl
      refine lv_iinc (v := nI (i + 1)) (lv' := [(4, .int (nI (i + 1))), (5, .ref (ad 4 i)), (3, .int (nI (cntB (rarAt T d) (i + 1)))), (0, .ref (ad 0 0)), (2, .ref (ad 1 d))]) hx hb dX4_rarityByCoins_57 hl (k := 1) rfl (nI_inc _) (by decide) rfl (fun ls hl => ?_)
      refine lv_goto (tgt := 11) hx hb dX4_rarityByCoins_60 (by decide) ?_
      exact ih (i + 1) (by omega) _ _ _ ⟨(show i + 1 ≤ nC T by omega), hS, lv_sub hl [0, 2, 3, 4] rfl⟩
    · -- F
      have q43 : T 5 i = d := hI.inj1 hS (hI.odie hi) hd q43
      refine lv_aload hx hb dX4_rarityByCoins_46 (lv_at hl 0 rfl) ?_
      refine cl_X4_117 hx hb hml hown hK hZ hS hA (c_X0_isGenuine hI hi) (hI.coin hi) rfl hl.1 (Nat.le_of_ble_eq_true rfl) ⟨Nat.le_of_ble_eq_true rfl, Nat.le_of_ble_eq_true rfl⟩ ⟨Nat.le_of_ble_eq_true rfl, Nat.le_of_ble_eq_true rfl⟩ rfl dX4_rarityByCoins_48 (r_kp (fun H locs hS => ?_))
      refine r_ifb_eq (b := (tru T i)) (tgt := 57) hx hb dX4_rarityByCoins_51 (by decide) (fun q51 => ?_) (fun q51 => ?_)
      · -- T
        rw [show nI (cntB (rarAt T d) i) = nI (cntB (rarAt T d) (i + 1)) by rw [cntB_f (by unfold rarAt; rw [q51]; exact Bool.and_false _)]] at hl
        refine lv_iinc (v := nI (i + 1)) (lv' := [(4, .int (nI (i + 1))), (5, .ref (ad 4 i)), (3, .int (nI (cntB (rarAt T d) (i + 1)))), (0, .ref (ad 0 0)), (2, .ref (ad 1 d))]) hx hb dX4_rarityByCoins_57 hl (k := 1) rfl (nI_inc _) (by decide) rfl (fun ls hl => ?_)
        refine lv_goto (tgt := 11) hx hb dX4_rarityByCoins_60 (by decide) ?_
        exact ih (i + 1) (by omega) _ _ _ ⟨(show i + 1 ≤ nC T by omega), hS, lv_sub hl [0, 2, 3, 4] rfl⟩
      · -- F
        refine lv_iinc (v := nI (cntB (rarAt T d) (i + 1))) (lv' := [(3, .int (nI (cntB (rarAt T d) (i + 1)))), (5, .ref (ad 4 i)), (4, .int (nI i)), (0, .ref (ad 0 0)), (2, .ref (ad 1 d))]) hx hb dX4_rarityByCoins_54 hl (k := 2) rfl (by rw [nI_inc, cntB_t (by unfold rarAt; rw [q51, decide_eq_true q43]; rfl)]) (by decide) rfl (fun ls hl => ?_)
        refine lv_iinc (v := nI (i + 1)) (lv' := [(4, .int (nI (i + 1))), (3, .int (nI (cntB (rarAt T d) (i + 1)))), (5, .ref (ad 4 i)), (0, .ref (ad 0 0)), (2, .ref (ad 1 d))]) hx hb dX4_rarityByCoins_57 hl (k := 2) rfl (nI_inc _) (by decide) rfl (fun ls hl => ?_)
        refine lv_goto (tgt := 11) hx hb dX4_rarityByCoins_60 (by decide) ?_
        exact ih (i + 1) (by omega) _ _ _ ⟨(show i + 1 ≤ nC T by omega), hS, lv_sub hl [0, 1, 3, 4] rfl⟩

set_option maxHeartbeats 4000000 in
set_option maxRecDepth 100000 in
theorem c_X4_worth {G : rG} {l : Launch} {T : rTab} {L : rL} {C : rC} {ad : rA} (hlt : l.stackTraces = false) (hI : cInv G T L C ad) (a : Int32) : rMetX G l yX4_worth cX4_worth 5 (some .int) (rmM 8 1 6) [.ref (ad 0 0), .int a] C ad (rIs (fun r => (byN 8 a (fun k => nI (worthN T k))).1 = 0 ∧ r = .int (byN 8 a (fun k => nI (worthN T k))).2) C ad) (xIs (fun E => (byN 8 a (fun k => nI (worthN T k))).1 ≠ 0 ∧ E = eIOB) C ad) := by
  refine rMetX.of (by decide) ?_
  intro p e s m below meth c hx hb hml hr hlocks hown hname hK hZ hS hex
  have hown : s.vm.findClass RX4 = some m.cls := hown
  have hA : ∀ q : Nat, s.heap.size ≤ q → (rF C ad s.heap.size) q := rF.new
  refine r_entry _ (Nat.le_of_ble_eq_true rfl) (fun ls hl => ?_)
  have hl : lv_has ls 5 [(0, .ref (ad 0 0)), (1, .int a)] := hl
  refine lv_aload_n hx hb dX4_worth_0 rfl (lv_at hl 0 rfl) ?_
  refine lv_iload_n hx hb dX4_worth_1 rfl (lv_at hl 1 rfl) ?_
  refine cl_X4_157 hx hb hml hown hK hZ hS hA (c_X4_theCollector hlt hI a) hI.reg rfl hl.1 (Nat.le_of_ble_eq_true rfl) ⟨Nat.le_of_ble_eq_true rfl, Nat.le_of_ble_eq_true rfl⟩ ⟨Nat.le_of_ble_eq_true rfl, Nat.le_of_ble_eq_true rfl⟩ rfl dX4_worth_2 ?_ (r_kr (fun r C' ad' H locs hQ hS => ?_))
  · -- thrown
    intro E ce q9 C9 ad9 H locs hX9 hS hce hcv hcl
    obtain ⟨⟨rfl, hno⟩, rfl, rfl⟩ := hX9
    exact r_out hex hlocks hS hce hcv hcl ⟨⟨by rw [byN_n hno]; exact Nat.one_ne_zero, rfl⟩, rfl, rfl⟩ (Nat.le_of_ble_eq_true rfl) (Nat.le_of_ble_eq_true rfl)
  obtain ⟨⟨k, hixk, rfl⟩, rfl, rfl⟩ := hQ
  have hk : k < 8 := ixO_lt hixk
  have hlen := (hI.how hk).2.2.1
  refine gf_X4_161 hx hb hown hK hS (hI.col hk) rfl dX4_worth_5 ?_
  refine lv_astore_n (lv' := [(2, .ref (ad 14 k)), (0, .ref (ad 0 0)), (1, .int a)]) hx hb dX4_worth_8 rfl hl (by decide) rfl (fun ls hl => ?_)
  refine lv_iconst (v := nI 0) hx hb dX4_worth_9 (by decide) ?_
  refine lv_istore_n (lv' := [(3, .int (nI 0)), (2, .ref (ad 14 k)), (0, .ref (ad 0 0)), (1, .int a)]) hx hb dX4_worth_10 rfl hl (by decide) rfl (fun ls hl => ?_)
  refine lv_iconst (v := nI 0) hx hb dX4_worth_11 (by decide) ?_
  refine lv_istore (lv' := [(4, .int (nI 0)), (3, .int (nI 0)), (2, .ref (ad 14 k)), (0, .ref (ad 0 0)), (1, .int a)]) hx hb dX4_worth_12 hl (by decide) rfl (fun ls hl => ?_)
  refine r_loop (σ := Nat) (fun i => (L.1 14 k).length - i) (fun i H locs ls => (i ≤ (L.1 14 k).length) ∧ rS G.1 (rF C ad s.heap.size) s.heap C ad H locs ∧ lv_has ls 5 [(4, .int (nI i)), (3, .int (nI (sumL (priceN T) ((L.1 14 k).take i)))), (2, .ref (ad 14 k))]) (fun _ => 1) (fun _ => 6) (fun z ih H locs ls hI => ?_) 0 (Nat.le_refl _) (Nat.le_refl _) ⟨Nat.zero_le _, hS, lv_sub hl [0, 1, 2] rfl⟩
  obtain ⟨i, rfl⟩ : ∃ y, y = z := ⟨_, rfl⟩
  obtain ⟨hil, hS, hl⟩ := hI
  try dsimp only at hil hS hl ih ⊢
  refine lv_iload hx hb dX4_worth_14 (lv_at hl 0 rfl) ?_
  refine lv_aload_n hx hb dX4_worth_16 rfl (lv_at hl 2 rfl) ?_
  refine cl_X4_81 hx hb hml hown hK hZ hS hA (l_size (hI.owned hk)) ((hI.owned hk).1) rfl hl.1 (Nat.le_of_ble_eq_true rfl) ⟨Nat.le_of_ble_eq_true rfl, Nat.le_of_ble_eq_true rfl⟩ ⟨Nat.le_of_ble_eq_true rfl, Nat.le_of_ble_eq_true rfl⟩ rfl dX4_worth_17 (r_kp (fun H locs hS => ?_))
  refine r_icmp_ge (a := i) (b := (L.1 14 k).length) (tgt := 44) hx hb (by omega) (by omega) dX4_worth_20 (by decide) (fun q20 => ?_) (fun q20 => ?_)
  · -- T
    have hie : i = (L.1 14 k).length := by omega
    refine lv_iload_n hx hb dX4_worth_44 rfl (lv_at hl 1 rfl) ?_
    refine vx_ret ?_
    exact r_iret hx hb hr hlocks hS (⟨_, rfl, ⟨by rw [byN_s hixk], by rw [byN_s hixk]; rw [show worthN T k = sumL (priceN T) ((L.1 14 k).take i) by rw [hie, List.take_length]; exact (ow_sum hI hk (priceN T)).symm]⟩, rfl, rfl⟩) (Nat.le_of_ble_eq_true rfl) (Nat.le_of_ble_eq_true rfl) dX4_worth_45
  · -- F
    obtain ⟨y, hy, hyC, hy8⟩ := hI.owAt hk q20
    refine lv_iload_n hx hb dX4_worth_23 rfl (lv_at hl 1 rfl) ?_
    refine lv_aload_n hx hb dX4_worth_24 rfl (lv_at hl 2 rfl) ?_
    refine lv_iload hx hb dX4_worth_25 (lv_at hl 0 rfl) ?_
    refine cl_X4_132 hx hb hml hown hK hZ hS hA (l_get (hI.owned hk) hy) ((hI.owned hk).1) rfl hl.1 (Nat.le_of_ble_eq_true rfl) ⟨Nat.le_of_ble_eq_true rfl, Nat.le_of_ble_eq_true rfl⟩ ⟨Nat.le_of_ble_eq_true rfl, Nat.le_of_ble_eq_true rfl⟩ rfl dX4_worth_27 (r_kp (fun H locs hS => ?_))
    refine ck_X4_88 hx hb hown hK hS (hI.coin hyC) dX4_worth_30 ?_
    refine cl_X4_154 hx hb hml hown hK hZ hS hA (c_X0_priceNow hI hyC) (hI.coin hyC) rfl hl.1 (Nat.le_of_ble_eq_true rfl) ⟨Nat.le_of_ble_eq_true rfl, Nat.le_of_ble_eq_true rfl⟩ ⟨Nat.le_of_ble_eq_true rfl, Nat.le_of_ble_eq_true rfl⟩ rfl dX4_worth_33 (r_kp (fun H locs hS => ?_))
    refine lv_iadd hx hb dX4_worth_36 ?_
    refine r_top (y := nI (sumL (priceN T) ((L.1 14 k).take (i + 1)))) ((nI_add _ _).trans (by rw [sumL_take hy])) ?_
    refine lv_istore_n (lv' := [(3, .int (nI (sumL (priceN T) ((L.1 14 k).take (i + 1))))), (4, .int (nI i)), (2, .ref (ad 14 k))]) hx hb dX4_worth_37 rfl hl (by decide) rfl (fun ls hl => ?_)
    refine lv_iinc (v := nI (i + 1)) (lv' := [(4, .int (nI (i + 1))), (3, .int (nI (sumL (priceN T) ((L.1 14 k).take (i + 1))))), (2, .ref (ad 14 k))]) hx hb dX4_worth_38 hl (k := 1) rfl (nI_inc _) (by decide) rfl (fun ls hl => ?_)
    refine lv_goto (tgt := 14) hx hb dX4_worth_41 (by decide) ?_
    exact ih (i + 1) (by omega) _ _ _ ⟨(show i + 1 ≤ (L.1 14 k).length by omega), hS, lv_sub hl [0, 1, 2] rfl⟩

set_option maxHeartbeats 4000000 in
set_option maxRecDepth 100000 in
theorem c_X4_coinAt {G : rG} {l : Launch} {T : rTab} {L : rL} {C : rC} {ad : rA} (hlt : l.stackTraces = false) (hI : cInv G T L C ad) (a b : Int32) : rMetX G l yX4_coinAt cX4_coinAt 6 (some .int) (rmM 8 2 12) [.ref (ad 0 0), .int a, .int b] C ad (rIs (fun r => (coinQ T a b).1 = 0 ∧ r = .int (coinQ T a b).2) C ad) (xIs (fun E => (coinQ T a b).1 ≠ 0 ∧ E = eIOB) C ad) := by
  refine rMetX.of (by decide) ?_
  intro p e s m below meth c hx hb hml hr hlocks hown hname hK hZ hS hex
  have hown : s.vm.findClass RX4 = some m.cls := hown
  have hA : ∀ q : Nat, s.heap.size ≤ q → (rF C ad s.heap.size) q := rF.new
  refine r_entry _ (Nat.le_of_ble_eq_true rfl) (fun ls hl => ?_)
  have hl : lv_has ls 6 [(0, .ref (ad 0 0)), (1, .int a), (2, .int b)] := hl
  refine lv_aload_n hx hb dX4_coinAt_0 rfl (lv_at hl 0 rfl) ?_
  refine lv_iload_n hx hb dX4_coinAt_1 rfl (lv_at hl 1 rfl) ?_
  refine cl_X4_157 hx hb hml hown hK hZ hS hA (c_X4_theCollector hlt hI a) hI.reg rfl hl.1 (Nat.le_of_ble_eq_true rfl) ⟨Nat.le_of_ble_eq_true rfl, Nat.le_of_ble_eq_true rfl⟩ ⟨Nat.le_of_ble_eq_true rfl, Nat.le_of_ble_eq_true rfl⟩ rfl dX4_coinAt_2 ?_ (r_kr (fun r C' ad' H locs hQ hS => ?_))
  · -- thrown
    intro E ce q9 C9 ad9 H locs hX9 hS hce hcv hcl
    obtain ⟨⟨rfl, hno⟩, rfl, rfl⟩ := hX9
    exact r_out hex hlocks hS hce hcv hcl ⟨⟨by rw [coinQ_n hno]; exact Nat.one_ne_zero, rfl⟩, rfl, rfl⟩ (Nat.le_of_ble_eq_true rfl) (Nat.le_of_ble_eq_true rfl)
  obtain ⟨⟨k, hixk, rfl⟩, rfl, rfl⟩ := hQ
  have hk : k < 8 := ixO_lt hixk
  have hlen := (hI.how hk).2.2.1
  have hC := hI.hC
  refine lv_astore_n (lv' := [(3, .ref (ad 5 k)), (0, .ref (ad 0 0)), (1, .int a), (2, .int b)]) hx hb dX4_coinAt_5 rfl hl (by decide) rfl (fun ls hl => ?_)
  refine lv_iconst (v := nI 0) hx hb dX4_coinAt_6 (by decide) ?_
  refine lv_istore (lv' := [(4, .int (nI 0)), (3, .ref (ad 5 k)), (0, .ref (ad 0 0)), (1, .int a), (2, .int b)]) hx hb dX4_coinAt_7 hl (by decide) rfl (fun ls hl => ?_)
  refine r_loop (σ := Nat) (fun i => (L.1 14 k).length - i) (fun i H locs ls => (i ≤ (L.1 14 k).length) ∧ (∀ x y, x < i → (L.1 14 k)[x]? = some y → ¬ nI (aheadN T k y) = b) ∧ rS G.1 (rF C ad s.heap.size) s.heap C ad H locs ∧ lv_has ls 6 [(4, .int (nI i)), (2, .int b), (3, .ref (ad 5 k))]) (fun _ => 1) (fun _ => 6) (fun z ih H locs ls hI => ?_) 0 (Nat.le_refl _) (Nat.le_refl _) ⟨Nat.zero_le _, fun x a hx => absurd hx (Nat.not_lt_zero _), hS, lv_sub hl [0, 4, 1] rfl⟩
  obtain ⟨i, rfl⟩ : ∃ y, y = z := ⟨_, rfl⟩
  obtain ⟨hil, hz, hS, hl⟩ := hI
  try dsimp only at hil hz hS hl ih ⊢
  refine lv_iload hx hb dX4_coinAt_9 (lv_at hl 0 rfl) ?_
  refine lv_aload_n hx hb dX4_coinAt_11 rfl (lv_at hl 2 rfl) ?_
  refine gf_X4_161 hx hb hown hK hS (hI.col hk) rfl dX4_coinAt_12 ?_
  refine cl_X4_81 hx hb hml hown hK hZ hS hA (l_size (hI.owned hk)) ((hI.owned hk).1) rfl hl.1 (Nat.le_of_ble_eq_true rfl) ⟨Nat.le_of_ble_eq_true rfl, Nat.le_of_ble_eq_true rfl⟩ ⟨Nat.le_of_ble_eq_true rfl, Nat.le_of_ble_eq_true rfl⟩ rfl dX4_coinAt_15 (r_kp (fun H locs hS => ?_))
  refine r_icmp_ge (a := i) (b := (L.1 14 k).length) (tgt := 57) hx hb (by omega) (by omega) dX4_coinAt_18 (by decide) (fun q18 => ?_) (fun q18 => ?_)
  · -- T
    have hie : i = (L.1 14 k).length := by omega
    have hn1 : coinQ T a b = (1, 0) := (coinQ_s hixk).trans (atQ_n fun j hj h8 => by
      obtain ⟨x, hx⟩ := List.mem_iff_getElem?.mp (((hI.how hk).2.1 j).mpr ⟨hj, h8⟩)
      exact hz x j (by have := (List.getElem?_eq_some_iff.mp hx).1; omega) hx)
    exact th_X4_38_195 hx hb hlt hown hK hZ hS (by rw [hml]; exact hl.1) dX4_coinAt_57 dX4_coinAt_60 dX4_coinAt_61 dX4_coinAt_63 dX4_coinAt_66 hex (Nat.le_of_ble_eq_true rfl) (Nat.le_of_ble_eq_true rfl) (Nat.le_of_ble_eq_true rfl) (Nat.le_of_ble_eq_true rfl) hlocks (⟨⟨by rw [hn1]; exact Nat.one_ne_zero, rfl⟩, rfl, rfl⟩) (Nat.le_of_ble_eq_true rfl) (Nat.le_of_ble_eq_true rfl)
  · -- F
    obtain ⟨y, hy, hyC, hy8⟩ := hI.owAt hk q18
    refine lv_aload_n hx hb dX4_coinAt_21 rfl (lv_at hl 2 rfl) ?_
    refine gf_X4_161 hx hb hown hK hS (hI.col hk) rfl dX4_coinAt_22 ?_
    refine lv_iload hx hb dX4_coinAt_25 (lv_at hl 0 rfl) ?_
    refine cl_X4_132 hx hb hml hown hK hZ hS hA (l_get (hI.owned hk) hy) ((hI.owned hk).1) rfl hl.1 (Nat.le_of_ble_eq_true rfl) ⟨Nat.le_of_ble_eq_true rfl, Nat.le_of_ble_eq_true rfl⟩ ⟨Nat.le_of_ble_eq_true rfl, Nat.le_of_ble_eq_true rfl⟩ rfl dX4_coinAt_27 (r_kp (fun H locs hS => ?_))
    refine ck_X4_88 hx hb hown hK hS (hI.coin hyC) dX4_coinAt_30 ?_
    refine lv_astore (lv' := [(5, .ref (ad 4 y)), (4, .int (nI i)), (2, .int b), (3, .ref (ad 5 k))]) hx hb dX4_coinAt_33 hl (by decide) rfl (fun ls hl => ?_)
    refine lv_aload_n hx hb dX4_coinAt_35 rfl (lv_at hl 3 rfl) ?_
    refine lv_aload hx hb dX4_coinAt_36 (lv_at hl 0 rfl) ?_
    refine cl_X4_188 hx hb hml hown hK hZ hS hA (c_X1_countDearerThan hI hk hyC) (hI.col hk) rfl hl.1 (Nat.le_of_ble_eq_true rfl) ⟨Nat.le_of_ble_eq_true rfl, Nat.le_of_ble_eq_true rfl⟩ ⟨Nat.le_of_ble_eq_true rfl, Nat.le_of_ble_eq_true rfl⟩ rfl dX4_coinAt_38 (r_kp (fun H locs hS => ?_))
    refine lv_iload_n hx hb dX4_coinAt_41 rfl (lv_at hl 2 rfl) ?_
    refine lv_icmp_ne (tgt := 51) hx hb dX4_coinAt_42 (by decide) (fun q42 => ?_) (fun q42 => ?_)
    · -- T
      refine lv_iinc (v := nI (i + 1)) (lv' := [(4, .int (nI (i + 1))), (5, .ref (ad 4 y)), (2, .int b), (3, .ref (ad 5 k))]) hx hb dX4_coinAt_51 hl (k := 1) rfl (nI_inc _) (by decide) rfl (fun ls hl => ?_)
      refine lv_goto (tgt := 9) hx hb dX4_coinAt_54 (by decide) ?_
      exact ih (i + 1) (by omega) _ _ _ ⟨(show i + 1 ≤ (L.1 14 k).length by omega), (fun x a hx hxa => by
              by_cases e : x = i
              · rw [e, hy] at hxa
                cases hxa
                exact q42
              · exact hz x a (by omega) hxa), hS, lv_sub hl [0, 2, 3] rfl⟩
    · -- F
      refine lv_aload hx hb dX4_coinAt_45 (lv_at hl 0 rfl) ?_
      refine gf_X4_192 hx hb hown hK hS (hI.coin hyC) rfl dX4_coinAt_47 ?_
      refine vx_ret ?_
      exact r_iret hx hb hr hlocks hS (⟨_, rfl, ⟨by rw [coinQ_s hixk, atQ_s hC hyC hy8 q42], by rw [coinQ_s hixk, atQ_s hC hyC hy8 q42]⟩, rfl, rfl⟩) (Nat.le_of_ble_eq_true rfl) (Nat.le_of_ble_eq_true rfl) dX4_coinAt_50

set_option maxHeartbeats 4000000 in
set_option maxRecDepth 100000 in
theorem c_X4_swapAt {G : rG} {l : Launch} {T : rTab} {L : rL} {C : rC} {ad : rA} (hlt : l.stackTraces = false) (hI : cInv G T L C ad) (a b : Int32) : rMetX G l yX4_swapAt cX4_swapAt 3 (some .int) (rmM 9 1 6) [.ref (ad 0 0), .int a, .int b] C ad (rIs (fun r => (swapQ T a b).1 = 0 ∧ r = .int (swapQ T a b).2) C ad) (xIs (fun E => (swapQ T a b).1 ≠ 0 ∧ E = eIOB) C ad) := by
  refine rMetX.of (by decide) ?_
  intro p e s m below meth c hx hb hml hr hlocks hown hname hK hZ hS hex
  have hown : s.vm.findClass RX4 = some m.cls := hown
  have hA : ∀ q : Nat, s.heap.size ≤ q → (rF C ad s.heap.size) q := rF.new
  refine r_entry _ (Nat.le_of_ble_eq_true rfl) (fun ls hl => ?_)
  have hl : lv_has ls 3 [(0, .ref (ad 0 0)), (1, .int a), (2, .int b)] := hl
  have hSn := hI.hS
  refine lv_iload_n hx hb dX4_swapAt_0 rfl (lv_at hl 1 rfl) ?_
  refine lv_if_lt (tgt := 15) hx hb dX4_swapAt_1 (by decide) (fun q1 => ?_) (fun q1 => ?_)
  · -- T
    exact th_X4_38_211 hx hb hlt hown hK hZ hS (by rw [hml]; exact hl.1) dX4_swapAt_15 dX4_swapAt_18 dX4_swapAt_19 dX4_swapAt_21 dX4_swapAt_24 hex (Nat.le_of_ble_eq_true rfl) (Nat.le_of_ble_eq_true rfl) (Nat.le_of_ble_eq_true rfl) (Nat.le_of_ble_eq_true rfl) hlocks (⟨⟨by rw [swapQ_n (ixO_neg q1)]; exact Nat.one_ne_zero, rfl⟩, rfl, rfl⟩) (Nat.le_of_ble_eq_true rfl) (Nat.le_of_ble_eq_true rfl)
  · -- F
    refine lv_iload_n hx hb dX4_swapAt_4 rfl (lv_at hl 1 rfl) ?_
    refine lv_aload_n hx hb dX4_swapAt_5 rfl (lv_at hl 0 rfl) ?_
    refine gf_X4_25 hx hb hown hK hS hI.reg rfl dX4_swapAt_6 ?_
    refine cl_X4_81 hx hb hml hown hK hZ hS hA (l_size (hI.swapped)) ((hI.swapped).1) rfl hl.1 (Nat.le_of_ble_eq_true rfl) ⟨Nat.le_of_ble_eq_true rfl, Nat.le_of_ble_eq_true rfl⟩ ⟨Nat.zero_le _, Nat.zero_le _⟩ rfl dX4_swapAt_9 (r_kp (fun H locs hS => ?_))
    refine r_top (y := nI (nS T)) (by rw [hI.lswapped]) ?_
    refine lv_icmp_lt (tgt := 25) hx hb dX4_swapAt_12 (by decide) (fun q12 => ?_) (fun q12 => ?_)
    · -- T
      obtain ⟨q, hq, rfl, hix⟩ := ixO_some (by omega) q1 (fun z => Int32.not_le.mpr q12 z)
      have hsw := tell_sw (b := b) hI hq hix
      refine lv_aload_n hx hb dX4_swapAt_25 rfl (lv_at hl 0 rfl) ?_
      refine gf_X4_25 hx hb hown hK hS hI.reg rfl dX4_swapAt_26 ?_
      refine lv_iload_n hx hb dX4_swapAt_29 rfl (lv_at hl 1 rfl) ?_
      refine cl_X4_132 hx hb hml hown hK hZ hS hA (l_get (hI.swapped) (hI.swapAt hq)) ((hI.swapped).1) rfl hl.1 (Nat.le_of_ble_eq_true rfl) ⟨Nat.le_of_ble_eq_true rfl, Nat.le_of_ble_eq_true rfl⟩ ⟨Nat.zero_le _, Nat.zero_le _⟩ rfl dX4_swapAt_30 (r_kp (fun H locs hS => ?_))
      refine ck_X4_28 hx hb hown hK hS (hI.ring (Nat.le_of_lt hq)) dX4_swapAt_33 ?_
      refine lv_iload_n hx hb dX4_swapAt_36 rfl (lv_at hl 2 rfl) ?_
      refine cl_X4_203 hx hb hml hown hK hZ hS hA (c_X3_tell hlt hI (Nat.le_of_lt hq) b) (hI.ring (Nat.le_of_lt hq)) rfl hl.1 (Nat.le_of_ble_eq_true rfl) ⟨Nat.le_of_ble_eq_true rfl, Nat.le_of_ble_eq_true rfl⟩ ⟨Nat.le_of_ble_eq_true rfl, Nat.le_of_ble_eq_true rfl⟩ rfl dX4_swapAt_37 ?_ (r_kr (fun r C' ad' H locs hQ hS => ?_))
      · -- thrown
        intro E ce q9 C9 ad9 H locs hX9 hS hce hcv hcl
        obtain ⟨⟨rfl, hno⟩, rfl, rfl⟩ := hX9
        exact r_out hex hlocks hS hce hcv hcl ⟨⟨by rw [hsw.2 hno]; exact Nat.one_ne_zero, rfl⟩, rfl, rfl⟩ (Nat.le_of_ble_eq_true rfl) (Nat.le_of_ble_eq_true rfl)
      obtain ⟨⟨n, hn, rfl⟩, rfl, rfl⟩ := hQ
      refine vx_ret ?_
      exact r_iret hx hb hr hlocks hS (⟨_, rfl, ⟨by rw [hsw.1 n hn], by rw [hsw.1 n hn]⟩, rfl, rfl⟩) (Nat.le_of_ble_eq_true rfl) (Nat.le_of_ble_eq_true rfl) dX4_swapAt_40
    · -- F
      exact th_X4_38_211 hx hb hlt hown hK hZ hS (by rw [hml]; exact hl.1) dX4_swapAt_15 dX4_swapAt_18 dX4_swapAt_19 dX4_swapAt_21 dX4_swapAt_24 hex (Nat.le_of_ble_eq_true rfl) (Nat.le_of_ble_eq_true rfl) (Nat.le_of_ble_eq_true rfl) (Nat.le_of_ble_eq_true rfl) hlocks (⟨⟨by rw [swapQ_n (ixO_big (by omega) (Int32.not_lt.mp q12))]; exact Nat.one_ne_zero, rfl⟩, rfl, rfl⟩) (Nat.le_of_ble_eq_true rfl) (Nat.le_of_ble_eq_true rfl)

set_option maxHeartbeats 4000000 in
set_option maxRecDepth 100000 in
theorem c_X4_spoiled {G : rG} {l : Launch} {T : rTab} {L : rL} {C : rC} {ad : rA} (hI : cInv G T L C ad) : rMet G l yX4_spoiled cX4_spoiled 3 (some .int) (rmP 6) [.ref (ad 0 0)] C ad (rPure C ad (.int (nI (cntB (falsS T) (nS T))))) := by
  refine rMet.of (by decide) ?_
  intro p e s m below meth c hx hb hml hr hlocks hown hname hK hZ hS
  have hown : s.vm.findClass RX4 = some m.cls := hown
  have hA : ∀ q : Nat, s.heap.size ≤ q → (rF C ad s.heap.size) q := rF.new
  refine r_entry _ (Nat.le_of_ble_eq_true rfl) (fun ls hl => ?_)
  have hl : lv_has ls 3 [(0, .ref (ad 0 0))] := hl
  have hSn := hI.hS
  refine lv_iconst (v := nI 0) hx hb dX4_spoiled_0 (by decide) ?_
  refine lv_istore_n (lv' := [(1, .int (nI 0)), (0, .ref (ad 0 0))]) hx hb dX4_spoiled_1 rfl hl (by decide) rfl (fun ls hl => ?_)
  refine lv_iconst (v := nI 0) hx hb dX4_spoiled_2 (by decide) ?_
  refine lv_istore_n (lv' := [(2, .int (nI 0)), (1, .int (nI 0)), (0, .ref (ad 0 0))]) hx hb dX4_spoiled_3 rfl hl (by decide) rfl (fun ls hl => ?_)
  refine r_loop (σ := Nat) (fun i => nS T - i) (fun i H locs ls => (i ≤ nS T) ∧ rS G.1 (rF C ad s.heap.size) s.heap C ad H locs ∧ lv_has ls 3 [(2, .int (nI i)), (1, .int (nI (cntB (falsS T) i))), (0, .ref (ad 0 0))]) (fun _ => 0) (fun _ => 0) (fun z ih H locs ls hI => ?_) 0 (Nat.zero_le _) (Nat.zero_le _) ⟨Nat.zero_le _, hS, lv_sub hl [0, 1, 2] rfl⟩
  obtain ⟨i, rfl⟩ : ∃ y, y = z := ⟨_, rfl⟩
  obtain ⟨hil, hS, hl⟩ := hI
  try dsimp only at hil hS hl ih ⊢
  refine lv_iload_n hx hb dX4_spoiled_4 rfl (lv_at hl 0 rfl) ?_
  refine lv_aload_n hx hb dX4_spoiled_5 rfl (lv_at hl 2 rfl) ?_
  refine gf_X4_25 hx hb hown hK hS hI.reg rfl dX4_spoiled_6 ?_
  refine cl_X4_81 hx hb hml hown hK hZ hS hA (l_size (hI.swapped)) ((hI.swapped).1) rfl hl.1 (Nat.le_of_ble_eq_true rfl) ⟨Nat.le_of_ble_eq_true rfl, Nat.le_of_ble_eq_true rfl⟩ ⟨Nat.zero_le _, Nat.zero_le _⟩ rfl dX4_spoiled_9 (r_kp (fun H locs hS => ?_))
  refine r_top (y := nI (nS T)) (by rw [hI.lswapped]) ?_
  refine r_icmp_ge (a := i) (b := nS T) (tgt := 41) hx hb (by omega) (by omega) dX4_spoiled_12 (by decide) (fun q12 => ?_) (fun q12 => ?_)
  · -- T
    have hie : nS T = i := by omega
    refine lv_iload_n hx hb dX4_spoiled_41 rfl (lv_at hl 1 rfl) ?_
    exact r_iret hx hb hr hlocks hS (⟨by rw [hie], rfl, rfl⟩) (Nat.zero_le _) (Nat.zero_le _) dX4_spoiled_42
  · -- F
    have hi := q12
    refine lv_aload_n hx hb dX4_spoiled_15 rfl (lv_at hl 2 rfl) ?_
    refine gf_X4_25 hx hb hown hK hS hI.reg rfl dX4_spoiled_16 ?_
    refine lv_iload_n hx hb dX4_spoiled_19 rfl (lv_at hl 0 rfl) ?_
    refine cl_X4_132 hx hb hml hown hK hZ hS hA (l_get (hI.swapped) (hI.swapAt hi)) ((hI.swapped).1) rfl hl.1 (Nat.le_of_ble_eq_true rfl) ⟨Nat.le_of_ble_eq_true rfl, Nat.le_of_ble_eq_true rfl⟩ ⟨Nat.zero_le _, Nat.zero_le _⟩ rfl dX4_spoiled_20 (r_kp (fun H locs hS => ?_))
    refine ck_X4_28 hx hb hown hK hS (hI.ring (Nat.le_of_lt hi)) dX4_spoiled_23 ?_
    refine cl_X4_213 hx hb hml hown hK hZ hS hA (c_X3_hasFalseGift hI (Nat.le_of_lt hi)) (hI.ring (Nat.le_of_lt hi)) rfl hl.1 (Nat.le_of_ble_eq_true rfl) ⟨Nat.le_of_ble_eq_true rfl, Nat.le_of_ble_eq_true rfl⟩ ⟨Nat.zero_le _, Nat.zero_le _⟩ rfl dX4_spoiled_26 (r_kp (fun H locs hS => ?_))
    refine r_ifb_eq (b := (falsB T (L.1 17 i))) (tgt := 35) hx hb dX4_spoiled_29 (by decide) (fun q29 => ?_) (fun q29 => ?_)
    · -- T
      rw [show nI (cntB (falsS T) i) = nI (cntB (falsS T) (i + 1)) by rw [cntB_f (by rw [← fals_sw hI hi]; exact q29)]] at hl
      refine lv_iinc (v := nI (i + 1)) (lv' := [(2, .int (nI (i + 1))), (1, .int (nI (cntB (falsS T) (i + 1)))), (0, .ref (ad 0 0))]) hx hb dX4_spoiled_35 hl (k := 0) rfl (nI_inc _) (by decide) rfl (fun ls hl => ?_)
      refine lv_goto (tgt := 4) hx hb dX4_spoiled_38 (by decide) ?_
      exact ih (i + 1) (by omega) _ _ _ ⟨(show i + 1 ≤ nS T by omega), hS, lv_sub hl [0, 1, 2] rfl⟩
    · -- F
      refine lv_iinc (v := nI (cntB (falsS T) (i + 1))) (lv' := [(1, .int (nI (cntB (falsS T) (i + 1)))), (2, .int (nI i)), (0, .ref (ad 0 0))]) hx hb dX4_spoiled_32 hl (k := 1) rfl (by rw [nI_inc, cntB_t (by rw [← fals_sw hI hi]; exact q29)]) (by decide) rfl (fun ls hl => ?_)
      refine lv_iinc (v := nI (i + 1)) (lv' := [(2, .int (nI (i + 1))), (1, .int (nI (cntB (falsS T) (i + 1)))), (0, .ref (ad 0 0))]) hx hb dX4_spoiled_35 hl (k := 1) rfl (nI_inc _) (by decide) rfl (fun ls hl => ?_)
      refine lv_goto (tgt := 4) hx hb dX4_spoiled_38 (by decide) ?_
      exact ih (i + 1) (by omega) _ _ _ ⟨(show i + 1 ≤ nS T by omega), hS, lv_sub hl [0, 1, 2] rfl⟩
