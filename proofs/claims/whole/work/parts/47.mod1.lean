/-! the model: what its calls share (printed by wip/whole/gen/mod1.py) -/
theorem inB_1 {a b c : Int32} (h : a < b) : inB a b c = false := by
  unfold inB
  rw [decide_eq_false (fun z => Int32.not_lt.mpr z h), Bool.false_and]
theorem inB_2 {a b c : Int32} (h : c < a) : inB a b c = false := by
  unfold inB
  rw [decide_eq_false (p := a ≤ c) (fun z => Int32.not_lt.mpr z h), Bool.and_false]
theorem inB_3 {a b c : Int32} (h1 : ¬ a < b) (h2 : ¬ c < a) : inB a b c = true := by
  unfold inB
  rw [decide_eq_true (Int32.not_lt.mp h1), decide_eq_true (Int32.not_lt.mp h2)]
  rfl
theorem fo_bd {T : rTab} (h : nC T ≤ 150) {d st : Nat} : ∀ i, firstOf T d st = some i → i < 2 ^ 31 := fun i hi => by
  have := (fstB_some.mp hi).1
  omega
theorem offer_lt {T : rTab} {k d i : Nat} (h : offer T k d = some i) : i < nC T ∧ offAt T k d i = true := by
  unfold offer at h
  cases hq : fstB (offAt T k d) (nC T) with
  | none =>
    rw [hq] at h
    cases h
  | some j =>
    rw [hq] at h
    have h : (if 1 < cntB (offAt T k d) (nC T) ∨ T 9 j = 1 then some j else none) = some i := h
    have := fstB_some.mp hq
    split at h
    · cases h
      exact ⟨this.1, this.2.1⟩
    · cases h
theorem of_bd {T : rTab} (h : nC T ≤ 150) {k d : Nat} : ∀ i, offer T k d = some i → i < 2 ^ 31 := fun i hi => by
  have := (offer_lt hi).1
  omega
theorem pr_bd {T : rTab} (h : nD T ≤ 16) {d : Nat} : ∀ i, proofO T d = some i → i < 2 ^ 31 := fun i hi => by
  unfold proofO at hi
  cases hq : firstCoin T d with
  | none =>
    rw [hq] at hi
    cases hi
  | some f =>
    rw [hq] at hi
    have hi : (if bitsN (T 6 f) < 2 then none else fstB (provesBy T d f) (nD T)) = some i := hi
    split at hi
    · cases hi
    · have := (fstB_some.mp hi).1
      omega
theorem oI_s {i : Nat} : oI (some i) = nI i := rfl
theorem nI_dec (i : Nat) : nI i + Int32.ofInt (-1) = nI i - nI 1 := by
  rw [Int32.sub_eq_add_neg]
  rfl
theorem isF_t {T : rTab} {d st j : Nat} (h5 : T 5 j = d) (h6 : T 6 j = st) : isFirst T d st j = true := by
  unfold isFirst
  rw [decide_eq_true h5, decide_eq_true h6]
  rfl
theorem isF_a {T : rTab} {d st j : Nat} (h5 : ¬ T 5 j = d) : isFirst T d st j = false := by
  unfold isFirst
  rw [decide_eq_false h5, Bool.false_and]
theorem isF_b {T : rTab} {d st j : Nat} (h6 : ¬ T 6 j = st) : isFirst T d st j = false := by
  unfold isFirst
  rw [decide_eq_false h6, Bool.and_false]
theorem lt_ext {P : Nat → Prop} {i : Nat} (h : ∀ j, j < i → P j) (hi : P i) : ∀ j, j < i + 1 → P j := fun j hj => by
  by_cases e : j = i
  · rw [e]
    exact hi
  · exact h j (by omega)
theorem rarA_a {T : rTab} {d j : Nat} (h : ¬ T 5 j = d) : rarAt T d j = false := by
  unfold rarAt
  rw [decide_eq_false h, Bool.false_and]
theorem rarA_b {T : rTab} {d j : Nat} (h : tru T j = false) : rarAt T d j = false := by
  unfold rarAt
  rw [h, Bool.and_false]
theorem rarA_t {T : rTab} {d j : Nat} (h5 : T 5 j = d) (h : tru T j = true) : rarAt T d j = true := by
  unfold rarAt
  rw [decide_eq_true h5, h]
  rfl
theorem priceN_t {T : rTab} {j : Nat} (h : tru T j = true) : priceN T j = priceBy T (T 5 j) := if_pos h
theorem priceN_f {T : rTab} {j : Nat} (h : tru T j = false) : priceN T j = 0 := if_neg (by rw [h]; exact Bool.false_ne_true)
theorem offA_a {T : rTab} {k d j : Nat} (h : ¬ T 5 j = d) : offAt T k d j = false := by
  unfold offAt
  rw [decide_eq_false h, Bool.false_and]
theorem offA_b {T : rTab} {k d j : Nat} (h : ¬ T 8 j = k + 1) : offAt T k d j = false := by
  unfold offAt
  rw [decide_eq_false h, Bool.false_and, Bool.and_false]
theorem offA_c {T : rTab} {k d j : Nat} (h : tru T j = false) : offAt T k d j = false := by
  unfold offAt
  rw [h, Bool.and_false, Bool.and_false]
theorem offA_t {T : rTab} {k d j : Nat} (h5 : T 5 j = d) (h8 : T 8 j = k + 1) (h : tru T j = true) : offAt T k d j = true := by
  unfold offAt
  rw [decide_eq_true h5, decide_eq_true h8, h]
  rfl
/-- what is found from above: o the lowest hit at m or higher, c how many -/
def lowD (p : Nat → Bool) (n m c : Nat) (o : Option Nat) : Prop := c + cntB p m = cntB p n ∧ (∀ x, o = some x → m ≤ x ∧ x < n ∧ p x = true ∧ ∀ j, m ≤ j → j < x → p j = false) ∧ (o = none → ∀ j, m ≤ j → j < n → p j = false)
theorem lowD_0 {p : Nat → Bool} {n : Nat} : lowD p n n 0 none := ⟨Nat.zero_add _, fun x h => (nomatch h), fun _ j h1 h2 => by omega⟩
theorem lowD_f {p : Nat → Bool} {n i c : Nat} {o : Option Nat} (h : lowD p n (i + 1) c o) (hp : p i = false) : lowD p n i c o := by
  obtain ⟨h1, h2, h3⟩ := h
  rw [cntB_f hp] at h1
  refine ⟨h1, fun x hx => ?_, fun ho j g1 g2 => ?_⟩
  · have := h2 x hx
    refine ⟨by omega, this.2.1, this.2.2.1, fun j g1 g2 => ?_⟩
    by_cases e : j = i
    · rw [e]; exact hp
    · exact this.2.2.2 j (by omega) g2
  · by_cases e : j = i
    · rw [e]; exact hp
    · exact h3 ho j (by omega) g2
theorem lowD_t {p : Nat → Bool} {n i c : Nat} {o : Option Nat} (h : lowD p n (i + 1) c o) (hi : i < n) (hp : p i = true) : lowD p n i (c + 1) (some i) := by
  obtain ⟨h1, h2, h3⟩ := h
  rw [cntB_t hp] at h1
  refine ⟨by omega, fun x hx => ?_, fun ho => (nomatch ho)⟩
  cases hx
  exact ⟨Nat.le_refl _, hi, hp, fun j g1 g2 => by omega⟩
theorem lowD_e {p : Nat → Bool} {n c : Nat} {o : Option Nat} (h : lowD p n 0 c o) : c = cntB p n ∧ o = fstB p n := by
  obtain ⟨h1, h2, h3⟩ := h
  refine ⟨h1, ?_⟩
  cases o with
  | none => exact (fstB_none.mpr fun j hj => h3 rfl j (Nat.zero_le _) hj).symm
  | some x =>
    have := h2 x rfl
    exact (fstB_some.mpr ⟨this.2.1, this.2.2.1, fun j hj => this.2.2.2 j (Nat.zero_le _) hj⟩).symm
theorem ofr_n {T : rTab} {k d : Nat} (h : fstB (offAt T k d) (nC T) = none) : offer T k d = none := by
  unfold offer
  rw [h]
theorem ofr_s {T : rTab} {k d x : Nat} (h : fstB (offAt T k d) (nC T) = some x) : offer T k d = if 1 < cntB (offAt T k d) (nC T) ∨ T 9 x = 1 then some x else none := by
  unfold offer
  rw [h]
theorem m1_lt {m : Nat} (h : m ≤ 150) : nI m - nI 1 < 0 ↔ m = 0 := by
  rw [Int32.lt_iff_toInt_lt, pk_sub_toInt (by omega) (by omega)]
  show _ < (0 : Int) ↔ _
  omega
theorem ruc {α : Type} {f g : Nat → Nat → α} {k i a b : Nat} {v : α} (h : f a b = g a b) : ru f k i v a b = ru g k i v a b := by
  unfold ru
  split
  · rfl
  · exact h
theorem gets_eq {T : rTab} {k j v : Nat} : mEq (ru (ru (ru T 8 j (k + 1)) 9 j 0) 10 k v) (ru (ru (ru (ru T 8 j (k + 1)) 9 j 0) 21 j 0) 10 k v) := fun a b _ h21 => ruc (ru_k h21)

set_option maxHeartbeats 4000000 in
set_option maxRecDepth 100000 in
theorem c_X5_thrown {G : rG} {l : Launch} {T : rTab} {th : Int32} {rg : Nat → Int32} {C : rC} {ad : rA}  : rMet G l yX5_thrown cX5_thrown 1 (some .int) (rmP 1) [.ref (ad 30 0)] (mC G T th rg C ad) ad (rPure (mC G T th rg C ad) ad (.int th)) := by
  refine rMet.of (by decide) ?_
  intro p e s m below meth c hx hb hml hr hlocks hown hname hK hZ hS
  have hown : s.vm.findClass RX5 = some m.cls := hown
  have hA : ∀ q : Nat, s.heap.size ≤ q → (rF (mC G T th rg C ad) ad s.heap.size) q := rF.new
  refine r_entry _ (Nat.le_of_ble_eq_true rfl) (fun ls hl => ?_)
  have hl : lv_has ls 1 [(0, .ref (ad 30 0))] := hl
  refine lv_aload_n hx hb dX5_thrown_0 rfl (lv_at hl 0 rfl) ?_
  refine gf_X5_52 hx hb hown hK hS mC_30 rfl dX5_thrown_1 ?_
  exact r_iret hx hb hr hlocks hS (⟨rfl, rfl, rfl⟩) (Nat.zero_le _) (Nat.zero_le _) dX5_thrown_4

set_option maxHeartbeats 4000000 in
set_option maxRecDepth 100000 in
theorem c_X5_in {G : rG} {l : Launch} {C : rC} {ad : rA} (x y z : Int32) : rMet G l yX5_in cX5_in 3 (some .boolean) (rmP 1) [.int x, .int y, .int z] C ad (rPure C ad (.int (bI (inB x y z)))) := by
  refine rMet.of (by decide) ?_
  intro p e s m below meth c hx hb hml hr hlocks hown hname hK hZ hS
  have hown : s.vm.findClass RX5 = some m.cls := hown
  have hA : ∀ q : Nat, s.heap.size ≤ q → (rF C ad s.heap.size) q := rF.new
  refine r_entry _ (Nat.le_of_ble_eq_true rfl) (fun ls hl => ?_)
  have hl : lv_has ls 3 [(0, .int x), (1, .int y), (2, .int z)] := hl
  refine lv_iload_n hx hb dX5_in_0 rfl (lv_at hl 0 rfl) ?_
  refine lv_iload_n hx hb dX5_in_1 rfl (lv_at hl 1 rfl) ?_
  refine lv_icmp_lt (tgt := 14) hx hb dX5_in_2 (by decide) (fun q2 => ?_) (fun q2 => ?_)
  · -- T
    refine lv_iconst (v := nI 0) hx hb dX5_in_14 (by decide) ?_
    exact r_zret hx hb hr hlocks hS rfl (⟨by rw [inB_1 q2]; rfl, rfl, rfl⟩) (Nat.zero_le _) (Nat.zero_le _) dX5_in_15
  · -- F
    refine lv_iload_n hx hb dX5_in_5 rfl (lv_at hl 0 rfl) ?_
    refine lv_iload_n hx hb dX5_in_6 rfl (lv_at hl 2 rfl) ?_
    refine lv_icmp_gt (tgt := 14) hx hb dX5_in_7 (by decide) (fun q7 => ?_) (fun q7 => ?_)
    · -- T
      refine lv_iconst (v := nI 0) hx hb dX5_in_14 (by decide) ?_
      exact r_zret hx hb hr hlocks hS rfl (⟨by rw [inB_2 q7]; rfl, rfl, rfl⟩) (Nat.zero_le _) (Nat.zero_le _) dX5_in_15
    · -- F
      refine lv_iconst (v := nI 1) hx hb dX5_in_10 (by decide) ?_
      refine lv_goto (tgt := 15) hx hb dX5_in_11 (by decide) ?_
      exact r_zret hx hb hr hlocks hS rfl (⟨by rw [inB_3 q2 q7]; rfl, rfl, rfl⟩) (Nat.zero_le _) (Nat.zero_le _) dX5_in_15

set_option maxHeartbeats 4000000 in
set_option maxRecDepth 100000 in
theorem c_X5_isDie {G : rG} {l : Launch} {T : rTab} {th : Int32} {rg : Nat → Int32} {C : rC} {ad : rA} (hN : mNu T) (a : Int32) : rMet G l yX5_isDie cX5_isDie 2 (some .boolean) (rmP 2) [.ref (ad 30 0), .int a] (mC G T th rg C ad) ad (rPure (mC G T th rg C ad) ad (.int (bI (ixO a (nD T)).isSome))) := by
  refine rMet.of (by decide) ?_
  intro p e s m below meth c hx hb hml hr hlocks hown hname hK hZ hS
  have hown : s.vm.findClass RX5 = some m.cls := hown
  have hA : ∀ q : Nat, s.heap.size ≤ q → (rF (mC G T th rg C ad) ad s.heap.size) q := rF.new
  refine r_entry _ (Nat.le_of_ble_eq_true rfl) (fun ls hl => ?_)
  have hl : lv_has ls 2 [(0, .ref (ad 30 0)), (1, .int a)] := hl
  have hnD := hN.hD
  have hnC := hN.hC
  have hnS := hN.hS
  refine lv_iload_n hx hb dX5_isDie_0 rfl (lv_at hl 1 rfl) ?_
  refine lv_iconst (v := nI 0) hx hb dX5_isDie_1 (by decide) ?_
  refine lv_aload_n hx hb dX5_isDie_2 rfl (lv_at hl 0 rfl) ?_
  refine gf_X5_56 hx hb hown hK hS mC_30 (v := .int (nI (nD T))) rfl dX5_isDie_3 ?_
  refine lv_iconst (v := nI 1) hx hb dX5_isDie_6 (by decide) ?_
  refine lv_isub hx hb dX5_isDie_7 ?_
  refine cl_X5_59 hx hb hml hown hK hZ hS hA (c_X5_in a (nI 0) (nI (nD T) - nI 1)) rfl hl.1 (Nat.le_of_ble_eq_true rfl) ⟨Nat.le_of_ble_eq_true rfl, Nat.le_of_ble_eq_true rfl⟩ ⟨Nat.zero_le _, Nat.zero_le _⟩ rfl dX5_isDie_8 (r_kp (fun H locs hS => ?_))
  refine r_top (y := bI (ixO a (nD T)).isSome) (by rw [in_ix (by omega)]) ?_
  exact r_zret hx hb hr hlocks hS (bI_z _) (⟨rfl, rfl, rfl⟩) (Nat.zero_le _) (Nat.zero_le _) dX5_isDie_11

set_option maxHeartbeats 4000000 in
set_option maxRecDepth 100000 in
theorem c_X5_isCoin {G : rG} {l : Launch} {T : rTab} {th : Int32} {rg : Nat → Int32} {C : rC} {ad : rA} (hN : mNu T) (a : Int32) : rMet G l yX5_isCoin cX5_isCoin 2 (some .boolean) (rmP 2) [.ref (ad 30 0), .int a] (mC G T th rg C ad) ad (rPure (mC G T th rg C ad) ad (.int (bI (ixO a (nC T)).isSome))) := by
  refine rMet.of (by decide) ?_
  intro p e s m below meth c hx hb hml hr hlocks hown hname hK hZ hS
  have hown : s.vm.findClass RX5 = some m.cls := hown
  have hA : ∀ q : Nat, s.heap.size ≤ q → (rF (mC G T th rg C ad) ad s.heap.size) q := rF.new
  refine r_entry _ (Nat.le_of_ble_eq_true rfl) (fun ls hl => ?_)
  have hl : lv_has ls 2 [(0, .ref (ad 30 0)), (1, .int a)] := hl
  have hnD := hN.hD
  have hnC := hN.hC
  have hnS := hN.hS
  refine lv_iload_n hx hb dX5_isCoin_0 rfl (lv_at hl 1 rfl) ?_
  refine lv_iconst (v := nI 0) hx hb dX5_isCoin_1 (by decide) ?_
  refine lv_aload_n hx hb dX5_isCoin_2 rfl (lv_at hl 0 rfl) ?_
  refine gf_X5_63 hx hb hown hK hS mC_30 (v := .int (nI (nC T))) rfl dX5_isCoin_3 ?_
  refine lv_iconst (v := nI 1) hx hb dX5_isCoin_6 (by decide) ?_
  refine lv_isub hx hb dX5_isCoin_7 ?_
  refine cl_X5_59 hx hb hml hown hK hZ hS hA (c_X5_in a (nI 0) (nI (nC T) - nI 1)) rfl hl.1 (Nat.le_of_ble_eq_true rfl) ⟨Nat.le_of_ble_eq_true rfl, Nat.le_of_ble_eq_true rfl⟩ ⟨Nat.zero_le _, Nat.zero_le _⟩ rfl dX5_isCoin_8 (r_kp (fun H locs hS => ?_))
  refine r_top (y := bI (ixO a (nC T)).isSome) (by rw [in_ix (by omega)]) ?_
  exact r_zret hx hb hr hlocks hS (bI_z _) (⟨rfl, rfl, rfl⟩) (Nat.zero_le _) (Nat.zero_le _) dX5_isCoin_11

set_option maxHeartbeats 4000000 in
set_option maxRecDepth 100000 in
theorem c_X5_isCollector {G : rG} {l : Launch} {C : rC} {ad : rA} (a : Int32) : rMet G l yX5_isCollector cX5_isCollector 1 (some .boolean) (rmP 2) [.int a] C ad (rPure C ad (.int (bI (ixO a 8).isSome))) := by
  refine rMet.of (by decide) ?_
  intro p e s m below meth c hx hb hml hr hlocks hown hname hK hZ hS
  have hown : s.vm.findClass RX5 = some m.cls := hown
  have hA : ∀ q : Nat, s.heap.size ≤ q → (rF C ad s.heap.size) q := rF.new
  refine r_entry _ (Nat.le_of_ble_eq_true rfl) (fun ls hl => ?_)
  have hl : lv_has ls 1 [(0, .int a)] := hl
  refine lv_iload_n hx hb dX5_isCollector_0 rfl (lv_at hl 0 rfl) ?_
  refine lv_iconst (v := nI 0) hx hb dX5_isCollector_1 (by decide) ?_
  refine lv_bipush (v := nI 7) hx hb dX5_isCollector_2 (by decide) ?_
  refine cl_X5_59 hx hb hml hown hK hZ hS hA (c_X5_in a (nI 0) (nI 7)) rfl hl.1 (Nat.le_of_ble_eq_true rfl) ⟨Nat.le_of_ble_eq_true rfl, Nat.le_of_ble_eq_true rfl⟩ ⟨Nat.zero_le _, Nat.zero_le _⟩ rfl dX5_isCollector_4 (r_kp (fun H locs hS => ?_))
  refine r_top (y := bI (ixO a 8).isSome) (by rw [in_ixk (by omega)]) ?_
  exact r_zret hx hb hr hlocks hS (bI_z _) (⟨rfl, rfl, rfl⟩) (Nat.zero_le _) (Nat.zero_le _) dX5_isCollector_7

set_option maxHeartbeats 4000000 in
set_option maxRecDepth 100000 in
theorem c_X5_count {G : rG} {l : Launch} {C : rC} {ad : rA} {w : Nat} (hw : w < 65536) : rMet G l yX5_count cX5_count 3 (some .int) (rmP 1) [.int (nI w)] C ad (rPure C ad (.int (nI (bitsN w)))) := by
  refine rMet.of (by decide) ?_
  intro p e s m below meth c hx hb hml hr hlocks hown hname hK hZ hS
  have hown : s.vm.findClass RX5 = some m.cls := hown
  have hA : ∀ q : Nat, s.heap.size ≤ q → (rF C ad s.heap.size) q := rF.new
  refine r_entry _ (Nat.le_of_ble_eq_true rfl) (fun ls hl => ?_)
  have hl : lv_has ls 3 [(0, .int (nI w))] := hl
  refine lv_iconst (v := nI 0) hx hb dX5_count_0 (by decide) ?_
  refine lv_istore_n (lv' := [(1, .int (nI 0)), (0, .int (nI w))]) hx hb dX5_count_1 rfl hl (by decide) rfl (fun ls hl => ?_)
  refine lv_iconst (v := nI 0) hx hb dX5_count_2 (by decide) ?_
  refine lv_istore_n (lv' := [(2, .int (nI 0)), (1, .int (nI 0)), (0, .int (nI w))]) hx hb dX5_count_3 rfl hl (by decide) rfl (fun ls hl => ?_)
  refine r_loop (σ := Nat) (fun k => 16 - k) (fun k H locs ls => (k ≤ 16) ∧ rS G.1 (rF C ad s.heap.size) s.heap C ad H locs ∧ lv_has ls 3 [(2, .int (nI k)), (1, .int (nI (cntB (fun x => w.testBit x) k))), (0, .int (nI w))]) (fun _ => 0) (fun _ => 0) (fun z ih H locs ls hI => ?_) 0 (Nat.zero_le _) (Nat.zero_le _) ⟨Nat.zero_le _, hS, lv_sub hl [0, 1, 2] rfl⟩
  obtain ⟨k, rfl⟩ : ∃ y, y = z := ⟨_, rfl⟩
  obtain ⟨hkl, hS, hl⟩ := hI
  try dsimp only at hkl hS hl ih ⊢
  refine lv_iload_n hx hb dX5_count_4 rfl (lv_at hl 0 rfl) ?_
  refine lv_bipush (v := nI 16) hx hb dX5_count_5 (by decide) ?_
  refine r_icmp_ge (a := k) (b := 16) (tgt := 24) hx hb (by omega) (by omega) dX5_count_7 (by decide) (fun q7 => ?_) (fun q7 => ?_)
  · -- T
    obtain rfl : k = 16 := by omega
    refine lv_iload_n hx hb dX5_count_24 rfl (lv_at hl 1 rfl) ?_
    exact r_iret hx hb hr hlocks hS (⟨rfl, rfl, rfl⟩) (Nat.zero_le _) (Nat.zero_le _) dX5_count_25
  · -- F
    have hk16 : k < 16 := by omega
    refine lv_iload_n hx hb dX5_count_10 rfl (lv_at hl 1 rfl) ?_
    refine lv_iload_n hx hb dX5_count_11 rfl (lv_at hl 2 rfl) ?_
    refine lv_iload_n hx hb dX5_count_12 rfl (lv_at hl 0 rfl) ?_
    refine lv_ishr hx hb dX5_count_13 ?_
    refine r_top (y := nI (w / 2 ^ k)) (shr_i (by omega) (by omega)) ?_
    refine lv_iconst (v := nI 1) hx hb dX5_count_14 (by decide) ?_
    refine lv_iand hx hb dX5_count_15 ?_
    refine r_top (y := nI (if w.testBit k = true then 1 else 0)) ((nx_and _ _).trans (by rw [shr_and])) ?_
    refine lv_iadd hx hb dX5_count_16 ?_
    refine r_top (nI_add _ _) ?_
    refine lv_istore_n (lv' := [(1, .int (nI (cntB (fun x => w.testBit x) k + if w.testBit k = true then 1 else 0))), (2, .int (nI k)), (0, .int (nI w))]) hx hb dX5_count_17 rfl hl (by decide) rfl (fun ls hl => ?_)
    refine lv_iinc (v := nI (k + 1)) (lv' := [(2, .int (nI (k + 1))), (1, .int (nI (cntB (fun x => w.testBit x) k + if w.testBit k = true then 1 else 0))), (0, .int (nI w))]) hx hb dX5_count_18 hl (k := 1) rfl (nI_inc _) (by decide) rfl (fun ls hl => ?_)
    refine lv_goto (tgt := 4) hx hb dX5_count_21 (by decide) ?_
    exact ih (k + 1) (show 16 - (k + 1) < 16 - k by omega) _ _ _ ⟨(show k + 1 ≤ 16 by omega), hS, lv_sub hl [0, 1, 2] rfl⟩

set_option maxHeartbeats 4000000 in
set_option maxRecDepth 100000 in
theorem c_X5_firstOf {G : rG} {l : Launch} {T : rTab} {th : Int32} {rg : Nat → Int32} {C : rC} {ad : rA} (hN : mNu T) {d st : Nat} (hd : d < 2 ^ 31) (hst : st < 2 ^ 31) : rMet G l yX5_firstOf cX5_firstOf 4 (some .int) (rmP 1) [.ref (ad 30 0), .int (nI d), .int (nI st)] (mC G T th rg C ad) ad (rPure (mC G T th rg C ad) ad (.int (oI (firstOf T d st)))) := by
  refine rMet.of (by decide) ?_
  intro p e s m below meth c hx hb hml hr hlocks hown hname hK hZ hS
  have hown : s.vm.findClass RX5 = some m.cls := hown
  have hA : ∀ q : Nat, s.heap.size ≤ q → (rF (mC G T th rg C ad) ad s.heap.size) q := rF.new
  refine r_entry _ (Nat.le_of_ble_eq_true rfl) (fun ls hl => ?_)
  have hl : lv_has ls 4 [(0, .ref (ad 30 0)), (1, .int (nI d)), (2, .int (nI st))] := hl
  have hnD := hN.hD
  have hnC := hN.hC
  have hnS := hN.hS
  refine lv_iconst (v := nI 0) hx hb dX5_firstOf_0 (by decide) ?_
  refine lv_istore_n (lv' := [(3, .int (nI 0)), (0, .ref (ad 30 0)), (1, .int (nI d)), (2, .int (nI st))]) hx hb dX5_firstOf_1 rfl hl (by decide) rfl (fun ls hl => ?_)
  refine r_loop (σ := Nat) (fun i => nC T - i) (fun i H locs ls => (i ≤ nC T) ∧ (∀ j, j < i → isFirst T d st j = false) ∧ rS G.1 (rF (mC G T th rg C ad) ad s.heap.size) s.heap (mC G T th rg C ad) ad H locs ∧ lv_has ls 4 [(3, .int (nI i)), (0, .ref (ad 30 0)), (1, .int (nI d)), (2, .int (nI st))]) (fun _ => 0) (fun _ => 0) (fun z ih H locs ls hI => ?_) 0 (Nat.zero_le _) (Nat.zero_le _) ⟨Nat.zero_le _, (fun j hj => absurd hj (Nat.not_lt_zero _)), hS, lv_sub hl [0, 1, 2, 3] rfl⟩
  obtain ⟨i, rfl⟩ : ∃ y, y = z := ⟨_, rfl⟩
  obtain ⟨hil, hz, hS, hl⟩ := hI
  try dsimp only at hil hz hS hl ih ⊢
  refine lv_iload_n hx hb dX5_firstOf_2 rfl (lv_at hl 0 rfl) ?_
  refine lv_aload_n hx hb dX5_firstOf_3 rfl (lv_at hl 1 rfl) ?_
  refine gf_X5_63 hx hb hown hK hS mC_30 (v := .int (nI (nC T))) rfl dX5_firstOf_4 ?_
  refine r_icmp_ge (a := i) (b := nC T) (tgt := 38) hx hb (by omega) (by omega) dX5_firstOf_7 (by decide) (fun q7 => ?_) (fun q7 => ?_)
  · -- T
    have hfo : firstOf T d st = none := fstB_none.mpr (fun j hj => hz j (by omega))
    refine lv_iconst (v := (-1)) hx hb dX5_firstOf_38 (by decide) ?_
    exact r_iret hx hb hr hlocks hS (⟨by rw [hfo]; rfl, rfl, rfl⟩) (Nat.zero_le _) (Nat.zero_le _) dX5_firstOf_39
  · -- F
    have hi : i < nC T := by omega
    have hcn := hN.cn hi
    refine lv_aload_n hx hb dX5_firstOf_10 rfl (lv_at hl 1 rfl) ?_
    refine gf_X5_22 hx hb hown hK hS mC_30 rfl dX5_firstOf_11 ?_
    refine lv_iload_n hx hb dX5_firstOf_14 rfl (lv_at hl 0 rfl) ?_
    refine r_iald hx hb hK.1 hS 0 mC_35 rfl (nI_in0 (by omega) (by omega)) (v := nI (T 5 i)) (tA_at (by omega)) dX5_firstOf_15 ?_
    refine lv_iload_n hx hb dX5_firstOf_16 rfl (lv_at hl 2 rfl) ?_
    refine r_icmp_ne (a := T 5 i) (b := d) (tgt := 32) hx hb (by omega) (by omega) dX5_firstOf_17 (by decide) (fun q17 => ?_) (fun q17 => ?_)
    · -- T
      refine lv_iinc (v := nI (i + 1)) (lv' := [(3, .int (nI (i + 1))), (0, .ref (ad 30 0)), (1, .int (nI d)), (2, .int (nI st))]) hx hb dX5_firstOf_32 hl (k := 0) rfl (nI_inc _) (by decide) rfl (fun ls hl => ?_)
      refine lv_goto (tgt := 2) hx hb dX5_firstOf_35 (by decide) ?_
      exact ih (i + 1) (show nC T - (i + 1) < nC T - i by omega) _ _ _ ⟨(show i + 1 ≤ nC T by omega), (lt_ext hz (isF_a (by omega))), hS, lv_sub hl [0, 1, 2, 3] rfl⟩
    · -- F
      refine lv_aload_n hx hb dX5_firstOf_20 rfl (lv_at hl 1 rfl) ?_
      refine gf_X5_25 hx hb hown hK hS mC_30 rfl dX5_firstOf_21 ?_
      refine lv_iload_n hx hb dX5_firstOf_24 rfl (lv_at hl 0 rfl) ?_
      refine r_iald hx hb hK.1 hS 0 mC_36 rfl (nI_in0 (by omega) (by omega)) (v := nI (T 6 i)) (tA_at (by omega)) dX5_firstOf_25 ?_
      refine lv_iload_n hx hb dX5_firstOf_26 rfl (lv_at hl 3 rfl) ?_
      refine r_icmp_ne (a := T 6 i) (b := st) (tgt := 32) hx hb (by omega) (by omega) dX5_firstOf_27 (by decide) (fun q27 => ?_) (fun q27 => ?_)
      · -- T
        refine lv_iinc (v := nI (i + 1)) (lv' := [(3, .int (nI (i + 1))), (0, .ref (ad 30 0)), (1, .int (nI d)), (2, .int (nI st))]) hx hb dX5_firstOf_32 hl (k := 0) rfl (nI_inc _) (by decide) rfl (fun ls hl => ?_)
        refine lv_goto (tgt := 2) hx hb dX5_firstOf_35 (by decide) ?_
        exact ih (i + 1) (show nC T - (i + 1) < nC T - i by omega) _ _ _ ⟨(show i + 1 ≤ nC T by omega), (lt_ext hz (isF_b (by omega))), hS, lv_sub hl [0, 1, 2, 3] rfl⟩
      · -- F
        refine lv_iload_n hx hb dX5_firstOf_30 rfl (lv_at hl 0 rfl) ?_
        exact r_iret hx hb hr hlocks hS (⟨by rw [show firstOf T d st = some i from fstB_some.mpr ⟨hi, isF_t (by omega) (by omega), hz⟩]; rfl, rfl, rfl⟩) (Nat.zero_le _) (Nat.zero_le _) dX5_firstOf_31

set_option maxHeartbeats 4000000 in
set_option maxRecDepth 100000 in
theorem c_X5_isTrueNow {G : rG} {l : Launch} {T : rTab} {th : Int32} {rg : Nat → Int32} {C : rC} {ad : rA} (hN : mNu T) {j : Nat} (hj : j < nC T) : rMet G l yX5_isTrueNow cX5_isTrueNow 2 (some .boolean) (rmP 1) [.ref (ad 30 0), .int (nI j)] (mC G T th rg C ad) ad (rPure (mC G T th rg C ad) ad (.int (bI (tru T j)))) := by
  refine rMet.of (by decide) ?_
  intro p e s m below meth c hx hb hml hr hlocks hown hname hK hZ hS
  have hown : s.vm.findClass RX5 = some m.cls := hown
  have hA : ∀ q : Nat, s.heap.size ≤ q → (rF (mC G T th rg C ad) ad s.heap.size) q := rF.new
  refine r_entry _ (Nat.le_of_ble_eq_true rfl) (fun ls hl => ?_)
  have hl : lv_has ls 2 [(0, .ref (ad 30 0)), (1, .int (nI j))] := hl
  have hnD := hN.hD
  have hnC := hN.hC
  have hnS := hN.hS
  have hcn := hN.cn hj
  have hdn := hN.dn hcn.1
  refine lv_aload_n hx hb dX5_isTrueNow_0 rfl (lv_at hl 0 rfl) ?_
  refine gf_X5_28 hx hb hown hK hS mC_30 rfl dX5_isTrueNow_1 ?_
  refine lv_iload_n hx hb dX5_isTrueNow_4 rfl (lv_at hl 1 rfl) ?_
  refine r_iald hx hb hK.1 hS 0 mC_37 rfl (nI_in0 (by omega) (by omega)) (v := nI (T 7 j)) (tA_at (by omega)) dX5_isTrueNow_5 ?_
  refine r_if_ne (a := T 7 j) (tgt := 27) hx hb (by omega) dX5_isTrueNow_6 (by decide) (fun q6 => ?_) (fun q6 => ?_)
  · -- T
    refine lv_iconst (v := nI 0) hx hb dX5_isTrueNow_27 (by decide) ?_
    exact r_zret hx hb hr hlocks hS rfl (⟨by rw [tru_a q6]; rfl, rfl, rfl⟩) (Nat.zero_le _) (Nat.zero_le _) dX5_isTrueNow_28
  · -- F
    refine lv_aload_n hx hb dX5_isTrueNow_9 rfl (lv_at hl 0 rfl) ?_
    refine gf_X5_19 hx hb hown hK hS mC_30 rfl dX5_isTrueNow_10 ?_
    refine lv_aload_n hx hb dX5_isTrueNow_13 rfl (lv_at hl 0 rfl) ?_
    refine gf_X5_22 hx hb hown hK hS mC_30 rfl dX5_isTrueNow_14 ?_
    refine lv_iload_n hx hb dX5_isTrueNow_17 rfl (lv_at hl 1 rfl) ?_
    refine r_iald hx hb hK.1 hS 0 mC_35 rfl (nI_in0 (by omega) (by omega)) (v := nI (T 5 j)) (tA_at (by omega)) dX5_isTrueNow_18 ?_
    refine r_iald hx hb hK.1 hS 0 mC_34 rfl (nI_in0 (by omega) (by omega)) (v := nI (T 4 (T 5 j))) (tA_at (by omega)) dX5_isTrueNow_19 ?_
    refine r_if_ne (a := T 4 (T 5 j)) (tgt := 27) hx hb (by omega) dX5_isTrueNow_20 (by decide) (fun q20 => ?_) (fun q20 => ?_)
    · -- T
      refine lv_iconst (v := nI 0) hx hb dX5_isTrueNow_27 (by decide) ?_
      exact r_zret hx hb hr hlocks hS rfl (⟨by rw [tru_b q20]; rfl, rfl, rfl⟩) (Nat.zero_le _) (Nat.zero_le _) dX5_isTrueNow_28
    · -- F
      refine lv_iconst (v := nI 1) hx hb dX5_isTrueNow_23 (by decide) ?_
      refine lv_goto (tgt := 28) hx hb dX5_isTrueNow_24 (by decide) ?_
      exact r_zret hx hb hr hlocks hS rfl (⟨by rw [tru_1 q6 q20]; rfl, rfl, rfl⟩) (Nat.zero_le _) (Nat.zero_le _) dX5_isTrueNow_28

set_option maxHeartbeats 4000000 in
set_option maxRecDepth 100000 in
theorem c_X5_rarityOf {G : rG} {l : Launch} {T : rTab} {th : Int32} {rg : Nat → Int32} {C : rC} {ad : rA} (hN : mNu T) {d : Nat} (hd : d < nD T) : rMet G l yX5_rarityOf cX5_rarityOf 4 (some .int) (rmP 2) [.ref (ad 30 0), .int (nI d)] (mC G T th rg C ad) ad (rPure (mC G T th rg C ad) ad (.int (nI (rar T d)))) := by
  refine rMet.of (by decide) ?_
  intro p e s m below meth c hx hb hml hr hlocks hown hname hK hZ hS
  have hown : s.vm.findClass RX5 = some m.cls := hown
  have hA : ∀ q : Nat, s.heap.size ≤ q → (rF (mC G T th rg C ad) ad s.heap.size) q := rF.new
  refine r_entry _ (Nat.le_of_ble_eq_true rfl) (fun ls hl => ?_)
  have hl : lv_has ls 4 [(0, .ref (ad 30 0)), (1, .int (nI d))] := hl
  have hnD := hN.hD
  have hnC := hN.hC
  have hnS := hN.hS
  refine lv_iconst (v := nI 0) hx hb dX5_rarityOf_0 (by decide) ?_
  refine lv_istore_n (lv' := [(2, .int (nI 0)), (0, .ref (ad 30 0)), (1, .int (nI d))]) hx hb dX5_rarityOf_1 rfl hl (by decide) rfl (fun ls hl => ?_)
  refine lv_iconst (v := nI 0) hx hb dX5_rarityOf_2 (by decide) ?_
  refine lv_istore_n (lv' := [(3, .int (nI 0)), (2, .int (nI 0)), (0, .ref (ad 30 0)), (1, .int (nI d))]) hx hb dX5_rarityOf_3 rfl hl (by decide) rfl (fun ls hl => ?_)
  refine r_loop (σ := Nat) (fun i => nC T - i) (fun i H locs ls => (i ≤ nC T) ∧ rS G.1 (rF (mC G T th rg C ad) ad s.heap.size) s.heap (mC G T th rg C ad) ad H locs ∧ lv_has ls 4 [(3, .int (nI i)), (2, .int (nI (cntB (rarAt T d) i))), (0, .ref (ad 30 0)), (1, .int (nI d))]) (fun _ => 0) (fun _ => 0) (fun z ih H locs ls hI => ?_) 0 (Nat.zero_le _) (Nat.zero_le _) ⟨Nat.zero_le _, hS, lv_sub hl [0, 1, 2, 3] rfl⟩
  obtain ⟨i, rfl⟩ : ∃ y, y = z := ⟨_, rfl⟩
  obtain ⟨hil, hS, hl⟩ := hI
  try dsimp only at hil hS hl ih ⊢
  refine lv_iload_n hx hb dX5_rarityOf_4 rfl (lv_at hl 0 rfl) ?_
  refine lv_aload_n hx hb dX5_rarityOf_5 rfl (lv_at hl 2 rfl) ?_
  refine gf_X5_63 hx hb hown hK hS mC_30 (v := .int (nI (nC T))) rfl dX5_rarityOf_6 ?_
  refine r_icmp_ge (a := i) (b := nC T) (tgt := 44) hx hb (by omega) (by omega) dX5_rarityOf_9 (by decide) (fun q9 => ?_) (fun q9 => ?_)
  · -- T
    obtain rfl : i = nC T := by omega
    refine lv_iload_n hx hb dX5_rarityOf_44 rfl (lv_at hl 1 rfl) ?_
    exact r_iret hx hb hr hlocks hS (⟨rfl, rfl, rfl⟩) (Nat.zero_le _) (Nat.zero_le _) dX5_rarityOf_45
  · -- F
    have hi : i < nC T := by omega
    have hcn := hN.cn hi
    refine lv_iload_n hx hb dX5_rarityOf_12 rfl (lv_at hl 1 rfl) ?_
    refine lv_aload_n hx hb dX5_rarityOf_13 rfl (lv_at hl 2 rfl) ?_
    refine gf_X5_22 hx hb hown hK hS mC_30 rfl dX5_rarityOf_14 ?_
    refine lv_iload_n hx hb dX5_rarityOf_17 rfl (lv_at hl 0 rfl) ?_
    refine r_iald hx hb hK.1 hS 0 mC_35 rfl (nI_in0 (by omega) (by omega)) (v := nI (T 5 i)) (tA_at (by omega)) dX5_rarityOf_18 ?_
    refine lv_iload_n hx hb dX5_rarityOf_19 rfl (lv_at hl 3 rfl) ?_
    refine r_icmp_ne (a := T 5 i) (b := d) (tgt := 35) hx hb (by omega) (by omega) dX5_rarityOf_20 (by decide) (fun q20 => ?_) (fun q20 => ?_)
    · -- T
      refine lv_iconst (v := nI 0) hx hb dX5_rarityOf_35 (by decide) ?_
      refine lv_iadd hx hb dX5_rarityOf_36 ?_
      refine r_top (y := nI (cntB (rarAt T d) (i + 1))) ((nI_add _ _).trans (by rw [cntB_f (rarA_a q20), Nat.add_zero])) ?_
      refine lv_istore_n (lv' := [(2, .int (nI (cntB (rarAt T d) (i + 1)))), (3, .int (nI i)), (0, .ref (ad 30 0)), (1, .int (nI d))]) hx hb dX5_rarityOf_37 rfl hl (by decide) rfl (fun ls hl => ?_)
      refine lv_iinc (v := nI (i + 1)) (lv' := [(3, .int (nI (i + 1))), (2, .int (nI (cntB (rarAt T d) (i + 1)))), (0, .ref (ad 30 0)), (1, .int (nI d))]) hx hb dX5_rarityOf_38 hl (k := 1) rfl (nI_inc _) (by decide) rfl (fun ls hl => ?_)
      refine lv_goto (tgt := 4) hx hb dX5_rarityOf_41 (by decide) ?_
      exact ih (i + 1) (show nC T - (i + 1) < nC T - i by omega) _ _ _ ⟨(show i + 1 ≤ nC T by omega), hS, lv_sub hl [0, 1, 2, 3] rfl⟩
    · -- F
      refine lv_aload_n hx hb dX5_rarityOf_23 rfl (lv_at hl 2 rfl) ?_
      refine lv_iload_n hx hb dX5_rarityOf_24 rfl (lv_at hl 0 rfl) ?_
      refine cl_X5_84 hx hb hml hown hK hZ hS hA (c_X5_isTrueNow hN hi) mC_30 rfl hl.1 (Nat.le_of_ble_eq_true rfl) ⟨Nat.le_of_ble_eq_true rfl, Nat.le_of_ble_eq_true rfl⟩ ⟨Nat.zero_le _, Nat.zero_le _⟩ rfl dX5_rarityOf_25 (r_kp (fun H locs hS => ?_))
      refine r_ifb_eq (b := (tru T i)) (tgt := 35) hx hb dX5_rarityOf_28 (by decide) (fun q28 => ?_) (fun q28 => ?_)
      · -- T
        refine lv_iconst (v := nI 0) hx hb dX5_rarityOf_35 (by decide) ?_
        refine lv_iadd hx hb dX5_rarityOf_36 ?_
        refine r_top (y := nI (cntB (rarAt T d) (i + 1))) ((nI_add _ _).trans (by rw [cntB_f (rarA_b q28), Nat.add_zero])) ?_
        refine lv_istore_n (lv' := [(2, .int (nI (cntB (rarAt T d) (i + 1)))), (3, .int (nI i)), (0, .ref (ad 30 0)), (1, .int (nI d))]) hx hb dX5_rarityOf_37 rfl hl (by decide) rfl (fun ls hl => ?_)
        refine lv_iinc (v := nI (i + 1)) (lv' := [(3, .int (nI (i + 1))), (2, .int (nI (cntB (rarAt T d) (i + 1)))), (0, .ref (ad 30 0)), (1, .int (nI d))]) hx hb dX5_rarityOf_38 hl (k := 1) rfl (nI_inc _) (by decide) rfl (fun ls hl => ?_)
        refine lv_goto (tgt := 4) hx hb dX5_rarityOf_41 (by decide) ?_
        exact ih (i + 1) (show nC T - (i + 1) < nC T - i by omega) _ _ _ ⟨(show i + 1 ≤ nC T by omega), hS, lv_sub hl [0, 1, 2, 3] rfl⟩
      · -- F
        refine lv_iconst (v := nI 1) hx hb dX5_rarityOf_31 (by decide) ?_
        refine lv_goto (tgt := 36) hx hb dX5_rarityOf_32 (by decide) ?_
        refine lv_iadd hx hb dX5_rarityOf_36 ?_
        refine r_top (y := nI (cntB (rarAt T d) (i + 1))) ((nI_add _ _).trans (by rw [cntB_t (rarA_t q20 q28)])) ?_
        refine lv_istore_n (lv' := [(2, .int (nI (cntB (rarAt T d) (i + 1)))), (3, .int (nI i)), (0, .ref (ad 30 0)), (1, .int (nI d))]) hx hb dX5_rarityOf_37 rfl hl (by decide) rfl (fun ls hl => ?_)
        refine lv_iinc (v := nI (i + 1)) (lv' := [(3, .int (nI (i + 1))), (2, .int (nI (cntB (rarAt T d) (i + 1)))), (0, .ref (ad 30 0)), (1, .int (nI d))]) hx hb dX5_rarityOf_38 hl (k := 1) rfl (nI_inc _) (by decide) rfl (fun ls hl => ?_)
        refine lv_goto (tgt := 4) hx hb dX5_rarityOf_41 (by decide) ?_
        exact ih (i + 1) (show nC T - (i + 1) < nC T - i by omega) _ _ _ ⟨(show i + 1 ≤ nC T by omega), hS, lv_sub hl [0, 1, 2, 3] rfl⟩

set_option maxHeartbeats 4000000 in
set_option maxRecDepth 100000 in
theorem c_X5_priceBy {G : rG} {l : Launch} {T : rTab} {th : Int32} {rg : Nat → Int32} {C : rC} {ad : rA} (hN : mNu T) {d : Nat} (hd : d < nD T) : rMet G l yX5_priceBy cX5_priceBy 4 (some .int) (rmP 3) [.ref (ad 30 0), .int (nI d)] (mC G T th rg C ad) ad (rPure (mC G T th rg C ad) ad (.int (nI (priceBy T d)))) := by
  refine rMet.of (by decide) ?_
  intro p e s m below meth c hx hb hml hr hlocks hown hname hK hZ hS
  have hown : s.vm.findClass RX5 = some m.cls := hown
  have hA : ∀ q : Nat, s.heap.size ≤ q → (rF (mC G T th rg C ad) ad s.heap.size) q := rF.new
  refine r_entry _ (Nat.le_of_ble_eq_true rfl) (fun ls hl => ?_)
  have hl : lv_has ls 4 [(0, .ref (ad 30 0)), (1, .int (nI d))] := hl
  have hnD := hN.hD
  have hnC := hN.hC
  have hnS := hN.hS
  have hdn := hN.dn hd
  have hv := valOf_le (T 1 d)
  have hr9 := rar_le T d
  refine lv_aload_n hx hb dX5_priceBy_0 rfl (lv_at hl 0 rfl) ?_
  refine gf_X5_7 hx hb hown hK hS mC_30 rfl dX5_priceBy_1 ?_
  refine lv_iload_n hx hb dX5_priceBy_4 rfl (lv_at hl 1 rfl) ?_
  refine r_iald hx hb hK.1 hS 0 mC_31 rfl (nI_in0 (by omega) (by omega)) (v := nI (T 1 d)) (tA_at (by omega)) dX5_priceBy_5 ?_
  refine lv_istore_n (lv' := [(2, .int (nI (T 1 d))), (0, .ref (ad 30 0)), (1, .int (nI d))]) hx hb dX5_priceBy_6 rfl hl (by decide) rfl (fun ls hl => ?_)
  refine lv_iload_n hx hb dX5_priceBy_7 rfl (lv_at hl 0 rfl) ?_
  refine r_if_ne (a := T 1 d) (tgt := 16) hx hb (by omega) dX5_priceBy_8 (by decide) (fun q8 => ?_) (fun q8 => ?_)
  · -- T
    refine lv_iload_n hx hb dX5_priceBy_16 rfl (lv_at hl 0 rfl) ?_
    refine lv_iconst (v := nI 1) hx hb dX5_priceBy_17 (by decide) ?_
    refine r_icmp_ne (a := T 1 d) (b := 1) (tgt := 27) hx hb (by omega) (by omega) dX5_priceBy_18 (by decide) (fun q18 => ?_) (fun q18 => ?_)
    · -- T
      refine lv_iload_n hx hb dX5_priceBy_27 rfl (lv_at hl 0 rfl) ?_
      refine lv_iconst (v := nI 2) hx hb dX5_priceBy_28 (by decide) ?_
      refine r_icmp_ne (a := T 1 d) (b := 2) (tgt := 38) hx hb (by omega) (by omega) dX5_priceBy_29 (by decide) (fun q29 => ?_) (fun q29 => ?_)
      · -- T
        refine lv_sipush (v := nI 1000) hx hb dX5_priceBy_38 (by decide) ?_
        refine r_top (y := nI (valOf (T 1 d))) (by unfold valOf; rw [if_neg q8, if_neg q18, if_neg q29]) ?_
        refine lv_istore_n (lv' := [(3, .int (nI (valOf (T 1 d)))), (2, .int (nI (T 1 d))), (0, .ref (ad 30 0)), (1, .int (nI d))]) hx hb dX5_priceBy_41 rfl hl (by decide) rfl (fun ls hl => ?_)
        refine lv_bipush (v := nI 20) hx hb dX5_priceBy_42 (by decide) ?_
        refine lv_iload_n hx hb dX5_priceBy_44 rfl (lv_at hl 0 rfl) ?_
        refine lv_imul hx hb dX5_priceBy_45 ?_
        refine r_top (pk_mul _ _) ?_
        refine lv_aload_n hx hb dX5_priceBy_46 rfl (lv_at hl 2 rfl) ?_
        refine lv_iload_n hx hb dX5_priceBy_47 rfl (lv_at hl 3 rfl) ?_
        refine cl_X5_87 hx hb hml hown hK hZ hS hA (c_X5_rarityOf hN hd) mC_30 rfl hl.1 (Nat.le_of_ble_eq_true rfl) ⟨Nat.le_of_ble_eq_true rfl, Nat.le_of_ble_eq_true rfl⟩ ⟨Nat.zero_le _, Nat.zero_le _⟩ rfl dX5_priceBy_48 (r_kp (fun H locs hS => ?_))
        refine lv_iconst (v := nI 1) hx hb dX5_priceBy_51 (by decide) ?_
        refine lv_iadd hx hb dX5_priceBy_52 ?_
        refine r_top (nI_add _ _) ?_
        refine lv_idiv hx hb dX5_priceBy_53 (nI_ne0 (by omega) (by omega)) ?_
        refine r_top (y := nI (priceBy T d)) (pk_div (by omega) (by omega) (by omega)) ?_
        exact r_iret hx hb hr hlocks hS (⟨rfl, rfl, rfl⟩) (Nat.zero_le _) (Nat.zero_le _) dX5_priceBy_54
      · -- F
        refine lv_sipush (v := nI 500) hx hb dX5_priceBy_32 (by decide) ?_
        refine lv_goto (tgt := 41) hx hb dX5_priceBy_35 (by decide) ?_
        refine r_top (y := nI (valOf (T 1 d))) (by unfold valOf; rw [if_neg q8, if_neg q18, if_pos q29]) ?_
        refine lv_istore_n (lv' := [(3, .int (nI (valOf (T 1 d)))), (2, .int (nI (T 1 d))), (0, .ref (ad 30 0)), (1, .int (nI d))]) hx hb dX5_priceBy_41 rfl hl (by decide) rfl (fun ls hl => ?_)
        refine lv_bipush (v := nI 20) hx hb dX5_priceBy_42 (by decide) ?_
        refine lv_iload_n hx hb dX5_priceBy_44 rfl (lv_at hl 0 rfl) ?_
        refine lv_imul hx hb dX5_priceBy_45 ?_
        refine r_top (pk_mul _ _) ?_
        refine lv_aload_n hx hb dX5_priceBy_46 rfl (lv_at hl 2 rfl) ?_
        refine lv_iload_n hx hb dX5_priceBy_47 rfl (lv_at hl 3 rfl) ?_
        refine cl_X5_87 hx hb hml hown hK hZ hS hA (c_X5_rarityOf hN hd) mC_30 rfl hl.1 (Nat.le_of_ble_eq_true rfl) ⟨Nat.le_of_ble_eq_true rfl, Nat.le_of_ble_eq_true rfl⟩ ⟨Nat.zero_le _, Nat.zero_le _⟩ rfl dX5_priceBy_48 (r_kp (fun H locs hS => ?_))
        refine lv_iconst (v := nI 1) hx hb dX5_priceBy_51 (by decide) ?_
        refine lv_iadd hx hb dX5_priceBy_52 ?_
        refine r_top (nI_add _ _) ?_
        refine lv_idiv hx hb dX5_priceBy_53 (nI_ne0 (by omega) (by omega)) ?_
        refine r_top (y := nI (priceBy T d)) (pk_div (by omega) (by omega) (by omega)) ?_
        exact r_iret hx hb hr hlocks hS (⟨rfl, rfl, rfl⟩) (Nat.zero_le _) (Nat.zero_le _) dX5_priceBy_54
    · -- F
      refine lv_sipush (v := nI 200) hx hb dX5_priceBy_21 (by decide) ?_
      refine lv_goto (tgt := 41) hx hb dX5_priceBy_24 (by decide) ?_
      refine r_top (y := nI (valOf (T 1 d))) (by unfold valOf; rw [if_neg q8, if_pos q18]) ?_
      refine lv_istore_n (lv' := [(3, .int (nI (valOf (T 1 d)))), (2, .int (nI (T 1 d))), (0, .ref (ad 30 0)), (1, .int (nI d))]) hx hb dX5_priceBy_41 rfl hl (by decide) rfl (fun ls hl => ?_)
      refine lv_bipush (v := nI 20) hx hb dX5_priceBy_42 (by decide) ?_
      refine lv_iload_n hx hb dX5_priceBy_44 rfl (lv_at hl 0 rfl) ?_
      refine lv_imul hx hb dX5_priceBy_45 ?_
      refine r_top (pk_mul _ _) ?_
      refine lv_aload_n hx hb dX5_priceBy_46 rfl (lv_at hl 2 rfl) ?_
      refine lv_iload_n hx hb dX5_priceBy_47 rfl (lv_at hl 3 rfl) ?_
      refine cl_X5_87 hx hb hml hown hK hZ hS hA (c_X5_rarityOf hN hd) mC_30 rfl hl.1 (Nat.le_of_ble_eq_true rfl) ⟨Nat.le_of_ble_eq_true rfl, Nat.le_of_ble_eq_true rfl⟩ ⟨Nat.zero_le _, Nat.zero_le _⟩ rfl dX5_priceBy_48 (r_kp (fun H locs hS => ?_))
      refine lv_iconst (v := nI 1) hx hb dX5_priceBy_51 (by decide) ?_
      refine lv_iadd hx hb dX5_priceBy_52 ?_
      refine r_top (nI_add _ _) ?_
      refine lv_idiv hx hb dX5_priceBy_53 (nI_ne0 (by omega) (by omega)) ?_
      refine r_top (y := nI (priceBy T d)) (pk_div (by omega) (by omega) (by omega)) ?_
      exact r_iret hx hb hr hlocks hS (⟨rfl, rfl, rfl⟩) (Nat.zero_le _) (Nat.zero_le _) dX5_priceBy_54
  · -- F
    refine lv_bipush (v := nI 100) hx hb dX5_priceBy_11 (by decide) ?_
    refine lv_goto (tgt := 41) hx hb dX5_priceBy_13 (by decide) ?_
    refine r_top (y := nI (valOf (T 1 d))) (by unfold valOf; rw [if_pos q8]) ?_
    refine lv_istore_n (lv' := [(3, .int (nI (valOf (T 1 d)))), (2, .int (nI (T 1 d))), (0, .ref (ad 30 0)), (1, .int (nI d))]) hx hb dX5_priceBy_41 rfl hl (by decide) rfl (fun ls hl => ?_)
    refine lv_bipush (v := nI 20) hx hb dX5_priceBy_42 (by decide) ?_
    refine lv_iload_n hx hb dX5_priceBy_44 rfl (lv_at hl 0 rfl) ?_
    refine lv_imul hx hb dX5_priceBy_45 ?_
    refine r_top (pk_mul _ _) ?_
    refine lv_aload_n hx hb dX5_priceBy_46 rfl (lv_at hl 2 rfl) ?_
    refine lv_iload_n hx hb dX5_priceBy_47 rfl (lv_at hl 3 rfl) ?_
    refine cl_X5_87 hx hb hml hown hK hZ hS hA (c_X5_rarityOf hN hd) mC_30 rfl hl.1 (Nat.le_of_ble_eq_true rfl) ⟨Nat.le_of_ble_eq_true rfl, Nat.le_of_ble_eq_true rfl⟩ ⟨Nat.zero_le _, Nat.zero_le _⟩ rfl dX5_priceBy_48 (r_kp (fun H locs hS => ?_))
    refine lv_iconst (v := nI 1) hx hb dX5_priceBy_51 (by decide) ?_
    refine lv_iadd hx hb dX5_priceBy_52 ?_
    refine r_top (nI_add _ _) ?_
    refine lv_idiv hx hb dX5_priceBy_53 (nI_ne0 (by omega) (by omega)) ?_
    refine r_top (y := nI (priceBy T d)) (pk_div (by omega) (by omega) (by omega)) ?_
    exact r_iret hx hb hr hlocks hS (⟨rfl, rfl, rfl⟩) (Nat.zero_le _) (Nat.zero_le _) dX5_priceBy_54

set_option maxHeartbeats 4000000 in
set_option maxRecDepth 100000 in
theorem c_X5_priceOf {G : rG} {l : Launch} {T : rTab} {th : Int32} {rg : Nat → Int32} {C : rC} {ad : rA} (hN : mNu T) {j : Nat} (hj : j < nC T) : rMet G l yX5_priceOf cX5_priceOf 2 (some .int) (rmP 4) [.ref (ad 30 0), .int (nI j)] (mC G T th rg C ad) ad (rPure (mC G T th rg C ad) ad (.int (nI (priceN T j)))) := by
  refine rMet.of (by decide) ?_
  intro p e s m below meth c hx hb hml hr hlocks hown hname hK hZ hS
  have hown : s.vm.findClass RX5 = some m.cls := hown
  have hA : ∀ q : Nat, s.heap.size ≤ q → (rF (mC G T th rg C ad) ad s.heap.size) q := rF.new
  refine r_entry _ (Nat.le_of_ble_eq_true rfl) (fun ls hl => ?_)
  have hl : lv_has ls 2 [(0, .ref (ad 30 0)), (1, .int (nI j))] := hl
  have hnD := hN.hD
  have hnC := hN.hC
  have hnS := hN.hS
  have hcn := hN.cn hj
  refine lv_aload_n hx hb dX5_priceOf_0 rfl (lv_at hl 0 rfl) ?_
  refine lv_iload_n hx hb dX5_priceOf_1 rfl (lv_at hl 1 rfl) ?_
  refine cl_X5_84 hx hb hml hown hK hZ hS hA (c_X5_isTrueNow hN hj) mC_30 rfl hl.1 (Nat.le_of_ble_eq_true rfl) ⟨Nat.le_of_ble_eq_true rfl, Nat.le_of_ble_eq_true rfl⟩ ⟨Nat.zero_le _, Nat.zero_le _⟩ rfl dX5_priceOf_2 (r_kp (fun H locs hS => ?_))
  refine r_ifb_eq (b := (tru T j)) (tgt := 21) hx hb dX5_priceOf_5 (by decide) (fun q5 => ?_) (fun q5 => ?_)
  · -- T
    refine lv_iconst (v := nI 0) hx hb dX5_priceOf_21 (by decide) ?_
    exact r_iret hx hb hr hlocks hS (⟨by rw [priceN_f q5], rfl, rfl⟩) (Nat.zero_le _) (Nat.zero_le _) dX5_priceOf_22
  · -- F
    refine lv_aload_n hx hb dX5_priceOf_8 rfl (lv_at hl 0 rfl) ?_
    refine lv_aload_n hx hb dX5_priceOf_9 rfl (lv_at hl 0 rfl) ?_
    refine gf_X5_22 hx hb hown hK hS mC_30 rfl dX5_priceOf_10 ?_
    refine lv_iload_n hx hb dX5_priceOf_13 rfl (lv_at hl 1 rfl) ?_
    refine r_iald hx hb hK.1 hS 0 mC_35 rfl (nI_in0 (by omega) (by omega)) (v := nI (T 5 j)) (tA_at (by omega)) dX5_priceOf_14 ?_
    refine cl_X5_93 hx hb hml hown hK hZ hS hA (c_X5_priceBy hN hcn.1) mC_30 rfl hl.1 (Nat.le_of_ble_eq_true rfl) ⟨Nat.le_of_ble_eq_true rfl, Nat.le_of_ble_eq_true rfl⟩ ⟨Nat.zero_le _, Nat.zero_le _⟩ rfl dX5_priceOf_15 (r_kp (fun H locs hS => ?_))
    refine lv_goto (tgt := 22) hx hb dX5_priceOf_18 (by decide) ?_
    exact r_iret hx hb hr hlocks hS (⟨by rw [priceN_t q5], rfl, rfl⟩) (Nat.zero_le _) (Nat.zero_le _) dX5_priceOf_22

set_option maxHeartbeats 4000000 in
set_option maxRecDepth 100000 in
theorem c_X5_owned {G : rG} {l : Launch} {T : rTab} {th : Int32} {rg : Nat → Int32} {C : rC} {ad : rA} (hnC : nC T ≤ 150) (h88 : ∀ j, j < nC T → T 8 j ≤ 8) {k : Nat} (hk : k < 8) : rMet G l yX5_owned cX5_owned 4 (some .int) (rmP 2) [.ref (ad 30 0), .int (nI k)] (mC G T th rg C ad) ad (rPure (mC G T th rg C ad) ad (.int (nI (ownedN T k)))) := by
  refine rMet.of (by decide) ?_
  intro p e s m below meth c hx hb hml hr hlocks hown hname hK hZ hS
  have hown : s.vm.findClass RX5 = some m.cls := hown
  have hA : ∀ q : Nat, s.heap.size ≤ q → (rF (mC G T th rg C ad) ad s.heap.size) q := rF.new
  refine r_entry _ (Nat.le_of_ble_eq_true rfl) (fun ls hl => ?_)
  have hl : lv_has ls 4 [(0, .ref (ad 30 0)), (1, .int (nI k))] := hl
  refine lv_iconst (v := nI 0) hx hb dX5_owned_0 (by decide) ?_
  refine lv_istore_n (lv' := [(2, .int (nI 0)), (0, .ref (ad 30 0)), (1, .int (nI k))]) hx hb dX5_owned_1 rfl hl (by decide) rfl (fun ls hl => ?_)
  refine lv_iconst (v := nI 0) hx hb dX5_owned_2 (by decide) ?_
  refine lv_istore_n (lv' := [(3, .int (nI 0)), (2, .int (nI 0)), (0, .ref (ad 30 0)), (1, .int (nI k))]) hx hb dX5_owned_3 rfl hl (by decide) rfl (fun ls hl => ?_)
  refine r_loop (σ := Nat) (fun i => nC T - i) (fun i H locs ls => (i ≤ nC T) ∧ rS G.1 (rF (mC G T th rg C ad) ad s.heap.size) s.heap (mC G T th rg C ad) ad H locs ∧ lv_has ls 4 [(3, .int (nI i)), (2, .int (nI (cntB (ownAt T k) i))), (0, .ref (ad 30 0)), (1, .int (nI k))]) (fun _ => 0) (fun _ => 0) (fun z ih H locs ls hI => ?_) 0 (Nat.zero_le _) (Nat.zero_le _) ⟨Nat.zero_le _, hS, lv_sub hl [0, 1, 2, 3] rfl⟩
  obtain ⟨i, rfl⟩ : ∃ y, y = z := ⟨_, rfl⟩
  obtain ⟨hil, hS, hl⟩ := hI
  try dsimp only at hil hS hl ih ⊢
  refine lv_iload_n hx hb dX5_owned_4 rfl (lv_at hl 0 rfl) ?_
  refine lv_aload_n hx hb dX5_owned_5 rfl (lv_at hl 2 rfl) ?_
  refine gf_X5_63 hx hb hown hK hS mC_30 (v := .int (nI (nC T))) rfl dX5_owned_6 ?_
  refine r_icmp_ge (a := i) (b := nC T) (tgt := 38) hx hb (by omega) (by omega) dX5_owned_9 (by decide) (fun q9 => ?_) (fun q9 => ?_)
  · -- T
    obtain rfl : i = nC T := by omega
    refine lv_iload_n hx hb dX5_owned_38 rfl (lv_at hl 1 rfl) ?_
    exact r_iret hx hb hr hlocks hS (⟨rfl, rfl, rfl⟩) (Nat.zero_le _) (Nat.zero_le _) dX5_owned_39
  · -- F
    have hi : i < nC T := by omega
    have h8i := h88 i hi
    refine lv_iload_n hx hb dX5_owned_12 rfl (lv_at hl 1 rfl) ?_
    refine lv_aload_n hx hb dX5_owned_13 rfl (lv_at hl 2 rfl) ?_
    refine gf_X5_31 hx hb hown hK hS mC_30 rfl dX5_owned_14 ?_
    refine lv_iload_n hx hb dX5_owned_17 rfl (lv_at hl 0 rfl) ?_
    refine r_iald hx hb hK.1 hS 0 mC_38 rfl (nI_in0 (by omega) (by omega)) (v := nI (T 8 i)) (tA_at (by omega)) dX5_owned_18 ?_
    refine lv_iload_n hx hb dX5_owned_19 rfl (lv_at hl 3 rfl) ?_
    refine lv_iconst (v := nI 1) hx hb dX5_owned_20 (by decide) ?_
    refine lv_iadd hx hb dX5_owned_21 ?_
    refine r_top (nI_add _ _) ?_
    refine r_icmp_ne (a := T 8 i) (b := k + 1) (tgt := 29) hx hb (by omega) (by omega) dX5_owned_22 (by decide) (fun q22 => ?_) (fun q22 => ?_)
    · -- T
      refine lv_iconst (v := nI 0) hx hb dX5_owned_29 (by decide) ?_
      refine lv_iadd hx hb dX5_owned_30 ?_
      refine r_top (y := nI (cntB (ownAt T k) (i + 1))) ((nI_add _ _).trans (by rw [cntB_f (decide_eq_false q22), Nat.add_zero])) ?_
      refine lv_istore_n (lv' := [(2, .int (nI (cntB (ownAt T k) (i + 1)))), (3, .int (nI i)), (0, .ref (ad 30 0)), (1, .int (nI k))]) hx hb dX5_owned_31 rfl hl (by decide) rfl (fun ls hl => ?_)
      refine lv_iinc (v := nI (i + 1)) (lv' := [(3, .int (nI (i + 1))), (2, .int (nI (cntB (ownAt T k) (i + 1)))), (0, .ref (ad 30 0)), (1, .int (nI k))]) hx hb dX5_owned_32 hl (k := 1) rfl (nI_inc _) (by decide) rfl (fun ls hl => ?_)
      refine lv_goto (tgt := 4) hx hb dX5_owned_35 (by decide) ?_
      exact ih (i + 1) (show nC T - (i + 1) < nC T - i by omega) _ _ _ ⟨(show i + 1 ≤ nC T by omega), hS, lv_sub hl [0, 1, 2, 3] rfl⟩
    · -- F
      refine lv_iconst (v := nI 1) hx hb dX5_owned_25 (by decide) ?_
      refine lv_goto (tgt := 30) hx hb dX5_owned_26 (by decide) ?_
      refine lv_iadd hx hb dX5_owned_30 ?_
      refine r_top (y := nI (cntB (ownAt T k) (i + 1))) ((nI_add _ _).trans (by rw [cntB_t (decide_eq_true q22)])) ?_
      refine lv_istore_n (lv' := [(2, .int (nI (cntB (ownAt T k) (i + 1)))), (3, .int (nI i)), (0, .ref (ad 30 0)), (1, .int (nI k))]) hx hb dX5_owned_31 rfl hl (by decide) rfl (fun ls hl => ?_)
      refine lv_iinc (v := nI (i + 1)) (lv' := [(3, .int (nI (i + 1))), (2, .int (nI (cntB (ownAt T k) (i + 1)))), (0, .ref (ad 30 0)), (1, .int (nI k))]) hx hb dX5_owned_32 hl (k := 1) rfl (nI_inc _) (by decide) rfl (fun ls hl => ?_)
      refine lv_goto (tgt := 4) hx hb dX5_owned_35 (by decide) ?_
      exact ih (i + 1) (show nC T - (i + 1) < nC T - i by omega) _ _ _ ⟨(show i + 1 ≤ nC T by omega), hS, lv_sub hl [0, 1, 2, 3] rfl⟩

set_option maxHeartbeats 4000000 in
set_option maxRecDepth 100000 in
theorem c_X5_gets {G : rG} {l : Launch} {T : rTab} {th : Int32} {rg : Nat → Int32} {C : rC} {ad : rA} (hnC : nC T ≤ 150) {k j : Nat} (hk : k < 8) (hj : j < nC T) (h516 : T 5 j < 16) : rMet G l yX5_gets cX5_gets 3 none (rmP 1) [.ref (ad 30 0), .int (nI k), .int (nI j)] (mC G T th rg C ad) ad (rVoid fun C' ad' => mC G (gainT T k j) th rg C ad = C' ∧ ad = ad') := by
  refine rMet.of (by decide) ?_
  intro p e s m below meth c hx hb hml hr hlocks hown hname hK hZ hS
  have hown : s.vm.findClass RX5 = some m.cls := hown
  have hA : ∀ q : Nat, s.heap.size ≤ q → (rF (mC G T th rg C ad) ad s.heap.size) q := rF.new
  refine r_entry _ (Nat.le_of_ble_eq_true rfl) (fun ls hl => ?_)
  have hl : lv_has ls 3 [(0, .ref (ad 30 0)), (1, .int (nI k)), (2, .int (nI j))] := hl
  refine lv_aload_n hx hb dX5_gets_0 rfl (lv_at hl 0 rfl) ?_
  refine gf_X5_31 hx hb hown hK hS mC_30 rfl dX5_gets_1 ?_
  refine lv_iload_n hx hb dX5_gets_4 rfl (lv_at hl 2 rfl) ?_
  refine lv_iload_n hx hb dX5_gets_5 rfl (lv_at hl 1 rfl) ?_
  refine lv_iconst (v := nI 1) hx hb dX5_gets_6 (by decide) ?_
  refine lv_iadd hx hb dX5_gets_7 ?_
  refine r_top (nI_add _ _) ?_
  refine r_iast hx hb hK.1 hS 0 mC_38 rfl (nI_in0 (by omega) (by omega)) (f' := tA (ru T 8 j (k + 1)) 8) (tA_put (by omega)) dX5_gets_8 (fun H locs hS => ?_)
  rw [mC_p38] at hS
  refine lv_aload_n hx hb dX5_gets_9 rfl (lv_at hl 0 rfl) ?_
  refine gf_X5_34 hx hb hown hK hS mC_30 rfl dX5_gets_10 ?_
  refine lv_iload_n hx hb dX5_gets_13 rfl (lv_at hl 2 rfl) ?_
  refine lv_iconst (v := nI 0) hx hb dX5_gets_14 (by decide) ?_
  refine r_iast hx hb hK.1 hS 0 mC_39 rfl (nI_in0 (by omega) (by omega)) (f' := tA (ru (ru T 8 j (k + 1)) 9 j 0) 9) (tA_put (by omega)) dX5_gets_15 (fun H locs hS => ?_)
  rw [mC_p39] at hS
  refine lv_aload_n hx hb dX5_gets_16 rfl (lv_at hl 0 rfl) ?_
  refine gf_X5_37 hx hb hown hK hS mC_30 rfl dX5_gets_17 ?_
  refine lv_iload_n hx hb dX5_gets_20 rfl (lv_at hl 1 rfl) ?_
  refine lv_dup2_11 hx hb dX5_gets_21 rfl rfl ?_
  refine r_iald hx hb hK.1 hS 0 mC_40 rfl (nI_in0 (by omega) (by omega)) (v := nI (T 10 k)) ((tA_at (by omega)).trans (congrArg nI ((ru_k (by decide)).trans ((ru_k (by decide)).trans (rfl))))) dX5_gets_22 ?_
  refine lv_iconst (v := nI 1) hx hb dX5_gets_23 (by decide) ?_
  refine lv_aload_n hx hb dX5_gets_24 rfl (lv_at hl 0 rfl) ?_
  refine gf_X5_22 hx hb hown hK hS mC_30 rfl dX5_gets_25 ?_
  refine lv_iload_n hx hb dX5_gets_28 rfl (lv_at hl 2 rfl) ?_
  refine r_iald hx hb hK.1 hS 0 mC_35 rfl (nI_in0 (by omega) (by omega)) (v := nI (T 5 j)) ((tA_at (by omega)).trans (congrArg nI ((ru_k (by decide)).trans ((ru_k (by decide)).trans (rfl))))) dX5_gets_29 ?_
  refine lv_ishl hx hb dX5_gets_30 ?_
  refine r_top (y := nI (2 ^ T 5 j)) (bit_i _ (by omega)) ?_
  refine lv_iconst (v := (-1)) hx hb dX5_gets_31 (by decide) ?_
  refine lv_ixor hx hb dX5_gets_32 ?_
  refine lv_iand hx hb dX5_gets_33 ?_
  refine r_top (y := nI (clrB (T 10 k) (T 5 j))) (clr_i _ _) ?_
  refine r_iast hx hb hK.1 hS 0 mC_40 rfl (nI_in0 (by omega) (by omega)) (f' := tA (ru (ru (ru T 8 j (k + 1)) 9 j 0) 10 k (clrB (T 10 k) (T 5 j))) 10) (tA_put (by omega)) dX5_gets_34 (fun H locs hS => ?_)
  rw [mC_p40] at hS
  exact r_vret hx hb hr hlocks hS (⟨rfl, (mC_eq gets_eq).symm, rfl⟩) (Nat.zero_le _) (Nat.zero_le _) dX5_gets_35

set_option maxHeartbeats 4000000 in
set_option maxRecDepth 100000 in
theorem c_X5_offer {G : rG} {l : Launch} {T : rTab} {th : Int32} {rg : Nat → Int32} {C : rC} {ad : rA} (hN : mNu T) {k d : Nat} (hk : k < 8) (hd : d < nD T) : rMet G l yX5_offer cX5_offer 6 (some .int) (rmP 2) [.ref (ad 30 0), .int (nI k), .int (nI d)] (mC G T th rg C ad) ad (rPure (mC G T th rg C ad) ad (.int (oI (offer T k d)))) := by
  refine rMet.of (by decide) ?_
  intro p e s m below meth c hx hb hml hr hlocks hown hname hK hZ hS
  have hown : s.vm.findClass RX5 = some m.cls := hown
  have hA : ∀ q : Nat, s.heap.size ≤ q → (rF (mC G T th rg C ad) ad s.heap.size) q := rF.new
  refine r_entry _ (Nat.le_of_ble_eq_true rfl) (fun ls hl => ?_)
  have hl : lv_has ls 6 [(0, .ref (ad 30 0)), (1, .int (nI k)), (2, .int (nI d))] := hl
  have hnD := hN.hD
  have hnC := hN.hC
  have hnS := hN.hS
  refine lv_iconst (v := nI 0) hx hb dX5_offer_0 (by decide) ?_
  refine lv_istore_n (lv' := [(3, .int (nI 0)), (0, .ref (ad 30 0)), (1, .int (nI k)), (2, .int (nI d))]) hx hb dX5_offer_1 rfl hl (by decide) rfl (fun ls hl => ?_)
  refine lv_iconst (v := (-1)) hx hb dX5_offer_2 (by decide) ?_
  refine lv_istore (lv' := [(4, .int (-1)), (3, .int (nI 0)), (0, .ref (ad 30 0)), (1, .int (nI k)), (2, .int (nI d))]) hx hb dX5_offer_3 hl (by decide) rfl (fun ls hl => ?_)
  refine lv_aload_n hx hb dX5_offer_5 rfl (lv_at hl 2 rfl) ?_
  refine gf_X5_63 hx hb hown hK hS mC_30 (v := .int (nI (nC T))) rfl dX5_offer_6 ?_
  refine lv_iconst (v := nI 1) hx hb dX5_offer_9 (by decide) ?_
  refine lv_isub hx hb dX5_offer_10 ?_
  refine lv_istore (lv' := [(5, .int ((nI (nC T)) - (nI 1))), (4, .int (-1)), (3, .int (nI 0)), (0, .ref (ad 30 0)), (1, .int (nI k)), (2, .int (nI d))]) hx hb dX5_offer_11 hl (by decide) rfl (fun ls hl => ?_)
  refine r_loop (σ := Nat × Nat × Option Nat) (fun ⟨m0, c0, o0⟩ => m0) (fun ⟨m0, c0, o0⟩ H locs ls => (m0 ≤ nC T) ∧ (lowD (offAt T k d) (nC T) m0 c0 o0) ∧ rS G.1 (rF (mC G T th rg C ad) ad s.heap.size) s.heap (mC G T th rg C ad) ad H locs ∧ lv_has ls 6 [(5, .int (nI m0 - nI 1)), (4, .int (oI o0)), (3, .int (nI c0)), (0, .ref (ad 30 0)), (1, .int (nI k)), (2, .int (nI d))]) (fun _ => 0) (fun _ => 0) (fun z ih H locs ls hI => ?_) (nC T, 0, none) (Nat.zero_le _) (Nat.zero_le _) ⟨(Nat.le_refl _), lowD_0, hS, lv_sub hl [0, 1, 2, 3, 4, 5] rfl⟩
  obtain ⟨m0, c0, o0⟩ := z
  obtain ⟨hml0, hlo, hS, hl⟩ := hI
  try dsimp only at hml0 hlo hS hl ih ⊢
  refine lv_iload hx hb dX5_offer_13 (lv_at hl 0 rfl) ?_
  refine lv_if_lt (tgt := 64) hx hb dX5_offer_15 (by decide) (fun q15 => ?_) (fun q15 => ?_)
  · -- T
    obtain rfl : m0 = 0 := (m1_lt (by omega)).mp q15
    have hce := (lowD_e hlo).1
    have hoe := (lowD_e hlo).2
    have hcl := cntB_le (offAt T k d) (nC T)
    refine lv_iload_n hx hb dX5_offer_64 rfl (lv_at hl 2 rfl) ?_
    refine lv_iconst (v := nI 1) hx hb dX5_offer_65 (by decide) ?_
    refine r_icmp_gt (a := c0) (b := 1) (tgt := 85) hx hb (by omega) (by omega) dX5_offer_66 (by decide) (fun q66 => ?_) (fun q66 => ?_)
    · -- T
      obtain ⟨x, hfx⟩ : ∃ x, fstB (offAt T k d) (nC T) = some x := by
        cases hq : fstB (offAt T k d) (nC T) with
        | some x => exact ⟨x, rfl⟩
        | none =>
          have := cntB_0 (fstB_none.mp hq)
          omega
      have hof := (ofr_s hfx).trans (if_pos (Or.inl (by omega)))
      rw [hoe, hfx, oI_s] at hl
      refine lv_iload hx hb dX5_offer_85 (lv_at hl 1 rfl) ?_
      refine lv_goto (tgt := 91) hx hb dX5_offer_87 (by decide) ?_
      exact r_iret hx hb hr hlocks hS (⟨by rw [hof]; rfl, rfl, rfl⟩) (Nat.zero_le _) (Nat.zero_le _) dX5_offer_91
    · -- F
      refine lv_iload_n hx hb dX5_offer_69 rfl (lv_at hl 2 rfl) ?_
      refine lv_iconst (v := nI 1) hx hb dX5_offer_70 (by decide) ?_
      refine r_icmp_ne (a := c0) (b := 1) (tgt := 90) hx hb (by omega) (by omega) dX5_offer_71 (by decide) (fun q71 => ?_) (fun q71 => ?_)
      · -- T
        have hof : offer T k d = none := by
          cases hq : fstB (offAt T k d) (nC T) with
          | none => exact ofr_n hq
          | some x =>
            have := fstB_some.mp hq
            have := cntB_pos this.1 this.2.1
            omega
        refine lv_iconst (v := (-1)) hx hb dX5_offer_90 (by decide) ?_
        exact r_iret hx hb hr hlocks hS (⟨by rw [hof]; rfl, rfl, rfl⟩) (Nat.zero_le _) (Nat.zero_le _) dX5_offer_91
      · -- F
        obtain ⟨x, hfx⟩ : ∃ x, fstB (offAt T k d) (nC T) = some x := by
          cases hq : fstB (offAt T k d) (nC T) with
          | some x => exact ⟨x, rfl⟩
          | none =>
            have := cntB_0 (fstB_none.mp hq)
            omega
        rw [hoe, hfx, oI_s] at hl
        have hxs := fstB_some.mp hfx
        have hx9 := (hN.cn hxs.1).2.2.2.2 (by have := hxs.2.1; unfold offAt at this; rw [Bool.and_eq_true, Bool.and_eq_true] at this; have := of_decide_eq_true this.2.1; omega)
        refine lv_aload_n hx hb dX5_offer_74 rfl (lv_at hl 3 rfl) ?_
        refine gf_X5_34 hx hb hown hK hS mC_30 rfl dX5_offer_75 ?_
        refine lv_iload hx hb dX5_offer_78 (lv_at hl 1 rfl) ?_
        refine r_iald hx hb hK.1 hS 0 mC_39 rfl (nI_in0 (by omega) (by omega)) (v := nI (T 9 x)) (tA_at (by omega)) dX5_offer_80 ?_
        refine lv_iconst (v := nI 1) hx hb dX5_offer_81 (by decide) ?_
        refine r_icmp_ne (a := T 9 x) (b := 1) (tgt := 90) hx hb (by omega) (by omega) dX5_offer_82 (by decide) (fun q82 => ?_) (fun q82 => ?_)
        · -- T
          have hof : offer T k d = none := (ofr_s hfx).trans (if_neg (by omega))
          refine lv_iconst (v := (-1)) hx hb dX5_offer_90 (by decide) ?_
          exact r_iret hx hb hr hlocks hS (⟨by rw [hof]; rfl, rfl, rfl⟩) (Nat.zero_le _) (Nat.zero_le _) dX5_offer_91
        · -- F
          have hof := (ofr_s hfx).trans (if_pos (Or.inr q82))
          refine lv_iload hx hb dX5_offer_85 (lv_at hl 1 rfl) ?_
          refine lv_goto (tgt := 91) hx hb dX5_offer_87 (by decide) ?_
          exact r_iret hx hb hr hlocks hS (⟨by rw [hof]; rfl, rfl, rfl⟩) (Nat.zero_le _) (Nat.zero_le _) dX5_offer_91
  · -- F
    obtain ⟨i, rfl⟩ : ∃ i, m0 = i + 1 := ⟨m0 - 1, by have := mt (m1_lt (m := m0) (by omega)).mpr q15; omega⟩
    have e5 : nI (i + 1) - nI 1 = nI i := pk_sub (a := i + 1) (b := 1) (by omega)
    rw [e5] at hl
    have hi : i < nC T := by omega
    have hcn := hN.cn hi
    refine lv_aload_n hx hb dX5_offer_18 rfl (lv_at hl 3 rfl) ?_
    refine gf_X5_22 hx hb hown hK hS mC_30 rfl dX5_offer_19 ?_
    refine lv_iload hx hb dX5_offer_22 (lv_at hl 0 rfl) ?_
    refine r_iald hx hb hK.1 hS 0 mC_35 rfl (nI_in0 (by omega) (by omega)) (v := nI (T 5 i)) (tA_at (by omega)) dX5_offer_24 ?_
    refine lv_iload_n hx hb dX5_offer_25 rfl (lv_at hl 5 rfl) ?_
    refine r_icmp_ne (a := T 5 i) (b := d) (tgt := 58) hx hb (by omega) (by omega) dX5_offer_26 (by decide) (fun q26 => ?_) (fun q26 => ?_)
    · -- T
      refine lv_iinc (v := nI i - nI 1) (lv' := [(5, .int (nI i - nI 1)), (4, .int (oI o0)), (3, .int (nI c0)), (0, .ref (ad 30 0)), (1, .int (nI k)), (2, .int (nI d))]) hx hb dX5_offer_58 hl (k := 0) rfl (nI_dec _) (by decide) rfl (fun ls hl => ?_)
      refine lv_goto (tgt := 13) hx hb dX5_offer_61 (by decide) ?_
      exact ih (i, c0, o0) (show i < i + 1 by omega) _ _ _ ⟨(show i ≤ nC T by omega), (lowD_f hlo (offA_a q26)), hS, lv_sub hl [0, 1, 2, 3, 4, 5] rfl⟩
    · -- F
      refine lv_aload_n hx hb dX5_offer_29 rfl (lv_at hl 3 rfl) ?_
      refine gf_X5_31 hx hb hown hK hS mC_30 rfl dX5_offer_30 ?_
      refine lv_iload hx hb dX5_offer_33 (lv_at hl 0 rfl) ?_
      refine r_iald hx hb hK.1 hS 0 mC_38 rfl (nI_in0 (by omega) (by omega)) (v := nI (T 8 i)) (tA_at (by omega)) dX5_offer_35 ?_
      refine lv_iload_n hx hb dX5_offer_36 rfl (lv_at hl 4 rfl) ?_
      refine lv_iconst (v := nI 1) hx hb dX5_offer_37 (by decide) ?_
      refine lv_iadd hx hb dX5_offer_38 ?_
      refine r_top (nI_add _ _) ?_
      refine r_icmp_ne (a := T 8 i) (b := k + 1) (tgt := 58) hx hb (by omega) (by omega) dX5_offer_39 (by decide) (fun q39 => ?_) (fun q39 => ?_)
      · -- T
        refine lv_iinc (v := nI i - nI 1) (lv' := [(5, .int (nI i - nI 1)), (4, .int (oI o0)), (3, .int (nI c0)), (0, .ref (ad 30 0)), (1, .int (nI k)), (2, .int (nI d))]) hx hb dX5_offer_58 hl (k := 0) rfl (nI_dec _) (by decide) rfl (fun ls hl => ?_)
        refine lv_goto (tgt := 13) hx hb dX5_offer_61 (by decide) ?_
        exact ih (i, c0, o0) (show i < i + 1 by omega) _ _ _ ⟨(show i ≤ nC T by omega), (lowD_f hlo (offA_b q39)), hS, lv_sub hl [0, 1, 2, 3, 4, 5] rfl⟩
      · -- F
        refine lv_aload_n hx hb dX5_offer_42 rfl (lv_at hl 3 rfl) ?_
        refine lv_iload hx hb dX5_offer_43 (lv_at hl 0 rfl) ?_
        refine cl_X5_84 hx hb hml hown hK hZ hS hA (c_X5_isTrueNow hN hi) mC_30 rfl hl.1 (Nat.le_of_ble_eq_true rfl) ⟨Nat.le_of_ble_eq_true rfl, Nat.le_of_ble_eq_true rfl⟩ ⟨Nat.zero_le _, Nat.zero_le _⟩ rfl dX5_offer_45 (r_kp (fun H locs hS => ?_))
        refine r_ifb_eq (b := (tru T i)) (tgt := 58) hx hb dX5_offer_48 (by decide) (fun q48 => ?_) (fun q48 => ?_)
        · -- T
          refine lv_iinc (v := nI i - nI 1) (lv' := [(5, .int (nI i - nI 1)), (4, .int (oI o0)), (3, .int (nI c0)), (0, .ref (ad 30 0)), (1, .int (nI k)), (2, .int (nI d))]) hx hb dX5_offer_58 hl (k := 0) rfl (nI_dec _) (by decide) rfl (fun ls hl => ?_)
          refine lv_goto (tgt := 13) hx hb dX5_offer_61 (by decide) ?_
          exact ih (i, c0, o0) (show i < i + 1 by omega) _ _ _ ⟨(show i ≤ nC T by omega), (lowD_f hlo (offA_c q48)), hS, lv_sub hl [0, 1, 2, 3, 4, 5] rfl⟩
        · -- F
          refine lv_iinc (v := nI (c0 + 1)) (lv' := [(3, .int (nI (c0 + 1))), (5, .int (nI i)), (4, .int (oI o0)), (0, .ref (ad 30 0)), (1, .int (nI k)), (2, .int (nI d))]) hx hb dX5_offer_51 hl (k := 2) rfl (nI_inc _) (by decide) rfl (fun ls hl => ?_)
          refine lv_iload hx hb dX5_offer_54 (lv_at hl 1 rfl) ?_
          refine lv_istore (lv' := [(4, .int (nI i)), (3, .int (nI (c0 + 1))), (5, .int (nI i)), (0, .ref (ad 30 0)), (1, .int (nI k)), (2, .int (nI d))]) hx hb dX5_offer_56 hl (by decide) rfl (fun ls hl => ?_)
          refine lv_iinc (v := nI i - nI 1) (lv' := [(5, .int (nI i - nI 1)), (4, .int (nI i)), (3, .int (nI (c0 + 1))), (0, .ref (ad 30 0)), (1, .int (nI k)), (2, .int (nI d))]) hx hb dX5_offer_58 hl (k := 2) rfl (nI_dec _) (by decide) rfl (fun ls hl => ?_)
          refine lv_goto (tgt := 13) hx hb dX5_offer_61 (by decide) ?_
          exact ih (i, c0 + 1, some i) (show i < i + 1 by omega) _ _ _ ⟨(show i ≤ nC T by omega), (lowD_t hlo hi (offA_t q26 q39 q48)), hS, lv_sub hl [0, 1, 2, 3, 4, 5] rfl⟩

theorem prB_a {T : rTab} {d f o : Nat} (h : o = d) : provesBy T d f o = false := by
  unfold provesBy
  rw [decide_eq_false (fun z => z h), Bool.false_and]
theorem prB_b {T : rTab} {d f o : Nat} (h : ¬ T 1 o = T 1 d) : provesBy T d f o = false := by
  unfold provesBy
  rw [decide_eq_false h, Bool.false_and, Bool.and_false]
theorem prB_c {T : rTab} {d f o : Nat} (h : firstOf T o (T 6 f) = none) : provesBy T d f o = false := by
  unfold provesBy
  rw [h]
  show (_ && (_ && false)) = false
  rw [Bool.and_false, Bool.and_false]
theorem prB_s {T : rTab} {d f o x : Nat} (h : firstOf T o (T 6 f) = some x) : provesBy T d f o = (decide (o ≠ d) && (decide (T 1 o = T 1 d) && decide (x < f))) := by
  unfold provesBy
  rw [h]
theorem prB_d {T : rTab} {d f o x : Nat} (h : firstOf T o (T 6 f) = some x) (hx : ¬ x < f) : provesBy T d f o = false := by
  rw [prB_s h, decide_eq_false hx, Bool.and_false, Bool.and_false]
theorem prB_t {T : rTab} {d f o x : Nat} (h1 : ¬ o = d) (h2 : T 1 o = T 1 d) (h : firstOf T o (T 6 f) = some x) (hx : x < f) : provesBy T d f o = true := by
  rw [prB_s h, decide_eq_true hx, decide_eq_true h2, decide_eq_true h1]
  rfl

set_option maxHeartbeats 4000000 in
set_option maxRecDepth 100000 in
theorem c_X5_proofOf {G : rG} {l : Launch} {T : rTab} {th : Int32} {rg : Nat → Int32} {C : rC} {ad : rA} (hN : mNu T) {d : Nat} (hd : d < nD T) : rMet G l yX5_proofOf cX5_proofOf 5 (some .int) (rmP 2) [.ref (ad 30 0), .int (nI d)] (mC G T th rg C ad) ad (rPure (mC G T th rg C ad) ad (.int (oI (proofO T d)))) := by
  refine rMet.of (by decide) ?_
  intro p e s m below meth c hx hb hml hr hlocks hown hname hK hZ hS
  have hown : s.vm.findClass RX5 = some m.cls := hown
  have hA : ∀ q : Nat, s.heap.size ≤ q → (rF (mC G T th rg C ad) ad s.heap.size) q := rF.new
  refine r_entry _ (Nat.le_of_ble_eq_true rfl) (fun ls hl => ?_)
  have hl : lv_has ls 5 [(0, .ref (ad 30 0)), (1, .int (nI d))] := hl
  have hnD := hN.hD
  have hnC := hN.hC
  have hnS := hN.hS
  have hdn := hN.dn hd
  refine lv_iconst (v := nI 0) hx hb dX5_proofOf_0 (by decide) ?_
  refine lv_istore_n (lv' := [(2, .int (nI 0)), (0, .ref (ad 30 0)), (1, .int (nI d))]) hx hb dX5_proofOf_1 rfl hl (by decide) rfl (fun ls hl => ?_)
  refine r_loop (σ := Nat) (fun i => nC T - i) (fun i H locs ls => (i ≤ nC T) ∧ (∀ j, j < i → ¬ T 5 j = d) ∧ rS G.1 (rF (mC G T th rg C ad) ad s.heap.size) s.heap (mC G T th rg C ad) ad H locs ∧ lv_has ls 5 [(2, .int (nI i)), (0, .ref (ad 30 0)), (1, .int (nI d))]) (fun _ => 0) (fun _ => 0) (fun z ih H locs ls hI => ?_) 0 (Nat.zero_le _) (Nat.zero_le _) ⟨Nat.zero_le _, (fun j hj => absurd hj (Nat.not_lt_zero _)), hS, lv_sub hl [0, 1, 2] rfl⟩
  obtain ⟨i, rfl⟩ : ∃ y, y = z := ⟨_, rfl⟩
  obtain ⟨hil, hz, hS, hl⟩ := hI
  try dsimp only at hil hz hS hl ih ⊢
  refine lv_iload_n hx hb dX5_proofOf_2 rfl (lv_at hl 0 rfl) ?_
  refine lv_aload_n hx hb dX5_proofOf_3 rfl (lv_at hl 1 rfl) ?_
  refine gf_X5_63 hx hb hown hK hS mC_30 (v := .int (nI (nC T))) rfl dX5_proofOf_4 ?_
  refine r_icmp_ge (a := i) (b := nC T) (tgt := 26) hx hb (by omega) (by omega) dX5_proofOf_7 (by decide) (fun q7 => ?_) (fun q7 => ?_)
  · -- T
    have hfc : firstCoin T d = none := fstB_none.mpr (fun j hj => decide_eq_false (hz j (by omega)))
    refine lv_iload_n hx hb dX5_proofOf_26 rfl (lv_at hl 0 rfl) ?_
    refine lv_aload_n hx hb dX5_proofOf_27 rfl (lv_at hl 1 rfl) ?_
    refine gf_X5_63 hx hb hown hK hS mC_30 (v := .int (nI (nC T))) rfl dX5_proofOf_28 ?_
    refine r_icmp_eq (a := i) (b := nC T) (tgt := 47) hx hb (by omega) (by omega) dX5_proofOf_31 (by decide) (fun q31 => ?_) (fun q31 => ?_)
    · -- T
      refine lv_iconst (v := (-1)) hx hb dX5_proofOf_47 (by decide) ?_
      exact r_iret hx hb hr hlocks hS (⟨by rw [proofO_n hfc]; rfl, rfl, rfl⟩) (Nat.zero_le _) (Nat.zero_le _) dX5_proofOf_48
    · -- F
      exact absurd (by omega) q31
  · -- F
    have hi : i < nC T := by omega
    have hcn := hN.cn hi
    refine lv_aload_n hx hb dX5_proofOf_10 rfl (lv_at hl 1 rfl) ?_
    refine gf_X5_22 hx hb hown hK hS mC_30 rfl dX5_proofOf_11 ?_
    refine lv_iload_n hx hb dX5_proofOf_14 rfl (lv_at hl 0 rfl) ?_
    refine r_iald hx hb hK.1 hS 0 mC_35 rfl (nI_in0 (by omega) (by omega)) (v := nI (T 5 i)) (tA_at (by omega)) dX5_proofOf_15 ?_
    refine lv_iload_n hx hb dX5_proofOf_16 rfl (lv_at hl 2 rfl) ?_
    refine r_icmp_eq (a := T 5 i) (b := d) (tgt := 26) hx hb (by omega) (by omega) dX5_proofOf_17 (by decide) (fun q17 => ?_) (fun q17 => ?_)
    · -- T
      have hfc : firstCoin T d = some i := fstB_some.mpr ⟨hi, decide_eq_true q17, fun j hj => decide_eq_false (hz j hj)⟩
      refine lv_iload_n hx hb dX5_proofOf_26 rfl (lv_at hl 0 rfl) ?_
      refine lv_aload_n hx hb dX5_proofOf_27 rfl (lv_at hl 1 rfl) ?_
      refine gf_X5_63 hx hb hown hK hS mC_30 (v := .int (nI (nC T))) rfl dX5_proofOf_28 ?_
      refine r_icmp_eq (a := i) (b := nC T) (tgt := 47) hx hb (by omega) (by omega) dX5_proofOf_31 (by decide) (fun q31 => ?_) (fun q31 => ?_)
      · -- T
        exact absurd q31 (by omega)
      · -- F
        refine lv_aload_n hx hb dX5_proofOf_34 rfl (lv_at hl 1 rfl) ?_
        refine gf_X5_25 hx hb hown hK hS mC_30 rfl dX5_proofOf_35 ?_
        refine lv_iload_n hx hb dX5_proofOf_38 rfl (lv_at hl 0 rfl) ?_
        refine r_iald hx hb hK.1 hS 0 mC_36 rfl (nI_in0 (by omega) (by omega)) (v := nI (T 6 i)) (tA_at (by omega)) dX5_proofOf_39 ?_
        refine cl_X5_70 hx hb hml hown hK hZ hS hA (c_X5_count hcn.2.1) rfl hl.1 (Nat.le_of_ble_eq_true rfl) ⟨Nat.le_of_ble_eq_true rfl, Nat.le_of_ble_eq_true rfl⟩ ⟨Nat.zero_le _, Nat.zero_le _⟩ rfl dX5_proofOf_40 (r_kp (fun H locs hS => ?_))
        refine lv_iconst (v := nI 2) hx hb dX5_proofOf_43 (by decide) ?_
        refine r_icmp_ge (a := bitsN (T 6 i)) (b := 2) (tgt := 49) hx hb (by have := bitsN_le (T 6 i); omega) (by omega) dX5_proofOf_44 (by decide) (fun q44 => ?_) (fun q44 => ?_)
        · -- T
          have hpo := proofO_s hfc (by omega)
          refine lv_iconst (v := nI 0) hx hb dX5_proofOf_49 (by decide) ?_
          refine lv_istore_n (lv' := [(3, .int (nI 0)), (2, .int (nI i)), (0, .ref (ad 30 0)), (1, .int (nI d))]) hx hb dX5_proofOf_50 rfl hl (by decide) rfl (fun ls hl => ?_)
          refine r_loop (σ := Nat) (fun o => nD T - o) (fun o H locs ls => (o ≤ nD T) ∧ (∀ x, x < o → provesBy T d i x = false) ∧ rS G.1 (rF (mC G T th rg C ad) ad s.heap.size) s.heap (mC G T th rg C ad) ad H locs ∧ lv_has ls 5 [(3, .int (nI o)), (2, .int (nI i)), (0, .ref (ad 30 0)), (1, .int (nI d))]) (fun _ => 0) (fun _ => 0) (fun z ih2 H locs ls hI => ?_) 0 (Nat.zero_le _) (Nat.zero_le _) ⟨Nat.zero_le _, (fun j hj => absurd hj (Nat.not_lt_zero _)), hS, lv_sub hl [0, 1, 2, 3] rfl⟩
          obtain ⟨o, rfl⟩ : ∃ y, y = z := ⟨_, rfl⟩
          obtain ⟨hol, hz2, hS, hl⟩ := hI
          try dsimp only at hol hz2 hS hl ih2 ⊢
          refine lv_iload_n hx hb dX5_proofOf_51 rfl (lv_at hl 0 rfl) ?_
          refine lv_aload_n hx hb dX5_proofOf_52 rfl (lv_at hl 2 rfl) ?_
          refine gf_X5_56 hx hb hown hK hS mC_30 (v := .int (nI (nD T))) rfl dX5_proofOf_53 ?_
          refine r_icmp_ge (a := o) (b := nD T) (tgt := 112) hx hb (by omega) (by omega) dX5_proofOf_56 (by decide) (fun q56 => ?_) (fun q56 => ?_)
          · -- T
            have hpn : proofO T d = none := hpo.trans (fstB_none.mpr (fun j hj => hz2 j (by omega)))
            refine lv_iconst (v := (-1)) hx hb dX5_proofOf_112 (by decide) ?_
            exact r_iret hx hb hr hlocks hS (⟨by rw [hpn]; rfl, rfl, rfl⟩) (Nat.zero_le _) (Nat.zero_le _) dX5_proofOf_113
          · -- F
            have ho : o < nD T := by omega
            have hon := hN.dn ho
            refine lv_aload_n hx hb dX5_proofOf_59 rfl (lv_at hl 2 rfl) ?_
            refine lv_iload_n hx hb dX5_proofOf_60 rfl (lv_at hl 0 rfl) ?_
            refine lv_aload_n hx hb dX5_proofOf_61 rfl (lv_at hl 2 rfl) ?_
            refine gf_X5_25 hx hb hown hK hS mC_30 rfl dX5_proofOf_62 ?_
            refine lv_iload_n hx hb dX5_proofOf_65 rfl (lv_at hl 1 rfl) ?_
            refine r_iald hx hb hK.1 hS 0 mC_36 rfl (nI_in0 (by omega) (by omega)) (v := nI (T 6 i)) (tA_at (by omega)) dX5_proofOf_66 ?_
            refine cl_X5_77 hx hb hml hown hK hZ hS hA (c_X5_firstOf hN (show o < 2 ^ 31 by omega) (show T 6 i < 2 ^ 31 by omega)) mC_30 rfl hl.1 (Nat.le_of_ble_eq_true rfl) ⟨Nat.le_of_ble_eq_true rfl, Nat.le_of_ble_eq_true rfl⟩ ⟨Nat.zero_le _, Nat.zero_le _⟩ rfl dX5_proofOf_67 (r_kp (fun H locs hS => ?_))
            refine lv_istore (lv' := [(4, .int (oI (firstOf T o (T 6 i)))), (3, .int (nI o)), (2, .int (nI i)), (0, .ref (ad 30 0)), (1, .int (nI d))]) hx hb dX5_proofOf_70 hl (by decide) rfl (fun ls hl => ?_)
            refine lv_iload_n hx hb dX5_proofOf_72 rfl (lv_at hl 1 rfl) ?_
            refine lv_iload_n hx hb dX5_proofOf_73 rfl (lv_at hl 4 rfl) ?_
            refine r_icmp_eq (a := o) (b := d) (tgt := 106) hx hb (by omega) (by omega) dX5_proofOf_74 (by decide) (fun q74 => ?_) (fun q74 => ?_)
            · -- T
              refine lv_iinc (v := nI (o + 1)) (lv' := [(3, .int (nI (o + 1))), (4, .int (oI (firstOf T o (T 6 i)))), (2, .int (nI i)), (0, .ref (ad 30 0)), (1, .int (nI d))]) hx hb dX5_proofOf_106 hl (k := 1) rfl (nI_inc _) (by decide) rfl (fun ls hl => ?_)
              refine lv_goto (tgt := 51) hx hb dX5_proofOf_109 (by decide) ?_
              exact ih2 (o + 1) (show nD T - (o + 1) < nD T - o by omega) _ _ _ ⟨(show o + 1 ≤ nD T by omega), (lt_ext hz2 (prB_a q74)), hS, lv_sub hl [0, 2, 3, 4] rfl⟩
            · -- F
              refine lv_aload_n hx hb dX5_proofOf_77 rfl (lv_at hl 3 rfl) ?_
              refine gf_X5_7 hx hb hown hK hS mC_30 rfl dX5_proofOf_78 ?_
              refine lv_iload_n hx hb dX5_proofOf_81 rfl (lv_at hl 1 rfl) ?_
              refine r_iald hx hb hK.1 hS 0 mC_31 rfl (nI_in0 (by omega) (by omega)) (v := nI (T 1 o)) (tA_at (by omega)) dX5_proofOf_82 ?_
              refine lv_aload_n hx hb dX5_proofOf_83 rfl (lv_at hl 3 rfl) ?_
              refine gf_X5_7 hx hb hown hK hS mC_30 rfl dX5_proofOf_84 ?_
              refine lv_iload_n hx hb dX5_proofOf_87 rfl (lv_at hl 4 rfl) ?_
              refine r_iald hx hb hK.1 hS 0 mC_31 rfl (nI_in0 (by omega) (by omega)) (v := nI (T 1 d)) (tA_at (by omega)) dX5_proofOf_88 ?_
              refine r_icmp_ne (a := T 1 o) (b := T 1 d) (tgt := 106) hx hb (by omega) (by omega) dX5_proofOf_89 (by decide) (fun q89 => ?_) (fun q89 => ?_)
              · -- T
                refine lv_iinc (v := nI (o + 1)) (lv' := [(3, .int (nI (o + 1))), (4, .int (oI (firstOf T o (T 6 i)))), (2, .int (nI i)), (0, .ref (ad 30 0)), (1, .int (nI d))]) hx hb dX5_proofOf_106 hl (k := 1) rfl (nI_inc _) (by decide) rfl (fun ls hl => ?_)
                refine lv_goto (tgt := 51) hx hb dX5_proofOf_109 (by decide) ?_
                exact ih2 (o + 1) (show nD T - (o + 1) < nD T - o by omega) _ _ _ ⟨(show o + 1 ≤ nD T by omega), (lt_ext hz2 (prB_b q89)), hS, lv_sub hl [0, 2, 3, 4] rfl⟩
              · -- F
                refine lv_iload hx hb dX5_proofOf_92 (lv_at hl 0 rfl) ?_
                refine lv_iconst (v := (-1)) hx hb dX5_proofOf_94 (by decide) ?_
                refine r_oeq (tgt := 106) hx hb (fo_bd hnC) dX5_proofOf_95 (by decide) (fun q95 => ?_) (fun x95 q95 => ?_)
                · -- T
                  refine lv_iinc (v := nI (o + 1)) (lv' := [(3, .int (nI (o + 1))), (4, .int (oI (firstOf T o (T 6 i)))), (2, .int (nI i)), (0, .ref (ad 30 0)), (1, .int (nI d))]) hx hb dX5_proofOf_106 hl (k := 1) rfl (nI_inc _) (by decide) rfl (fun ls hl => ?_)
                  refine lv_goto (tgt := 51) hx hb dX5_proofOf_109 (by decide) ?_
                  exact ih2 (o + 1) (show nD T - (o + 1) < nD T - o by omega) _ _ _ ⟨(show o + 1 ≤ nD T by omega), (lt_ext hz2 (prB_c q95)), hS, lv_sub hl [0, 2, 3, 4] rfl⟩
                · -- F
                  have hxi : x95 < nC T := (fstB_some.mp q95).1
                  rw [q95, oI_s] at hl
                  refine lv_iload hx hb dX5_proofOf_98 (lv_at hl 0 rfl) ?_
                  refine lv_iload_n hx hb dX5_proofOf_100 rfl (lv_at hl 2 rfl) ?_
                  refine r_icmp_ge (a := x95) (b := i) (tgt := 106) hx hb (by omega) (by omega) dX5_proofOf_101 (by decide) (fun q101 => ?_) (fun q101 => ?_)
                  · -- T
                    refine lv_iinc (v := nI (o + 1)) (lv' := [(3, .int (nI (o + 1))), (4, .int (nI x95)), (2, .int (nI i)), (0, .ref (ad 30 0)), (1, .int (nI d))]) hx hb dX5_proofOf_106 hl (k := 1) rfl (nI_inc _) (by decide) rfl (fun ls hl => ?_)
                    refine lv_goto (tgt := 51) hx hb dX5_proofOf_109 (by decide) ?_
                    exact ih2 (o + 1) (show nD T - (o + 1) < nD T - o by omega) _ _ _ ⟨(show o + 1 ≤ nD T by omega), (lt_ext hz2 (prB_d q95 (by omega))), hS, lv_sub hl [0, 2, 3, 4] rfl⟩
                  · -- F
                    refine lv_iload_n hx hb dX5_proofOf_104 rfl (lv_at hl 1 rfl) ?_
                    exact r_iret hx hb hr hlocks hS (⟨by rw [show proofO T d = some o from hpo.trans (fstB_some.mpr ⟨ho, prB_t q74 q89 q95 q101, hz2⟩)]; rfl, rfl, rfl⟩) (Nat.zero_le _) (Nat.zero_le _) dX5_proofOf_105
        · -- F
          have hpo := proofO_b hfc (by omega)
          refine lv_iconst (v := (-1)) hx hb dX5_proofOf_47 (by decide) ?_
          exact r_iret hx hb hr hlocks hS (⟨by rw [hpo]; rfl, rfl, rfl⟩) (Nat.zero_le _) (Nat.zero_le _) dX5_proofOf_48
    · -- F
      refine lv_iinc (v := nI (i + 1)) (lv' := [(2, .int (nI (i + 1))), (0, .ref (ad 30 0)), (1, .int (nI d))]) hx hb dX5_proofOf_20 hl (k := 0) rfl (nI_inc _) (by decide) rfl (fun ls hl => ?_)
      refine lv_goto (tgt := 2) hx hb dX5_proofOf_23 (by decide) ?_
      exact ih (i + 1) (show nC T - (i + 1) < nC T - i by omega) _ _ _ ⟨(show i + 1 ≤ nC T by omega), (lt_ext hz q17), hS, lv_sub hl [0, 1, 2] rfl⟩

