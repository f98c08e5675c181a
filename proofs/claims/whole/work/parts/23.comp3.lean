/-! rings read, sums of bits, dies and coins by number, proofs (printed by wip/whole/gen/comp3.py) -/
theorem dm1 {a : Nat} (ha : a ≤ 4) : nI a - nI 1 < 0 ↔ a = 0 := by
  rw [Int32.lt_iff_toInt_lt, pk_sub_toInt (by omega) (by omega)]
  show _ < (0 : Int) ↔ _
  omega
theorem dm2 {a : Nat} (ha : a ≤ 4) : nI 1 ≤ nI a - nI 1 ↔ 2 ≤ a := by
  rw [Int32.le_iff_toInt_le, pk_sub_toInt (by omega) (by omega)]
  show (1 : Int) ≤ _ ↔ _
  omega
theorem dm3 {a : Nat} (ha : a ≤ 4) : nI a - nI 1 ≥ 0 ↔ 1 ≤ a := by
  show (0 : Int32) ≤ _ ↔ _
  rw [Int32.le_iff_toInt_le, pk_sub_toInt (by omega) (by omega)]
  show (0 : Int) ≤ _ ↔ _
  omega
theorem mayJ_0 {T : rTab} {xs ys : List Nat} {k : Nat} (h : xs.length = 0) : mayJ T xs ys k = true := by
  unfold mayJ
  rw [List.length_eq_zero_iff.mp h]
  rfl
theorem mayJ_a {T : rTab} {xs ys : List Nat} {k c0 : Nat} (h : xs[0]? = some c0) (h2 : k ≤ c0 ∨ k ∈ xs) : mayJ T xs ys k = false := by
  unfold mayJ
  rw [h]
  exact if_pos h2
theorem mayJ_b {T : rTab} {xs ys : List Nat} {k c0 g : Nat} (h : xs[0]? = some c0) (h2 : ¬ (k ≤ c0 ∨ k ∈ xs)) (h3 : ys[xs.length - 1]? = some g) : mayJ T xs ys k = wantB T k (T 5 g) := by
  unfold mayJ
  rw [h]
  show (if _ then _ else _) = _
  rw [if_neg h2, h3]
theorem pleaB_0 {T : rTab} {xs ys : List Nat} {k j : Nat} (h : xs.length = 0) : pleaB T xs ys k j = true := if_pos h
theorem pleaB_g {T : rTab} {xs ys : List Nat} {k j g : Nat} (h : ¬ xs.length = 0) (h3 : ys[xs.length - 1]? = some g) : pleaB T xs ys k j = fairB T k g j := by
  unfold pleaB
  rw [if_neg h, h3]
theorem closB_0 {T : rTab} {xs ys : List Nat} (h : xs.length < 2) : closB T xs ys = false := if_pos h
theorem closB_g {T : rTab} {xs ys : List Nat} {c0 g g0 : Nat} (h : ¬ xs.length < 2) (h1 : xs[0]? = some c0) (h2 : ys[xs.length - 1]? = some g) (h3 : ys[0]? = some g0) : closB T xs ys = (wantB T c0 (T 5 g) && fairB T c0 g g0) := by
  unfold closB
  rw [if_neg h, h1, h2, h3]
def falsB (T : rTab) (ys : List Nat) : Bool := ys.any (fun j => !tru T j)
theorem falsB_t {T : rTab} {ys : List Nat} {i y : Nat} (h : ys[i]? = some y) (ht : tru T y = false) : falsB T ys = true := List.any_eq_true.mpr ⟨y, List.mem_of_getElem? h, by rw [ht]; rfl⟩
theorem falsB_f {T : rTab} {ys : List Nat} (h : ∀ x y, x < ys.length → ys[x]? = some y → tru T y = true) : falsB T ys = false := by
  refine List.any_eq_false.mpr fun y hy => ?_
  obtain ⟨x, hx⟩ := List.mem_iff_getElem?.mp hy
  rw [h x y (List.getElem?_eq_some_iff.mp hx).1 hx]
  exact Bool.false_ne_true
def tellO (xs ys : List Nat) (a : Int32) : Option Nat := match ixO a xs.length with
  | none => none
  | some x => match xs[x]?, ys[x]? with
    | some c, some g => some (1000 * c + g)
    | _, _ => none
theorem tellO_n {xs ys : List Nat} {a : Int32} (h : ixO a xs.length = none) : tellO xs ys a = none := by
  unfold tellO
  rw [h]
theorem tellO_s {xs ys : List Nat} {a : Int32} {x c g : Nat} (h : ixO a xs.length = some x) (h1 : xs[x]? = some c) (h2 : ys[x]? = some g) : tellO xs ys a = some (1000 * c + g) := by
  unfold tellO
  rw [h]
  show (match xs[x]?, ys[x]? with | some c, some g => some (1000 * c + g) | _, _ => none) = _
  rw [h1, h2]
theorem proofO_n {T : rTab} {d : Nat} (h : firstCoin T d = none) : proofO T d = none := by
  unfold proofO
  rw [h]
theorem proofO_b {T : rTab} {d f : Nat} (h : firstCoin T d = some f) (hb : bitsN (T 6 f) < 2) : proofO T d = none := by
  unfold proofO
  rw [h]
  exact if_pos hb
theorem proofO_s {T : rTab} {d f : Nat} (h : firstCoin T d = some f) (hb : ¬ bitsN (T 6 f) < 2) : proofO T d = fstB (provesBy T d f) (nD T) := by
  unfold proofO
  rw [h]
  exact if_neg hb
theorem pB_1 {T : rTab} {d f o : Nat} (h : o = d) : provesBy T d f o = false := by
  unfold provesBy
  rw [decide_eq_false (fun z => z h)]
  rfl
theorem pB_2 {T : rTab} {d f o : Nat} (h : ¬ T 1 o = T 1 d) : provesBy T d f o = false := by
  unfold provesBy
  rw [decide_eq_false h, Bool.false_and, Bool.and_false]
theorem pB_3 {T : rTab} {d f o : Nat} (h : firstOf T o (T 6 f) = none) : provesBy T d f o = false := by
  unfold provesBy
  rw [h, Bool.and_false, Bool.and_false]
theorem pB_4 {T : rTab} {d f o m : Nat} (h : firstOf T o (T 6 f) = some m) (hm : f ≤ m) : provesBy T d f o = false := by
  unfold provesBy
  rw [h]
  show (_ && (_ && decide (m < f))) = _
  rw [show decide (m < f) = false from decide_eq_false (by omega), Bool.and_false, Bool.and_false]
theorem pB_5 {T : rTab} {d f o m : Nat} (h1 : ¬ o = d) (h2 : T 1 o = T 1 d) (h : firstOf T o (T 6 f) = some m) (hm : m < f) : provesBy T d f o = true := by
  unfold provesBy
  rw [h]
  show (_ && (_ && decide (m < f))) = _
  rw [decide_eq_true hm, decide_eq_true h1, decide_eq_true h2]
  rfl
def prI (T : rTab) (d : Nat) : Int32 := match proofO T d with
  | none => -1
  | some o => nI o
theorem prI_n {T : rTab} {d : Nat} (h : proofO T d = none) : prI T d = -1 := by
  unfold prI
  rw [h]
theorem prI_s {T : rTab} {d o : Nat} (h : proofO T d = some o) : prI T d = nI o := by
  unfold prI
  rw [h]
def rIs (P : Value → Prop) (C : rC) (ad : rA) : Option Value → rC → rA → Prop := rRet fun r C' ad' => P r ∧ C = C' ∧ ad = ad'
def xIs (P : String → Prop) (C : rC) (ad : rA) : String → rC → rA → Prop := fun E C' ad' => P E ∧ C = C' ∧ ad = ad'
def eIOB : String := "java/lang/IndexOutOfBoundsException"
def eISE : String := "java/lang/IllegalStateException"
def eIAE : String := "java/lang/IllegalArgumentException"

set_option maxHeartbeats 4000000 in
set_option maxRecDepth 100000 in
theorem c_X3_length {G : rG} {l : Launch} {T : rTab} {L : rL} {C : rC} {ad : rA} (hI : cInv G T L C ad) {q : Nat} (hq : q ≤ nS T) : rMet G l yX3_length cX3_length 1 (some .int) (rmP 2) [.ref (ad 6 q)] C ad (rPure C ad (.int (nI (L.1 16 q).length))) := by
  refine rMet.of (by decide) ?_
  intro p e s m below meth c hx hb hml hr hlocks hown hname hK hZ hS
  have hown : s.vm.findClass RX3 = some m.cls := hown
  have hA : ∀ q : Nat, s.heap.size ≤ q → (rF C ad s.heap.size) q := rF.new
  refine r_entry _ (Nat.le_of_ble_eq_true rfl) (fun ls hl => ?_)
  have hl : lv_has ls 1 [(0, .ref (ad 6 q))] := hl
  refine lv_aload_n hx hb dX3_length_0 rfl (lv_at hl 0 rfl) ?_
  refine gf_X3_12 hx hb hown hK hS (hI.ring hq) rfl dX3_length_1 ?_
  refine cl_X3_21 hx hb hml hown hK hZ hS hA (l_size (hI.givers hq)) ((hI.givers hq).1) rfl hl.1 (Nat.le_of_ble_eq_true rfl) ⟨Nat.le_of_ble_eq_true rfl, Nat.le_of_ble_eq_true rfl⟩ ⟨Nat.zero_le _, Nat.zero_le _⟩ rfl dX3_length_4 (r_kp (fun H locs hS => ?_))
  refine lv_aload_n hx hb dX3_length_7 rfl (lv_at hl 0 rfl) ?_
  refine gf_X3_18 hx hb hown hK hS (hI.ring hq) rfl dX3_length_8 ?_
  refine cl_X3_21 hx hb hml hown hK hZ hS hA (l_size (hI.gifts hq)) ((hI.gifts hq).1) rfl hl.1 (Nat.le_of_ble_eq_true rfl) ⟨Nat.le_of_ble_eq_true rfl, Nat.le_of_ble_eq_true rfl⟩ ⟨Nat.zero_le _, Nat.zero_le _⟩ rfl dX3_length_11 (r_kp (fun H locs hS => ?_))
  refine r_top (y := nI ((L.1 16 q).length)) (by rw [← (hI.hrg hq).2.2.1]) ?_
  refine mx_X3_25 hx hb hown hK (by rw [hml]; exact hl.1.symm) (Nat.le_of_ble_eq_true rfl) (Nat.le_of_ble_eq_true rfl) (Nat.zero_le _) (Nat.zero_le _) dX3_length_14 ?_
  refine r_top (y := nI (L.1 16 q).length) mn0 ?_
  exact r_iret hx hb hr hlocks hS (⟨rfl, rfl, rfl⟩) (Nat.zero_le _) (Nat.zero_le _) dX3_length_17

set_option maxHeartbeats 4000000 in
set_option maxRecDepth 100000 in
theorem c_X3_mayBeJoinedBy {G : rG} {l : Launch} {T : rTab} {L : rL} {C : rC} {ad : rA} (hI : cInv G T L C ad) {q : Nat} (hq : q ≤ nS T) {k : Nat} (hk : k < 8) : rMet G l yX3_mayBeJoinedBy cX3_mayBeJoinedBy 4 (some .boolean) (rmP 4) [.ref (ad 6 q), .ref (ad 5 k)] C ad (rPure C ad (.int (bI (mayJ T (L.1 16 q) (L.1 17 q) k)))) := by
  refine rMet.of (by decide) ?_
  intro p e s m below meth c hx hb hml hr hlocks hown hname hK hZ hS
  have hown : s.vm.findClass RX3 = some m.cls := hown
  have hA : ∀ q : Nat, s.heap.size ≤ q → (rF C ad s.heap.size) q := rF.new
  refine r_entry _ (Nat.le_of_ble_eq_true rfl) (fun ls hl => ?_)
  have hl : lv_has ls 4 [(0, .ref (ad 6 q)), (1, .ref (ad 5 k))] := hl
  have hlen : (L.1 16 q).length ≤ 4 := (hI.hrg hq).2.2.2.1
  refine lv_aload_n hx hb dX3_mayBeJoinedBy_0 rfl (lv_at hl 0 rfl) ?_
  refine cl_X3_38 hx hb hml hown hK hZ hS hA (c_X3_length hI hq) (hI.ring hq) rfl hl.1 (Nat.le_of_ble_eq_true rfl) ⟨Nat.le_of_ble_eq_true rfl, Nat.le_of_ble_eq_true rfl⟩ ⟨Nat.zero_le _, Nat.zero_le _⟩ rfl dX3_mayBeJoinedBy_1 (r_kp (fun H locs hS => ?_))
  refine lv_istore_n (lv' := [(2, .int (nI (L.1 16 q).length)), (0, .ref (ad 6 q)), (1, .ref (ad 5 k))]) hx hb dX3_mayBeJoinedBy_4 rfl hl (by decide) rfl (fun ls hl => ?_)
  refine lv_iload_n hx hb dX3_mayBeJoinedBy_5 rfl (lv_at hl 0 rfl) ?_
  refine r_if_ne (a := (L.1 16 q).length) (tgt := 11) hx hb (by omega) dX3_mayBeJoinedBy_6 (by decide) (fun q6 => ?_) (fun q6 => ?_)
  · -- T
    obtain ⟨c0, hc0x, hc0⟩ := hI.gvAt hq (Nat.pos_of_ne_zero q6)
    refine lv_aload_n hx hb dX3_mayBeJoinedBy_11 rfl (lv_at hl 2 rfl) ?_
    refine gf_X3_45 hx hb hown hK hS (hI.col hk) rfl dX3_mayBeJoinedBy_12 ?_
    refine lv_aload_n hx hb dX3_mayBeJoinedBy_15 rfl (lv_at hl 1 rfl) ?_
    refine gf_X3_12 hx hb hown hK hS (hI.ring hq) rfl dX3_mayBeJoinedBy_16 ?_
    refine lv_iconst (v := nI 0) hx hb dX3_mayBeJoinedBy_19 (by decide) ?_
    refine cl_X3_51 hx hb hml hown hK hZ hS hA (l_get (hI.givers hq) hc0x) ((hI.givers hq).1) rfl hl.1 (Nat.le_of_ble_eq_true rfl) ⟨Nat.le_of_ble_eq_true rfl, Nat.le_of_ble_eq_true rfl⟩ ⟨Nat.zero_le _, Nat.zero_le _⟩ rfl dX3_mayBeJoinedBy_20 (r_kp (fun H locs hS => ?_))
    refine ck_X3_46 hx hb hown hK hS (hI.col hc0) dX3_mayBeJoinedBy_23 ?_
    refine gf_X3_45 hx hb hown hK hS (hI.col hc0) rfl dX3_mayBeJoinedBy_26 ?_
    refine r_icmp_gt (a := k) (b := c0) (tgt := 34) hx hb (by omega) (by omega) dX3_mayBeJoinedBy_29 (by decide) (fun q29 => ?_) (fun q29 => ?_)
    · -- T
      refine lv_iconst (v := nI 1) hx hb dX3_mayBeJoinedBy_34 (by decide) ?_
      refine lv_istore_n (lv' := [(3, .int (nI 1)), (2, .int (nI (L.1 16 q).length)), (0, .ref (ad 6 q)), (1, .ref (ad 5 k))]) hx hb dX3_mayBeJoinedBy_35 rfl hl (by decide) rfl (fun ls hl => ?_)
      refine r_loop (σ := Nat) (fun i => (L.1 16 q).length - i) (fun i H locs ls => (1 ≤ i) ∧ (i ≤ (L.1 16 q).length) ∧ (∀ x y, x < i → (L.1 16 q)[x]? = some y → y ≠ k) ∧ rS G.1 (rF C ad s.heap.size) s.heap C ad H locs ∧ lv_has ls 4 [(3, .int (nI i)), (2, .int (nI (L.1 16 q).length)), (0, .ref (ad 6 q)), (1, .ref (ad 5 k))]) (fun _ => 0) (fun _ => 0) (fun z ih H locs ls hI => ?_) 1 (Nat.zero_le _) (Nat.zero_le _) ⟨Nat.le_refl _, (show 1 ≤ (L.1 16 q).length by omega), (fun x y hx hxy e => by
            obtain rfl : x = 0 := by omega
            rw [hc0x] at hxy
            cases hxy
            omega), hS, lv_sub hl [0, 1, 2, 3] rfl⟩
      obtain ⟨i, rfl⟩ : ∃ y, y = z := ⟨_, rfl⟩
      obtain ⟨hi1, hil, hz, hS, hl⟩ := hI
      try dsimp only at hi1 hil hz hS hl ih ⊢
      refine lv_iload_n hx hb dX3_mayBeJoinedBy_36 rfl (lv_at hl 0 rfl) ?_
      refine lv_iload_n hx hb dX3_mayBeJoinedBy_37 rfl (lv_at hl 1 rfl) ?_
      refine r_icmp_ge (a := i) (b := (L.1 16 q).length) (tgt := 61) hx hb (by omega) (by omega) dX3_mayBeJoinedBy_38 (by decide) (fun q38 => ?_) (fun q38 => ?_)
      · -- T
        have hie : i = (L.1 16 q).length := by omega
        have hmem : ¬ (k ≤ c0 ∨ k ∈ L.1 16 q) := fun z => z.elim (fun z => by omega) (fun z => by
          obtain ⟨x, hx⟩ := List.mem_iff_getElem?.mp z
          exact hz x k (by have := (List.getElem?_eq_some_iff.mp hx).1; omega) hx rfl)
        obtain ⟨g, hg, hgC⟩ := hI.gfAt hq (show (L.1 16 q).length - 1 < (L.1 16 q).length by omega)
        refine lv_aload_n hx hb dX3_mayBeJoinedBy_61 rfl (lv_at hl 3 rfl) ?_
        refine lv_aload_n hx hb dX3_mayBeJoinedBy_62 rfl (lv_at hl 2 rfl) ?_
        refine gf_X3_18 hx hb hown hK hS (hI.ring hq) rfl dX3_mayBeJoinedBy_63 ?_
        refine lv_iload_n hx hb dX3_mayBeJoinedBy_66 rfl (lv_at hl 1 rfl) ?_
        refine lv_iconst (v := nI 1) hx hb dX3_mayBeJoinedBy_67 (by decide) ?_
        refine lv_isub hx hb dX3_mayBeJoinedBy_68 ?_
        refine r_top (y := nI ((L.1 16 q).length - 1)) (pk_sub (by omega)) ?_
        refine cl_X3_51 hx hb hml hown hK hZ hS hA (l_get (hI.gifts hq) hg) ((hI.gifts hq).1) rfl hl.1 (Nat.le_of_ble_eq_true rfl) ⟨Nat.le_of_ble_eq_true rfl, Nat.le_of_ble_eq_true rfl⟩ ⟨Nat.zero_le _, Nat.zero_le _⟩ rfl dX3_mayBeJoinedBy_69 (r_kp (fun H locs hS => ?_))
        refine ck_X3_54 hx hb hown hK hS (hI.coin hgC) dX3_mayBeJoinedBy_72 ?_
        refine gf_X3_56 hx hb hown hK hS (hI.coin hgC) rfl dX3_mayBeJoinedBy_75 ?_
        refine cl_X3_60 hx hb hml hown hK hZ hS hA (c_X1_isAfter hI hk (hI.odie hgC)) (hI.col hk) rfl hl.1 (Nat.le_of_ble_eq_true rfl) ⟨Nat.le_of_ble_eq_true rfl, Nat.le_of_ble_eq_true rfl⟩ ⟨Nat.zero_le _, Nat.zero_le _⟩ rfl dX3_mayBeJoinedBy_78 (r_kp (fun H locs hS => ?_))
        exact r_zret hx hb hr hlocks hS (bI_z _) (⟨by rw [mayJ_b hc0x hmem hg], rfl, rfl⟩) (Nat.zero_le _) (Nat.zero_le _) dX3_mayBeJoinedBy_81
      · -- F
        obtain ⟨c, hcx, hc8⟩ := hI.gvAt hq q38
        refine lv_aload_n hx hb dX3_mayBeJoinedBy_41 rfl (lv_at hl 2 rfl) ?_
        refine gf_X3_12 hx hb hown hK hS (hI.ring hq) rfl dX3_mayBeJoinedBy_42 ?_
        refine lv_iload_n hx hb dX3_mayBeJoinedBy_45 rfl (lv_at hl 0 rfl) ?_
        refine cl_X3_51 hx hb hml hown hK hZ hS hA (l_get (hI.givers hq) hcx) ((hI.givers hq).1) rfl hl.1 (Nat.le_of_ble_eq_true rfl) ⟨Nat.le_of_ble_eq_true rfl, Nat.le_of_ble_eq_true rfl⟩ ⟨Nat.zero_le _, Nat.zero_le _⟩ rfl dX3_mayBeJoinedBy_46 (r_kp (fun H locs hS => ?_))
        refine lv_aload_n hx hb dX3_mayBeJoinedBy_49 rfl (lv_at hl 3 rfl) ?_
        refine r_acmp_ne (tgt := 55) hx hb dX3_mayBeJoinedBy_50 (by decide) (fun q50 => ?_) (fun q50 => ?_)
        · -- T
          have q50 : c ≠ k := fun e => q50 (by rw [e])
          refine lv_iinc (v := nI (i + 1)) (lv' := [(3, .int (nI (i + 1))), (2, .int (nI (L.1 16 q).length)), (0, .ref (ad 6 q)), (1, .ref (ad 5 k))]) hx hb dX3_mayBeJoinedBy_55 hl (k := 0) rfl (nI_inc _) (by decide) rfl (fun ls hl => ?_)
          refine lv_goto (tgt := 36) hx hb dX3_mayBeJoinedBy_58 (by decide) ?_
          exact ih (i + 1) (by omega) _ _ _ ⟨(show 1 ≤ i + 1 by omega), (show i + 1 ≤ (L.1 16 q).length by omega), (fun x y hx hxy => by
                  by_cases e : x = i
                  · rw [e, hcx] at hxy
                    cases hxy
                    exact q50
                  · exact hz x y (by omega) hxy), hS, lv_sub hl [0, 1, 2, 3] rfl⟩
        · -- F
          have q50 : c = k := hI.inj5 hS hc8 hk q50
          refine lv_iconst (v := nI 0) hx hb dX3_mayBeJoinedBy_53 (by decide) ?_
          exact r_zret hx hb hr hlocks hS rfl (⟨by rw [mayJ_a hc0x (Or.inr (by rw [← q50]; exact List.mem_of_getElem? hcx))]; rfl, rfl, rfl⟩) (Nat.zero_le _) (Nat.zero_le _) dX3_mayBeJoinedBy_54
    · -- F
      refine lv_iconst (v := nI 0) hx hb dX3_mayBeJoinedBy_32 (by decide) ?_
      exact r_zret hx hb hr hlocks hS rfl (⟨by rw [mayJ_a hc0x (Or.inl (by omega))]; rfl, rfl, rfl⟩) (Nat.zero_le _) (Nat.zero_le _) dX3_mayBeJoinedBy_33
  · -- F
    refine lv_iconst (v := nI 1) hx hb dX3_mayBeJoinedBy_9 (by decide) ?_
    exact r_zret hx hb hr hlocks hS rfl (⟨by rw [mayJ_0 q6]; rfl, rfl, rfl⟩) (Nat.zero_le _) (Nat.zero_le _) dX3_mayBeJoinedBy_10

set_option maxHeartbeats 4000000 in
set_option maxRecDepth 100000 in
theorem c_X3_pleases {G : rG} {l : Launch} {T : rTab} {L : rL} {C : rC} {ad : rA} (hI : cInv G T L C ad) {q : Nat} (hq : q ≤ nS T) {k : Nat} (hk : k < 8) {j : Nat} (hj : j < nC T) : rMet G l yX3_pleases cX3_pleases 4 (some .boolean) (rmP 5) [.ref (ad 6 q), .ref (ad 5 k), .ref (ad 4 j)] C ad (rPure C ad (.int (bI (pleaB T (L.1 16 q) (L.1 17 q) k j)))) := by
  refine rMet.of (by decide) ?_
  intro p e s m below meth c hx hb hml hr hlocks hown hname hK hZ hS
  have hown : s.vm.findClass RX3 = some m.cls := hown
  have hA : ∀ q : Nat, s.heap.size ≤ q → (rF C ad s.heap.size) q := rF.new
  refine r_entry _ (Nat.le_of_ble_eq_true rfl) (fun ls hl => ?_)
  have hl : lv_has ls 4 [(0, .ref (ad 6 q)), (1, .ref (ad 5 k)), (2, .ref (ad 4 j))] := hl
  have hlen : (L.1 16 q).length ≤ 4 := (hI.hrg hq).2.2.2.1
  refine lv_aload_n hx hb dX3_pleases_0 rfl (lv_at hl 0 rfl) ?_
  refine cl_X3_38 hx hb hml hown hK hZ hS hA (c_X3_length hI hq) (hI.ring hq) rfl hl.1 (Nat.le_of_ble_eq_true rfl) ⟨Nat.le_of_ble_eq_true rfl, Nat.le_of_ble_eq_true rfl⟩ ⟨Nat.zero_le _, Nat.zero_le _⟩ rfl dX3_pleases_1 (r_kp (fun H locs hS => ?_))
  refine lv_iconst (v := nI 1) hx hb dX3_pleases_4 (by decide) ?_
  refine lv_isub hx hb dX3_pleases_5 ?_
  refine lv_istore_n (lv' := [(3, .int ((nI (L.1 16 q).length) - (nI 1))), (0, .ref (ad 6 q)), (1, .ref (ad 5 k)), (2, .ref (ad 4 j))]) hx hb dX3_pleases_6 rfl hl (by decide) rfl (fun ls hl => ?_)
  refine lv_iload_n hx hb dX3_pleases_7 rfl (lv_at hl 0 rfl) ?_
  refine lv_if_lt (tgt := 30) hx hb dX3_pleases_8 (by decide) (fun q8 => ?_) (fun q8 => ?_)
  · -- T
    have h0 := (dm1 hlen).mp q8
    refine lv_iconst (v := nI 1) hx hb dX3_pleases_30 (by decide) ?_
    refine lv_goto (tgt := 35) hx hb dX3_pleases_31 (by decide) ?_
    exact r_zret hx hb hr hlocks hS rfl (⟨by rw [pleaB_0 h0]; rfl, rfl, rfl⟩) (Nat.zero_le _) (Nat.zero_le _) dX3_pleases_35
  · -- F
    have h0 : ¬ (L.1 16 q).length = 0 := fun z => q8 ((dm1 hlen).mpr z)
    obtain ⟨g, hg, hgC⟩ := hI.gfAt hq (show (L.1 16 q).length - 1 < (L.1 16 q).length by omega)
    rw [show nI (L.1 16 q).length - nI 1 = nI ((L.1 16 q).length - 1) by rw [pk_sub (by omega)]] at hl
    refine lv_aload_n hx hb dX3_pleases_11 rfl (lv_at hl 2 rfl) ?_
    refine lv_aload_n hx hb dX3_pleases_12 rfl (lv_at hl 1 rfl) ?_
    refine gf_X3_18 hx hb hown hK hS (hI.ring hq) rfl dX3_pleases_13 ?_
    refine lv_iload_n hx hb dX3_pleases_16 rfl (lv_at hl 0 rfl) ?_
    refine cl_X3_51 hx hb hml hown hK hZ hS hA (l_get (hI.gifts hq) hg) ((hI.gifts hq).1) rfl hl.1 (Nat.le_of_ble_eq_true rfl) ⟨Nat.le_of_ble_eq_true rfl, Nat.le_of_ble_eq_true rfl⟩ ⟨Nat.zero_le _, Nat.zero_le _⟩ rfl dX3_pleases_17 (r_kp (fun H locs hS => ?_))
    refine ck_X3_54 hx hb hown hK hS (hI.coin hgC) dX3_pleases_20 ?_
    refine lv_aload_n hx hb dX3_pleases_23 rfl (lv_at hl 3 rfl) ?_
    refine cl_X3_64 hx hb hml hown hK hZ hS hA (c_X1_isContentWith hI hk hgC hj) (hI.col hk) rfl hl.1 (Nat.le_of_ble_eq_true rfl) ⟨Nat.le_of_ble_eq_true rfl, Nat.le_of_ble_eq_true rfl⟩ ⟨Nat.zero_le _, Nat.zero_le _⟩ rfl dX3_pleases_24 (r_kp (fun H locs hS => ?_))
    refine r_ifb_eq (b := (fairB T k g j)) (tgt := 34) hx hb dX3_pleases_27 (by decide) (fun q27 => ?_) (fun q27 => ?_)
    · -- T
      refine lv_iconst (v := nI 0) hx hb dX3_pleases_34 (by decide) ?_
      exact r_zret hx hb hr hlocks hS rfl (⟨by rw [pleaB_g h0 hg, q27]; rfl, rfl, rfl⟩) (Nat.zero_le _) (Nat.zero_le _) dX3_pleases_35
    · -- F
      refine lv_iconst (v := nI 1) hx hb dX3_pleases_30 (by decide) ?_
      refine lv_goto (tgt := 35) hx hb dX3_pleases_31 (by decide) ?_
      exact r_zret hx hb hr hlocks hS rfl (⟨by rw [pleaB_g h0 hg, q27]; rfl, rfl, rfl⟩) (Nat.zero_le _) (Nat.zero_le _) dX3_pleases_35

set_option maxHeartbeats 4000000 in
set_option maxRecDepth 100000 in
theorem c_X3_closes {G : rG} {l : Launch} {T : rTab} {L : rL} {C : rC} {ad : rA} (hI : cInv G T L C ad) {q : Nat} (hq : q ≤ nS T) : rMet G l yX3_closes cX3_closes 4 (some .boolean) (rmP 5) [.ref (ad 6 q)] C ad (rPure C ad (.int (bI (closB T (L.1 16 q) (L.1 17 q))))) := by
  refine rMet.of (by decide) ?_
  intro p e s m below meth c hx hb hml hr hlocks hown hname hK hZ hS
  have hown : s.vm.findClass RX3 = some m.cls := hown
  have hA : ∀ q : Nat, s.heap.size ≤ q → (rF C ad s.heap.size) q := rF.new
  refine r_entry _ (Nat.le_of_ble_eq_true rfl) (fun ls hl => ?_)
  have hl : lv_has ls 4 [(0, .ref (ad 6 q))] := hl
  have hlen : (L.1 16 q).length ≤ 4 := (hI.hrg hq).2.2.2.1
  refine lv_aload_n hx hb dX3_closes_0 rfl (lv_at hl 0 rfl) ?_
  refine cl_X3_38 hx hb hml hown hK hZ hS hA (c_X3_length hI hq) (hI.ring hq) rfl hl.1 (Nat.le_of_ble_eq_true rfl) ⟨Nat.le_of_ble_eq_true rfl, Nat.le_of_ble_eq_true rfl⟩ ⟨Nat.zero_le _, Nat.zero_le _⟩ rfl dX3_closes_1 (r_kp (fun H locs hS => ?_))
  refine lv_iconst (v := nI 1) hx hb dX3_closes_4 (by decide) ?_
  refine lv_isub hx hb dX3_closes_5 ?_
  refine lv_istore_n (lv' := [(1, .int ((nI (L.1 16 q).length) - (nI 1))), (0, .ref (ad 6 q))]) hx hb dX3_closes_6 rfl hl (by decide) rfl (fun ls hl => ?_)
  refine lv_iload_n hx hb dX3_closes_7 rfl (lv_at hl 0 rfl) ?_
  refine lv_iconst (v := nI 1) hx hb dX3_closes_8 (by decide) ?_
  refine lv_icmp_ge (tgt := 14) hx hb dX3_closes_9 (by decide) (fun q9 => ?_) (fun q9 => ?_)
  · -- T
    have h0 : ¬ (L.1 16 q).length < 2 := Nat.not_lt.mpr ((dm2 hlen).mp q9)
    obtain ⟨g, hg, hgC⟩ := hI.gfAt hq (show (L.1 16 q).length - 1 < (L.1 16 q).length by omega)
    obtain ⟨g0, hg0, hg0C⟩ := hI.gfAt hq (show 0 < (L.1 16 q).length by omega)
    obtain ⟨c0, hc0x, hc0⟩ := hI.gvAt hq (show 0 < (L.1 16 q).length by omega)
    rw [show nI (L.1 16 q).length - nI 1 = nI ((L.1 16 q).length - 1) by rw [pk_sub (by omega)]] at hl
    refine lv_aload_n hx hb dX3_closes_14 rfl (lv_at hl 1 rfl) ?_
    refine gf_X3_12 hx hb hown hK hS (hI.ring hq) rfl dX3_closes_15 ?_
    refine lv_iconst (v := nI 0) hx hb dX3_closes_18 (by decide) ?_
    refine cl_X3_51 hx hb hml hown hK hZ hS hA (l_get (hI.givers hq) hc0x) ((hI.givers hq).1) rfl hl.1 (Nat.le_of_ble_eq_true rfl) ⟨Nat.le_of_ble_eq_true rfl, Nat.le_of_ble_eq_true rfl⟩ ⟨Nat.zero_le _, Nat.zero_le _⟩ rfl dX3_closes_19 (r_kp (fun H locs hS => ?_))
    refine ck_X3_46 hx hb hown hK hS (hI.col hc0) dX3_closes_22 ?_
    refine lv_astore_n (lv' := [(2, .ref (ad 5 c0)), (1, .int (nI ((L.1 16 q).length - 1))), (0, .ref (ad 6 q))]) hx hb dX3_closes_25 rfl hl (by decide) rfl (fun ls hl => ?_)
    refine lv_aload_n hx hb dX3_closes_26 rfl (lv_at hl 2 rfl) ?_
    refine gf_X3_18 hx hb hown hK hS (hI.ring hq) rfl dX3_closes_27 ?_
    refine lv_iload_n hx hb dX3_closes_30 rfl (lv_at hl 1 rfl) ?_
    refine cl_X3_51 hx hb hml hown hK hZ hS hA (l_get (hI.gifts hq) hg) ((hI.gifts hq).1) rfl hl.1 (Nat.le_of_ble_eq_true rfl) ⟨Nat.le_of_ble_eq_true rfl, Nat.le_of_ble_eq_true rfl⟩ ⟨Nat.zero_le _, Nat.zero_le _⟩ rfl dX3_closes_31 (r_kp (fun H locs hS => ?_))
    refine ck_X3_54 hx hb hown hK hS (hI.coin hgC) dX3_closes_34 ?_
    refine lv_astore_n (lv' := [(3, .ref (ad 4 g)), (2, .ref (ad 5 c0)), (1, .int (nI ((L.1 16 q).length - 1))), (0, .ref (ad 6 q))]) hx hb dX3_closes_37 rfl hl (by decide) rfl (fun ls hl => ?_)
    refine lv_aload_n hx hb dX3_closes_38 rfl (lv_at hl 1 rfl) ?_
    refine lv_aload_n hx hb dX3_closes_39 rfl (lv_at hl 0 rfl) ?_
    refine gf_X3_56 hx hb hown hK hS (hI.coin hgC) rfl dX3_closes_40 ?_
    refine cl_X3_60 hx hb hml hown hK hZ hS hA (c_X1_isAfter hI hc0 (hI.odie hgC)) (hI.col hc0) rfl hl.1 (Nat.le_of_ble_eq_true rfl) ⟨Nat.le_of_ble_eq_true rfl, Nat.le_of_ble_eq_true rfl⟩ ⟨Nat.zero_le _, Nat.zero_le _⟩ rfl dX3_closes_43 (r_kp (fun H locs hS => ?_))
    refine r_ifb_eq (b := (wantB T c0 (T 5 g))) (tgt := 72) hx hb dX3_closes_46 (by decide) (fun q46 => ?_) (fun q46 => ?_)
    · -- T
      refine lv_iconst (v := nI 0) hx hb dX3_closes_72 (by decide) ?_
      exact r_zret hx hb hr hlocks hS rfl (⟨by rw [closB_g h0 hc0x hg hg0, q46]; rfl, rfl, rfl⟩) (Nat.zero_le _) (Nat.zero_le _) dX3_closes_73
    · -- F
      refine lv_aload_n hx hb dX3_closes_49 rfl (lv_at hl 1 rfl) ?_
      refine lv_aload_n hx hb dX3_closes_50 rfl (lv_at hl 0 rfl) ?_
      refine lv_aload_n hx hb dX3_closes_51 rfl (lv_at hl 3 rfl) ?_
      refine gf_X3_18 hx hb hown hK hS (hI.ring hq) rfl dX3_closes_52 ?_
      refine lv_iconst (v := nI 0) hx hb dX3_closes_55 (by decide) ?_
      refine cl_X3_51 hx hb hml hown hK hZ hS hA (l_get (hI.gifts hq) hg0) ((hI.gifts hq).1) rfl hl.1 (Nat.le_of_ble_eq_true rfl) ⟨Nat.le_of_ble_eq_true rfl, Nat.le_of_ble_eq_true rfl⟩ ⟨Nat.zero_le _, Nat.zero_le _⟩ rfl dX3_closes_56 (r_kp (fun H locs hS => ?_))
      refine ck_X3_54 hx hb hown hK hS (hI.coin hg0C) dX3_closes_59 ?_
      refine cl_X3_64 hx hb hml hown hK hZ hS hA (c_X1_isContentWith hI hc0 hgC hg0C) (hI.col hc0) rfl hl.1 (Nat.le_of_ble_eq_true rfl) ⟨Nat.le_of_ble_eq_true rfl, Nat.le_of_ble_eq_true rfl⟩ ⟨Nat.zero_le _, Nat.zero_le _⟩ rfl dX3_closes_62 (r_kp (fun H locs hS => ?_))
      refine r_ifb_eq (b := (fairB T c0 g g0)) (tgt := 72) hx hb dX3_closes_65 (by decide) (fun q65 => ?_) (fun q65 => ?_)
      · -- T
        refine lv_iconst (v := nI 0) hx hb dX3_closes_72 (by decide) ?_
        exact r_zret hx hb hr hlocks hS rfl (⟨by rw [closB_g h0 hc0x hg hg0, q46, q65]; rfl, rfl, rfl⟩) (Nat.zero_le _) (Nat.zero_le _) dX3_closes_73
      · -- F
        refine lv_iconst (v := nI 1) hx hb dX3_closes_68 (by decide) ?_
        refine lv_goto (tgt := 73) hx hb dX3_closes_69 (by decide) ?_
        exact r_zret hx hb hr hlocks hS rfl (⟨by rw [closB_g h0 hc0x hg hg0, q46, q65]; rfl, rfl, rfl⟩) (Nat.zero_le _) (Nat.zero_le _) dX3_closes_73
  · -- F
    have h0 : (L.1 16 q).length < 2 := Nat.not_le.mp fun z => q9 ((dm2 hlen).mpr z)
    refine lv_iconst (v := nI 0) hx hb dX3_closes_12 (by decide) ?_
    exact r_zret hx hb hr hlocks hS rfl (⟨by rw [closB_0 h0]; rfl, rfl, rfl⟩) (Nat.zero_le _) (Nat.zero_le _) dX3_closes_13

set_option maxHeartbeats 4000000 in
set_option maxRecDepth 100000 in
theorem c_X3_hasFalseGift {G : rG} {l : Launch} {T : rTab} {L : rL} {C : rC} {ad : rA} (hI : cInv G T L C ad) {q : Nat} (hq : q ≤ nS T) : rMet G l yX3_hasFalseGift cX3_hasFalseGift 2 (some .boolean) (rmP 4) [.ref (ad 6 q)] C ad (rPure C ad (.int (bI (falsB T (L.1 17 q))))) := by
  refine rMet.of (by decide) ?_
  intro p e s m below meth c hx hb hml hr hlocks hown hname hK hZ hS
  have hown : s.vm.findClass RX3 = some m.cls := hown
  have hA : ∀ q : Nat, s.heap.size ≤ q → (rF C ad s.heap.size) q := rF.new
  refine r_entry _ (Nat.le_of_ble_eq_true rfl) (fun ls hl => ?_)
  have hl : lv_has ls 2 [(0, .ref (ad 6 q))] := hl
  have hlen : (L.1 16 q).length ≤ 4 := (hI.hrg hq).2.2.2.1
  refine lv_iconst (v := nI 0) hx hb dX3_hasFalseGift_0 (by decide) ?_
  refine lv_istore_n (lv' := [(1, .int (nI 0)), (0, .ref (ad 6 q))]) hx hb dX3_hasFalseGift_1 rfl hl (by decide) rfl (fun ls hl => ?_)
  refine r_loop (σ := Nat) (fun i => (L.1 16 q).length - i) (fun i H locs ls => (i ≤ (L.1 16 q).length) ∧ (∀ x y, x < i → (L.1 17 q)[x]? = some y → tru T y = true) ∧ rS G.1 (rF C ad s.heap.size) s.heap C ad H locs ∧ lv_has ls 2 [(1, .int (nI i)), (0, .ref (ad 6 q))]) (fun _ => 0) (fun _ => 0) (fun z ih H locs ls hI => ?_) 0 (Nat.zero_le _) (Nat.zero_le _) ⟨Nat.zero_le _, fun x a hx => absurd hx (Nat.not_lt_zero _), hS, lv_sub hl [0, 1] rfl⟩
  obtain ⟨i, rfl⟩ : ∃ y, y = z := ⟨_, rfl⟩
  obtain ⟨hil, hz, hS, hl⟩ := hI
  try dsimp only at hil hz hS hl ih ⊢
  refine lv_iload_n hx hb dX3_hasFalseGift_2 rfl (lv_at hl 0 rfl) ?_
  refine lv_aload_n hx hb dX3_hasFalseGift_3 rfl (lv_at hl 1 rfl) ?_
  refine cl_X3_38 hx hb hml hown hK hZ hS hA (c_X3_length hI hq) (hI.ring hq) rfl hl.1 (Nat.le_of_ble_eq_true rfl) ⟨Nat.le_of_ble_eq_true rfl, Nat.le_of_ble_eq_true rfl⟩ ⟨Nat.zero_le _, Nat.zero_le _⟩ rfl dX3_hasFalseGift_4 (r_kp (fun H locs hS => ?_))
  refine r_icmp_ge (a := i) (b := (L.1 16 q).length) (tgt := 35) hx hb (by omega) (by omega) dX3_hasFalseGift_7 (by decide) (fun q7 => ?_) (fun q7 => ?_)
  · -- T
    have hz2 := falsB_f (T := T) (fun x y (hx : x < (L.1 17 q).length) hxy => hz x y (by rw [← (hI.hrg hq).2.2.1] at hx; omega) hxy)
    refine lv_iconst (v := nI 0) hx hb dX3_hasFalseGift_35 (by decide) ?_
    exact r_zret hx hb hr hlocks hS rfl (⟨by rw [hz2]; rfl, rfl, rfl⟩) (Nat.zero_le _) (Nat.zero_le _) dX3_hasFalseGift_36
  · -- F
    obtain ⟨y, hy, hyC⟩ := hI.gfAt hq q7
    refine lv_aload_n hx hb dX3_hasFalseGift_10 rfl (lv_at hl 1 rfl) ?_
    refine gf_X3_18 hx hb hown hK hS (hI.ring hq) rfl dX3_hasFalseGift_11 ?_
    refine lv_iload_n hx hb dX3_hasFalseGift_14 rfl (lv_at hl 0 rfl) ?_
    refine cl_X3_51 hx hb hml hown hK hZ hS hA (l_get (hI.gifts hq) hy) ((hI.gifts hq).1) rfl hl.1 (Nat.le_of_ble_eq_true rfl) ⟨Nat.le_of_ble_eq_true rfl, Nat.le_of_ble_eq_true rfl⟩ ⟨Nat.zero_le _, Nat.zero_le _⟩ rfl dX3_hasFalseGift_15 (r_kp (fun H locs hS => ?_))
    refine ck_X3_54 hx hb hown hK hS (hI.coin hyC) dX3_hasFalseGift_18 ?_
    refine cl_X3_83 hx hb hml hown hK hZ hS hA (c_X0_isGenuine hI hyC) (hI.coin hyC) rfl hl.1 (Nat.le_of_ble_eq_true rfl) ⟨Nat.le_of_ble_eq_true rfl, Nat.le_of_ble_eq_true rfl⟩ ⟨Nat.zero_le _, Nat.zero_le _⟩ rfl dX3_hasFalseGift_21 (r_kp (fun H locs hS => ?_))
    refine r_ifb_ne (b := (tru T y)) (tgt := 29) hx hb dX3_hasFalseGift_24 (by decide) (fun q24 => ?_) (fun q24 => ?_)
    · -- T
      refine lv_iinc (v := nI (i + 1)) (lv' := [(1, .int (nI (i + 1))), (0, .ref (ad 6 q))]) hx hb dX3_hasFalseGift_29 hl (k := 0) rfl (nI_inc _) (by decide) rfl (fun ls hl => ?_)
      refine lv_goto (tgt := 2) hx hb dX3_hasFalseGift_32 (by decide) ?_
      exact ih (i + 1) (by omega) _ _ _ ⟨(show i + 1 ≤ (L.1 16 q).length by omega), (fun x a hx hxa => by
              by_cases e : x = i
              · rw [e, hy] at hxa
                cases hxa
                exact q24
              · exact hz x a (by omega) hxa), hS, lv_sub hl [0, 1] rfl⟩
    · -- F
      refine lv_iconst (v := nI 1) hx hb dX3_hasFalseGift_27 (by decide) ?_
      exact r_zret hx hb hr hlocks hS rfl (⟨by rw [falsB_t hy q24]; rfl, rfl, rfl⟩) (Nat.zero_le _) (Nat.zero_le _) dX3_hasFalseGift_28

set_option maxHeartbeats 4000000 in
set_option maxRecDepth 100000 in
theorem c_X3_tell {G : rG} {l : Launch} {T : rTab} {L : rL} {C : rC} {ad : rA} (hlt : l.stackTraces = false) (hI : cInv G T L C ad) {q : Nat} (hq : q ≤ nS T) (a : Int32) : rMetX G l yX3_tell cX3_tell 2 (some .int) (rmM 7 1 6) [.ref (ad 6 q), .int a] C ad (rIs (fun r => ∃ n, tellO (L.1 16 q) (L.1 17 q) a = some n ∧ r = .int (nI n)) C ad) (xIs (fun E => E = eIOB ∧ tellO (L.1 16 q) (L.1 17 q) a = none) C ad) := by
  refine rMetX.of (by decide) ?_
  intro p e s m below meth c hx hb hml hr hlocks hown hname hK hZ hS hex
  have hown : s.vm.findClass RX3 = some m.cls := hown
  have hA : ∀ q : Nat, s.heap.size ≤ q → (rF C ad s.heap.size) q := rF.new
  refine r_entry _ (Nat.le_of_ble_eq_true rfl) (fun ls hl => ?_)
  have hl : lv_has ls 2 [(0, .ref (ad 6 q)), (1, .int a)] := hl
  have hlen : (L.1 16 q).length ≤ 4 := (hI.hrg hq).2.2.2.1
  refine lv_iload_n hx hb dX3_tell_0 rfl (lv_at hl 1 rfl) ?_
  refine lv_if_lt (tgt := 12) hx hb dX3_tell_1 (by decide) (fun q1 => ?_) (fun q1 => ?_)
  · -- T
    exact th_X3_75_77 hx hb hlt hown hK hZ hS (by rw [hml]; exact hl.1) dX3_tell_12 dX3_tell_15 dX3_tell_16 dX3_tell_18 dX3_tell_21 hex (Nat.le_of_ble_eq_true rfl) (Nat.le_of_ble_eq_true rfl) (Nat.le_of_ble_eq_true rfl) (Nat.le_of_ble_eq_true rfl) hlocks (⟨⟨rfl, tellO_n (ixO_neg q1)⟩, rfl, rfl⟩) (Nat.le_of_ble_eq_true rfl) (Nat.le_of_ble_eq_true rfl)
  · -- F
    refine lv_iload_n hx hb dX3_tell_4 rfl (lv_at hl 1 rfl) ?_
    refine lv_aload_n hx hb dX3_tell_5 rfl (lv_at hl 0 rfl) ?_
    refine cl_X3_38 hx hb hml hown hK hZ hS hA (c_X3_length hI hq) (hI.ring hq) rfl hl.1 (Nat.le_of_ble_eq_true rfl) ⟨Nat.le_of_ble_eq_true rfl, Nat.le_of_ble_eq_true rfl⟩ ⟨Nat.zero_le _, Nat.zero_le _⟩ rfl dX3_tell_6 (r_kp (fun H locs hS => ?_))
    refine lv_icmp_lt (tgt := 22) hx hb dX3_tell_9 (by decide) (fun q9 => ?_) (fun q9 => ?_)
    · -- T
      obtain ⟨x, hxx, rfl, hix⟩ := ixO_some (by omega) q1 (fun z => Int32.not_le.mpr q9 z)
      obtain ⟨c, hcx, hc8⟩ := hI.gvAt hq hxx
      obtain ⟨g, hg, hgC⟩ := hI.gfAt hq hxx
      refine lv_sipush (v := nI 1000) hx hb dX3_tell_22 (by decide) ?_
      refine lv_aload_n hx hb dX3_tell_25 rfl (lv_at hl 0 rfl) ?_
      refine gf_X3_12 hx hb hown hK hS (hI.ring hq) rfl dX3_tell_26 ?_
      refine lv_iload_n hx hb dX3_tell_29 rfl (lv_at hl 1 rfl) ?_
      refine cl_X3_51 hx hb hml hown hK hZ hS hA (l_get (hI.givers hq) hcx) ((hI.givers hq).1) rfl hl.1 (Nat.le_of_ble_eq_true rfl) ⟨Nat.le_of_ble_eq_true rfl, Nat.le_of_ble_eq_true rfl⟩ ⟨Nat.zero_le _, Nat.zero_le _⟩ rfl dX3_tell_30 (r_kp (fun H locs hS => ?_))
      refine ck_X3_46 hx hb hown hK hS (hI.col hc8) dX3_tell_33 ?_
      refine gf_X3_45 hx hb hown hK hS (hI.col hc8) rfl dX3_tell_36 ?_
      refine lv_imul hx hb dX3_tell_39 ?_
      refine r_top (pk_mul _ _) ?_
      refine lv_aload_n hx hb dX3_tell_40 rfl (lv_at hl 0 rfl) ?_
      refine gf_X3_18 hx hb hown hK hS (hI.ring hq) rfl dX3_tell_41 ?_
      refine lv_iload_n hx hb dX3_tell_44 rfl (lv_at hl 1 rfl) ?_
      refine cl_X3_51 hx hb hml hown hK hZ hS hA (l_get (hI.gifts hq) hg) ((hI.gifts hq).1) rfl hl.1 (Nat.le_of_ble_eq_true rfl) ⟨Nat.le_of_ble_eq_true rfl, Nat.le_of_ble_eq_true rfl⟩ ⟨Nat.zero_le _, Nat.zero_le _⟩ rfl dX3_tell_45 (r_kp (fun H locs hS => ?_))
      refine ck_X3_54 hx hb hown hK hS (hI.coin hgC) dX3_tell_48 ?_
      refine gf_X3_82 hx hb hown hK hS (hI.coin hgC) rfl dX3_tell_51 ?_
      refine lv_iadd hx hb dX3_tell_54 ?_
      refine r_top (nI_add _ _) ?_
      refine vx_ret ?_
      exact r_iret hx hb hr hlocks hS (⟨_, rfl, ⟨_, tellO_s hix hcx hg, rfl⟩, rfl, rfl⟩) (Nat.zero_le _) (Nat.zero_le _) dX3_tell_55
    · -- F
      exact th_X3_75_77 hx hb hlt hown hK hZ hS (by rw [hml]; exact hl.1) dX3_tell_12 dX3_tell_15 dX3_tell_16 dX3_tell_18 dX3_tell_21 hex (Nat.le_of_ble_eq_true rfl) (Nat.le_of_ble_eq_true rfl) (Nat.le_of_ble_eq_true rfl) (Nat.le_of_ble_eq_true rfl) hlocks (⟨⟨rfl, tellO_n (ixO_big (by omega) (Int32.not_lt.mp q9))⟩, rfl, rfl⟩) (Nat.le_of_ble_eq_true rfl) (Nat.le_of_ble_eq_true rfl)

set_option maxHeartbeats 4000000 in
set_option maxRecDepth 100000 in
theorem c_bitCount {G : rG} {l : Launch} {C : rC} {ad : rA} {x : Nat} (hx6 : x < 65536) : rMet G l yJ6_bitCount_0f7a4 cJ6_bitCount_0f7a4 1 (some .int) (rmP 1) [.int (nI x)] C ad (rPure C ad (.int (nI (bitsN x)))) := by
  refine rMet.of (by decide) ?_
  intro p e s m below meth c hx hb hml hr hlocks hown hname hK hZ hS
  have hown : s.vm.findClass RJ6 = some m.cls := hown
  have hA : ∀ q : Nat, s.heap.size ≤ q → (rF C ad s.heap.size) q := rF.new
  refine r_entry _ (Nat.le_of_ble_eq_true rfl) (fun ls hl => ?_)
  have hl : lv_has ls 1 [(0, .int (nI x))] := hl
  have a1 : bc1 x ≤ x := Nat.sub_le _ _
  have a2 : bc2 (bc1 x) ≤ bc1 x + bc1 x / 4 := Nat.add_le_add Nat.and_le_left Nat.and_le_left
  have a3 : bc3 (bc2 (bc1 x)) ≤ bc2 (bc1 x) + bc2 (bc1 x) / 16 := Nat.and_le_left
  have a4 : bc4 (bc3 (bc2 (bc1 x))) = bc3 (bc2 (bc1 x)) + bc3 (bc2 (bc1 x)) / 256 := rfl
  generalize hu1 : bc1 x = u1 at a1 a2 a3 a4
  have b1 : u1 < 65536 := by omega
  have b2 : bc2 u1 < 131072 := by omega
  have b3 : bc3 (bc2 u1) < 262144 := by omega
  have b4 : bc4 (bc3 (bc2 u1)) < 524288 := by omega
  subst hu1
  refine lv_iload_n hx hb dJ6_bitCount_0f7a4_0 rfl (lv_at hl 0 rfl) ?_
  refine lv_iload_n hx hb dJ6_bitCount_0f7a4_1 rfl (lv_at hl 0 rfl) ?_
  refine lv_iconst (v := nI 1) hx hb dJ6_bitCount_0f7a4_2 (by decide) ?_
  refine lv_iushr hx hb dJ6_bitCount_0f7a4_3 rfl ?_
  refine r_top (y := nI (x / 2)) (pk_ushrN (by omega) (nI 1) 1 (by decide)) ?_
  refine lc_J6_265 hx hb hown hK dJ6_bitCount_0f7a4_4 ?_
  refine lv_iand hx hb dJ6_bitCount_0f7a4_7 ?_
  refine r_top (y := nI (x / 2 &&& 1431655765)) (nx_and _ _) ?_
  refine lv_isub hx hb dJ6_bitCount_0f7a4_8 ?_
  refine r_top (y := nI (bc1 x)) ((pk_sub (Nat.le_trans Nat.and_le_left (by omega))).trans rfl) ?_
  refine lv_istore_n (lv' := [(0, .int (nI (bc1 x)))]) hx hb dJ6_bitCount_0f7a4_9 rfl hl (by decide) rfl (fun ls hl => ?_)
  refine lv_iload_n hx hb dJ6_bitCount_0f7a4_10 rfl (lv_at hl 0 rfl) ?_
  refine lc_J6_266 hx hb hown hK dJ6_bitCount_0f7a4_11 ?_
  refine lv_iand hx hb dJ6_bitCount_0f7a4_14 ?_
  refine r_top (y := nI (bc1 x &&& 858993459)) (nx_and _ _) ?_
  refine lv_iload_n hx hb dJ6_bitCount_0f7a4_15 rfl (lv_at hl 0 rfl) ?_
  refine lv_iconst (v := nI 2) hx hb dJ6_bitCount_0f7a4_16 (by decide) ?_
  refine lv_iushr hx hb dJ6_bitCount_0f7a4_17 rfl ?_
  refine r_top (y := nI (bc1 x / 4)) (pk_ushrN (by omega) (nI 2) 2 (by decide)) ?_
  refine lc_J6_266 hx hb hown hK dJ6_bitCount_0f7a4_18 ?_
  refine lv_iand hx hb dJ6_bitCount_0f7a4_21 ?_
  refine r_top (y := nI (bc1 x / 4 &&& 858993459)) (nx_and _ _) ?_
  refine lv_iadd hx hb dJ6_bitCount_0f7a4_22 ?_
  refine r_top (y := nI (bc2 (bc1 x))) ((nI_add _ _).trans rfl) ?_
  refine lv_istore_n (lv' := [(0, .int (nI (bc2 (bc1 x))))]) hx hb dJ6_bitCount_0f7a4_23 rfl hl (by decide) rfl (fun ls hl => ?_)
  refine lv_iload_n hx hb dJ6_bitCount_0f7a4_24 rfl (lv_at hl 0 rfl) ?_
  refine lv_iload_n hx hb dJ6_bitCount_0f7a4_25 rfl (lv_at hl 0 rfl) ?_
  refine lv_iconst (v := nI 4) hx hb dJ6_bitCount_0f7a4_26 (by decide) ?_
  refine lv_iushr hx hb dJ6_bitCount_0f7a4_27 rfl ?_
  refine r_top (y := nI (bc2 (bc1 x) / 16)) (pk_ushrN (by omega) (nI 4) 4 (by decide)) ?_
  refine lv_iadd hx hb dJ6_bitCount_0f7a4_28 ?_
  refine r_top (y := nI (bc2 (bc1 x) + bc2 (bc1 x) / 16)) (nI_add _ _) ?_
  refine lc_J6_267 hx hb hown hK dJ6_bitCount_0f7a4_29 ?_
  refine lv_iand hx hb dJ6_bitCount_0f7a4_32 ?_
  refine r_top (y := nI (bc3 (bc2 (bc1 x)))) (nx_and _ _) ?_
  refine lv_istore_n (lv' := [(0, .int (nI (bc3 (bc2 (bc1 x)))))]) hx hb dJ6_bitCount_0f7a4_33 rfl hl (by decide) rfl (fun ls hl => ?_)
  refine lv_iload_n hx hb dJ6_bitCount_0f7a4_34 rfl (lv_at hl 0 rfl) ?_
  refine lv_iload_n hx hb dJ6_bitCount_0f7a4_35 rfl (lv_at hl 0 rfl) ?_
  refine lv_bipush (v := nI 8) hx hb dJ6_bitCount_0f7a4_36 (by decide) ?_
  refine lv_iushr hx hb dJ6_bitCount_0f7a4_38 rfl ?_
  refine r_top (y := nI (bc3 (bc2 (bc1 x)) / 256)) (pk_ushrN (by omega) (nI 8) 8 (by decide)) ?_
  refine lv_iadd hx hb dJ6_bitCount_0f7a4_39 ?_
  refine r_top (y := nI (bc4 (bc3 (bc2 (bc1 x))))) ((nI_add _ _).trans rfl) ?_
  refine lv_istore_n (lv' := [(0, .int (nI (bc4 (bc3 (bc2 (bc1 x))))))]) hx hb dJ6_bitCount_0f7a4_40 rfl hl (by decide) rfl (fun ls hl => ?_)
  refine lv_iload_n hx hb dJ6_bitCount_0f7a4_41 rfl (lv_at hl 0 rfl) ?_
  refine lv_iload_n hx hb dJ6_bitCount_0f7a4_42 rfl (lv_at hl 0 rfl) ?_
  refine lv_bipush (v := nI 16) hx hb dJ6_bitCount_0f7a4_43 (by decide) ?_
  refine lv_iushr hx hb dJ6_bitCount_0f7a4_45 rfl ?_
  refine r_top (y := nI (bc4 (bc3 (bc2 (bc1 x))) / 65536)) (pk_ushrN (by omega) (nI 16) 16 (by decide)) ?_
  refine lv_iadd hx hb dJ6_bitCount_0f7a4_46 ?_
  refine r_top (y := nI (bc4 (bc3 (bc2 (bc1 x))) + bc4 (bc3 (bc2 (bc1 x))) / 65536)) (nI_add _ _) ?_
  refine lv_istore_n (lv' := [(0, .int (nI (bc4 (bc3 (bc2 (bc1 x))) + bc4 (bc3 (bc2 (bc1 x))) / 65536)))]) hx hb dJ6_bitCount_0f7a4_47 rfl hl (by decide) rfl (fun ls hl => ?_)
  refine lv_iload_n hx hb dJ6_bitCount_0f7a4_48 rfl (lv_at hl 0 rfl) ?_
  refine lv_bipush (v := nI 63) hx hb dJ6_bitCount_0f7a4_49 (by decide) ?_
  refine lv_iand hx hb dJ6_bitCount_0f7a4_51 ?_
  refine r_top (y := nI (bitsN x)) ((nx_and _ _).trans (congrArg nI (bc_bits hx6))) ?_
  exact r_iret hx hb hr hlocks hS (⟨rfl, rfl, rfl⟩) (Nat.zero_le _) (Nat.zero_le _) dJ6_bitCount_0f7a4_52

set_option maxHeartbeats 4000000 in
set_option maxRecDepth 100000 in
theorem c_X4_theDie {G : rG} {l : Launch} {T : rTab} {L : rL} {C : rC} {ad : rA} (hlt : l.stackTraces = false) (hI : cInv G T L C ad) (a : Int32) : rMetX G l yX4_theDie cX4_theDie 2 (some (.object "DieRegister$Die")) (rmM 7 1 6) [.ref (ad 0 0), .int a] C ad (rIs (fun r => ∃ d, ixO a (nD T) = some d ∧ r = .ref (ad 1 d)) C ad) (xIs (fun E => E = eIOB ∧ ixO a (nD T) = none) C ad) := by
  refine rMetX.of (by decide) ?_
  intro p e s m below meth c hx hb hml hr hlocks hown hname hK hZ hS hex
  have hown : s.vm.findClass RX4 = some m.cls := hown
  have hA : ∀ q : Nat, s.heap.size ≤ q → (rF C ad s.heap.size) q := rF.new
  refine r_entry _ (Nat.le_of_ble_eq_true rfl) (fun ls hl => ?_)
  have hl : lv_has ls 2 [(0, .ref (ad 0 0)), (1, .int a)] := hl
  have hD := hI.hD
  refine lv_iload_n hx hb dX4_theDie_0 rfl (lv_at hl 1 rfl) ?_
  refine lv_if_lt (tgt := 15) hx hb dX4_theDie_1 (by decide) (fun q1 => ?_) (fun q1 => ?_)
  · -- T
    exact th_X4_38_216 hx hb hlt hown hK hZ hS (by rw [hml]; exact hl.1) dX4_theDie_15 dX4_theDie_18 dX4_theDie_19 dX4_theDie_21 dX4_theDie_24 hex (Nat.le_of_ble_eq_true rfl) (Nat.le_of_ble_eq_true rfl) (Nat.le_of_ble_eq_true rfl) (Nat.le_of_ble_eq_true rfl) hlocks (⟨⟨rfl, ixO_neg q1⟩, rfl, rfl⟩) (Nat.le_of_ble_eq_true rfl) (Nat.le_of_ble_eq_true rfl)
  · -- F
    refine lv_iload_n hx hb dX4_theDie_4 rfl (lv_at hl 1 rfl) ?_
    refine lv_aload_n hx hb dX4_theDie_5 rfl (lv_at hl 0 rfl) ?_
    refine gf_X4_10 hx hb hown hK hS hI.reg rfl dX4_theDie_6 ?_
    refine cl_X4_81 hx hb hml hown hK hZ hS hA (l_size (hI.dies)) ((hI.dies).1) rfl hl.1 (Nat.le_of_ble_eq_true rfl) ⟨Nat.le_of_ble_eq_true rfl, Nat.le_of_ble_eq_true rfl⟩ ⟨Nat.zero_le _, Nat.zero_le _⟩ rfl dX4_theDie_9 (r_kp (fun H locs hS => ?_))
    refine r_top (y := nI (nD T)) (by rw [hI.ldies]) ?_
    refine lv_icmp_lt (tgt := 25) hx hb dX4_theDie_12 (by decide) (fun q12 => ?_) (fun q12 => ?_)
    · -- T
      obtain ⟨d, hd, rfl, hix⟩ := ixO_some (by omega) q1 (fun z => Int32.not_le.mpr q12 z)
      refine lv_aload_n hx hb dX4_theDie_25 rfl (lv_at hl 0 rfl) ?_
      refine gf_X4_10 hx hb hown hK hS hI.reg rfl dX4_theDie_26 ?_
      refine lv_iload_n hx hb dX4_theDie_29 rfl (lv_at hl 1 rfl) ?_
      refine cl_X4_132 hx hb hml hown hK hZ hS hA (l_get (hI.dies) (hI.dieAt hd)) ((hI.dies).1) rfl hl.1 (Nat.le_of_ble_eq_true rfl) ⟨Nat.le_of_ble_eq_true rfl, Nat.le_of_ble_eq_true rfl⟩ ⟨Nat.zero_le _, Nat.zero_le _⟩ rfl dX4_theDie_30 (r_kp (fun H locs hS => ?_))
      refine ck_X4_59 hx hb hown hK hS (hI.die hd) dX4_theDie_33 ?_
      refine vx_ret ?_
      exact r_aret hx hb hr (Or.inl ⟨_, rfl⟩) hlocks hS (Or.inr ⟨_, rfl⟩) (⟨_, rfl, ⟨d, hix, rfl⟩, rfl, rfl⟩) (Nat.zero_le _) (Nat.zero_le _) dX4_theDie_36
    · -- F
      exact th_X4_38_216 hx hb hlt hown hK hZ hS (by rw [hml]; exact hl.1) dX4_theDie_15 dX4_theDie_18 dX4_theDie_19 dX4_theDie_21 dX4_theDie_24 hex (Nat.le_of_ble_eq_true rfl) (Nat.le_of_ble_eq_true rfl) (Nat.le_of_ble_eq_true rfl) (Nat.le_of_ble_eq_true rfl) hlocks (⟨⟨rfl, ixO_big (by omega) (Int32.not_lt.mp q12)⟩, rfl, rfl⟩) (Nat.le_of_ble_eq_true rfl) (Nat.le_of_ble_eq_true rfl)

set_option maxHeartbeats 4000000 in
set_option maxRecDepth 100000 in
theorem c_X4_theCoin {G : rG} {l : Launch} {T : rTab} {L : rL} {C : rC} {ad : rA} (hlt : l.stackTraces = false) (hI : cInv G T L C ad) (a : Int32) : rMetX G l yX4_theCoin cX4_theCoin 2 (some (.object "DieRegister$Coin")) (rmM 7 1 6) [.ref (ad 0 0), .int a] C ad (rIs (fun r => ∃ j, ixO a (nC T) = some j ∧ r = .ref (ad 4 j)) C ad) (xIs (fun E => E = eIOB ∧ ixO a (nC T) = none) C ad) := by
  refine rMetX.of (by decide) ?_
  intro p e s m below meth c hx hb hml hr hlocks hown hname hK hZ hS hex
  have hown : s.vm.findClass RX4 = some m.cls := hown
  have hA : ∀ q : Nat, s.heap.size ≤ q → (rF C ad s.heap.size) q := rF.new
  refine r_entry _ (Nat.le_of_ble_eq_true rfl) (fun ls hl => ?_)
  have hl : lv_has ls 2 [(0, .ref (ad 0 0)), (1, .int a)] := hl
  have hC := hI.hC
  refine lv_iload_n hx hb dX4_theCoin_0 rfl (lv_at hl 1 rfl) ?_
  refine lv_if_lt (tgt := 15) hx hb dX4_theCoin_1 (by decide) (fun q1 => ?_) (fun q1 => ?_)
  · -- T
    exact th_X4_38_218 hx hb hlt hown hK hZ hS (by rw [hml]; exact hl.1) dX4_theCoin_15 dX4_theCoin_18 dX4_theCoin_19 dX4_theCoin_21 dX4_theCoin_24 hex (Nat.le_of_ble_eq_true rfl) (Nat.le_of_ble_eq_true rfl) (Nat.le_of_ble_eq_true rfl) (Nat.le_of_ble_eq_true rfl) hlocks (⟨⟨rfl, ixO_neg q1⟩, rfl, rfl⟩) (Nat.le_of_ble_eq_true rfl) (Nat.le_of_ble_eq_true rfl)
  · -- F
    refine lv_iload_n hx hb dX4_theCoin_4 rfl (lv_at hl 1 rfl) ?_
    refine lv_aload_n hx hb dX4_theCoin_5 rfl (lv_at hl 0 rfl) ?_
    refine gf_X4_16 hx hb hown hK hS hI.reg rfl dX4_theCoin_6 ?_
    refine cl_X4_81 hx hb hml hown hK hZ hS hA (l_size (hI.coins)) ((hI.coins).1) rfl hl.1 (Nat.le_of_ble_eq_true rfl) ⟨Nat.le_of_ble_eq_true rfl, Nat.le_of_ble_eq_true rfl⟩ ⟨Nat.zero_le _, Nat.zero_le _⟩ rfl dX4_theCoin_9 (r_kp (fun H locs hS => ?_))
    refine r_top (y := nI (nC T)) (by rw [hI.lcoins]) ?_
    refine lv_icmp_lt (tgt := 25) hx hb dX4_theCoin_12 (by decide) (fun q12 => ?_) (fun q12 => ?_)
    · -- T
      obtain ⟨j, hj, rfl, hix⟩ := ixO_some (by omega) q1 (fun z => Int32.not_le.mpr q12 z)
      refine lv_aload_n hx hb dX4_theCoin_25 rfl (lv_at hl 0 rfl) ?_
      refine gf_X4_16 hx hb hown hK hS hI.reg rfl dX4_theCoin_26 ?_
      refine lv_iload_n hx hb dX4_theCoin_29 rfl (lv_at hl 1 rfl) ?_
      refine cl_X4_132 hx hb hml hown hK hZ hS hA (l_get (hI.coins) (hI.coinAt hj)) ((hI.coins).1) rfl hl.1 (Nat.le_of_ble_eq_true rfl) ⟨Nat.le_of_ble_eq_true rfl, Nat.le_of_ble_eq_true rfl⟩ ⟨Nat.zero_le _, Nat.zero_le _⟩ rfl dX4_theCoin_30 (r_kp (fun H locs hS => ?_))
      refine ck_X4_88 hx hb hown hK hS (hI.coin hj) dX4_theCoin_33 ?_
      refine vx_ret ?_
      exact r_aret hx hb hr (Or.inl ⟨_, rfl⟩) hlocks hS (Or.inr ⟨_, rfl⟩) (⟨_, rfl, ⟨j, hix, rfl⟩, rfl, rfl⟩) (Nat.zero_le _) (Nat.zero_le _) dX4_theCoin_36
    · -- F
      exact th_X4_38_218 hx hb hlt hown hK hZ hS (by rw [hml]; exact hl.1) dX4_theCoin_15 dX4_theCoin_18 dX4_theCoin_19 dX4_theCoin_21 dX4_theCoin_24 hex (Nat.le_of_ble_eq_true rfl) (Nat.le_of_ble_eq_true rfl) (Nat.le_of_ble_eq_true rfl) (Nat.le_of_ble_eq_true rfl) hlocks (⟨⟨rfl, ixO_big (by omega) (Int32.not_lt.mp q12)⟩, rfl, rfl⟩) (Nat.le_of_ble_eq_true rfl) (Nat.le_of_ble_eq_true rfl)

set_option maxHeartbeats 4000000 in
set_option maxRecDepth 100000 in
theorem c_X4_theCollector {G : rG} {l : Launch} {T : rTab} {L : rL} {C : rC} {ad : rA} (hlt : l.stackTraces = false) (hI : cInv G T L C ad) (a : Int32) : rMetX G l yX4_theCollector cX4_theCollector 2 (some (.object "DieRegister$Collector")) (rmM 7 1 6) [.ref (ad 0 0), .int a] C ad (rIs (fun r => ∃ k, ixO a 8 = some k ∧ r = .ref (ad 5 k)) C ad) (xIs (fun E => E = eIOB ∧ ixO a 8 = none) C ad) := by
  refine rMetX.of (by decide) ?_
  intro p e s m below meth c hx hb hml hr hlocks hown hname hK hZ hS hex
  have hown : s.vm.findClass RX4 = some m.cls := hown
  have hA : ∀ q : Nat, s.heap.size ≤ q → (rF C ad s.heap.size) q := rF.new
  refine r_entry _ (Nat.le_of_ble_eq_true rfl) (fun ls hl => ?_)
  have hl : lv_has ls 2 [(0, .ref (ad 0 0)), (1, .int a)] := hl
  refine lv_iload_n hx hb dX4_theCollector_0 rfl (lv_at hl 1 rfl) ?_
  refine lv_if_lt (tgt := 10) hx hb dX4_theCollector_1 (by decide) (fun q1 => ?_) (fun q1 => ?_)
  · -- T
    exact th_X4_38_220 hx hb hlt hown hK hZ hS (by rw [hml]; exact hl.1) dX4_theCollector_10 dX4_theCollector_13 dX4_theCollector_14 dX4_theCollector_16 dX4_theCollector_19 hex (Nat.le_of_ble_eq_true rfl) (Nat.le_of_ble_eq_true rfl) (Nat.le_of_ble_eq_true rfl) (Nat.le_of_ble_eq_true rfl) hlocks (⟨⟨rfl, ixO_neg q1⟩, rfl, rfl⟩) (Nat.le_of_ble_eq_true rfl) (Nat.le_of_ble_eq_true rfl)
  · -- F
    refine lv_iload_n hx hb dX4_theCollector_4 rfl (lv_at hl 1 rfl) ?_
    refine lv_bipush (v := nI 8) hx hb dX4_theCollector_5 (by decide) ?_
    refine lv_icmp_lt (tgt := 20) hx hb dX4_theCollector_7 (by decide) (fun q7 => ?_) (fun q7 => ?_)
    · -- T
      obtain ⟨k, hk, rfl, hix⟩ := ixO_some (n := 8) (by omega) q1 (fun z => Int32.not_le.mpr q7 z)
      refine lv_aload_n hx hb dX4_theCollector_20 rfl (lv_at hl 0 rfl) ?_
      refine gf_X4_21 hx hb hown hK hS hI.reg rfl dX4_theCollector_21 ?_
      refine lv_iload_n hx hb dX4_theCollector_24 rfl (lv_at hl 1 rfl) ?_
      refine r_aald hx hb hK.1 hS 3 hI.arr rfl (nI_in0 (by omega) (by omega)) (v := .ref (ad 5 k)) (by rw [nI_clamp (by omega), if_pos hk]; rfl) dX4_theCollector_25 ?_
      refine vx_ret ?_
      exact r_aret hx hb hr (Or.inl ⟨_, rfl⟩) hlocks hS (Or.inr ⟨_, rfl⟩) (⟨_, rfl, ⟨k, hix, rfl⟩, rfl, rfl⟩) (Nat.zero_le _) (Nat.zero_le _) dX4_theCollector_26
    · -- F
      exact th_X4_38_220 hx hb hlt hown hK hZ hS (by rw [hml]; exact hl.1) dX4_theCollector_10 dX4_theCollector_13 dX4_theCollector_14 dX4_theCollector_16 dX4_theCollector_19 hex (Nat.le_of_ble_eq_true rfl) (Nat.le_of_ble_eq_true rfl) (Nat.le_of_ble_eq_true rfl) (Nat.le_of_ble_eq_true rfl) hlocks (⟨⟨rfl, ixO_big (n := 8) (by omega) (Int32.not_lt.mp q7)⟩, rfl, rfl⟩) (Nat.le_of_ble_eq_true rfl) (Nat.le_of_ble_eq_true rfl)

set_option maxHeartbeats 4000000 in
set_option maxRecDepth 100000 in
theorem c_X4_provedSource {G : rG} {l : Launch} {T : rTab} {L : rL} {C : rC} {ad : rA} (hI : cInv G T L C ad) {d : Nat} (hd : d < nD T) : rMet G l yX4_provedSource cX4_provedSource 6 (some .int) (rmP 5) [.ref (ad 0 0), .ref (ad 1 d)] C ad (rPure C ad (.int (prI T d))) := by
  refine rMet.of (by decide) ?_
  intro p e s m below meth c hx hb hml hr hlocks hown hname hK hZ hS
  have hown : s.vm.findClass RX4 = some m.cls := hown
  have hA : ∀ q : Nat, s.heap.size ≤ q → (rF C ad s.heap.size) q := rF.new
  refine r_entry _ (Nat.le_of_ble_eq_true rfl) (fun ls hl => ?_)
  have hl : lv_has ls 6 [(0, .ref (ad 0 0)), (1, .ref (ad 1 d))] := hl
  have hD := hI.hD
  have hC := hI.hC
  have hdd := hI.dn hd
  refine lv_aload_n hx hb dX4_provedSource_0 rfl (lv_at hl 1 rfl) ?_
  refine cl_X4_227 hx hb hml hown hK hZ hS hA (c_X2_firstCoin hI hd) (hI.die hd) rfl hl.1 (Nat.le_of_ble_eq_true rfl) ⟨Nat.le_of_ble_eq_true rfl, Nat.le_of_ble_eq_true rfl⟩ ⟨Nat.zero_le _, Nat.zero_le _⟩ rfl dX4_provedSource_1 (r_kp (fun H locs hS => ?_))
  refine r_astoreq_n (lv' := [(2, va_rf ((firstCoin T d).map (ad 4))), (0, .ref (ad 0 0)), (1, .ref (ad 1 d))]) hx hb dX4_provedSource_4 rfl hl (by decide) rfl (fun ls hl => ?_)
  refine r_aloadq_n hx hb dX4_provedSource_5 rfl (lv_at hl 0 rfl) ?_
  refine r_ifnullq (tgt := 20) hx hb dX4_provedSource_6 (by decide) (fun q6 => ?_) (fun x6 q6 => ?_)
  · -- T
    have hf : firstCoin T d = none := by cases ho : firstCoin T d with | none => rfl | some m => rw [ho] at q6; cases q6
    refine lv_iconst (v := (-1)) hx hb dX4_provedSource_20 (by decide) ?_
    exact r_iret hx hb hr hlocks hS (⟨by rw [prI_n (proofO_n hf)], rfl, rfl⟩) (Nat.zero_le _) (Nat.zero_le _) dX4_provedSource_21
  · -- F
    obtain ⟨f, hf⟩ : ∃ z, firstCoin T d = some z := by cases ho : firstCoin T d with | none => rw [ho] at q6; cases q6 | some m => exact ⟨m, rfl⟩
    have hfC : f < nC T := (fstB_some.mp hf).1
    have hf6 := (hI.cn hfC).2.1
    have hbn := bitsN_le (T 6 f)
    rw [hf] at hl
    have hl : lv_has ls 6 [(2, .ref (ad 4 f)), (0, .ref (ad 0 0)), (1, .ref (ad 1 d))] := hl
    refine lv_aload_n hx hb dX4_provedSource_9 rfl (lv_at hl 0 rfl) ?_
    refine gf_X4_116 hx hb hown hK hS (hI.coin hfC) rfl dX4_provedSource_10 ?_
    refine cl_X4_73 hx hb hml hown hK hZ hS hA (c_bitCount hf6) rfl hl.1 (Nat.le_of_ble_eq_true rfl) ⟨Nat.le_of_ble_eq_true rfl, Nat.le_of_ble_eq_true rfl⟩ ⟨Nat.zero_le _, Nat.zero_le _⟩ rfl dX4_provedSource_13 (r_kp (fun H locs hS => ?_))
    refine lv_iconst (v := nI 2) hx hb dX4_provedSource_16 (by decide) ?_
    refine r_icmp_ge (a := bitsN (T 6 f)) (b := 2) (tgt := 22) hx hb (by omega) (by omega) dX4_provedSource_17 (by decide) (fun q17 => ?_) (fun q17 => ?_)
    · -- T
      have hps := proofO_s hf (by omega)
      refine lv_iconst (v := nI 0) hx hb dX4_provedSource_22 (by decide) ?_
      refine lv_istore_n (lv' := [(3, .int (nI 0)), (2, .ref (ad 4 f)), (0, .ref (ad 0 0)), (1, .ref (ad 1 d))]) hx hb dX4_provedSource_23 rfl hl (by decide) rfl (fun ls hl => ?_)
      refine r_loop (σ := Nat) (fun i => nD T - i) (fun i H locs ls => (i ≤ nD T) ∧ (∀ o, o < i → provesBy T d f o = false) ∧ rS G.1 (rF C ad s.heap.size) s.heap C ad H locs ∧ lv_has ls 6 [(3, .int (nI i)), (0, .ref (ad 0 0)), (1, .ref (ad 1 d)), (2, .ref (ad 4 f))]) (fun _ => 0) (fun _ => 0) (fun z ih H locs ls hI => ?_) 0 (Nat.zero_le _) (Nat.zero_le _) ⟨Nat.zero_le _, fun x hx => absurd hx (Nat.not_lt_zero _), hS, lv_sub hl [0, 2, 3, 1] rfl⟩
      obtain ⟨i, rfl⟩ : ∃ y, y = z := ⟨_, rfl⟩
      obtain ⟨hil, hz, hS, hl⟩ := hI
      try dsimp only at hil hz hS hl ih ⊢
      refine lv_iload_n hx hb dX4_provedSource_24 rfl (lv_at hl 0 rfl) ?_
      refine lv_aload_n hx hb dX4_provedSource_25 rfl (lv_at hl 1 rfl) ?_
      refine gf_X4_10 hx hb hown hK hS hI.reg rfl dX4_provedSource_26 ?_
      refine cl_X4_81 hx hb hml hown hK hZ hS hA (l_size (hI.dies)) ((hI.dies).1) rfl hl.1 (Nat.le_of_ble_eq_true rfl) ⟨Nat.le_of_ble_eq_true rfl, Nat.le_of_ble_eq_true rfl⟩ ⟨Nat.zero_le _, Nat.zero_le _⟩ rfl dX4_provedSource_29 (r_kp (fun H locs hS => ?_))
      refine r_top (y := nI (nD T)) (by rw [hI.ldies]) ?_
      refine r_icmp_ge (a := i) (b := nD T) (tgt := 106) hx hb (by omega) (by omega) dX4_provedSource_32 (by decide) (fun q32 => ?_) (fun q32 => ?_)
      · -- T
        have hp := prI_n (hps.trans (fstB_none.mpr fun o ho => hz o (by omega)))
        refine lv_iconst (v := (-1)) hx hb dX4_provedSource_106 (by decide) ?_
        exact r_iret hx hb hr hlocks hS (⟨by rw [hp], rfl, rfl⟩) (Nat.zero_le _) (Nat.zero_le _) dX4_provedSource_107
      · -- F
        have hi := q32
        have hdi := hI.dn hi
        refine lv_aload_n hx hb dX4_provedSource_35 rfl (lv_at hl 1 rfl) ?_
        refine gf_X4_10 hx hb hown hK hS hI.reg rfl dX4_provedSource_36 ?_
        refine lv_iload_n hx hb dX4_provedSource_39 rfl (lv_at hl 0 rfl) ?_
        refine cl_X4_132 hx hb hml hown hK hZ hS hA (l_get (hI.dies) (hI.dieAt hi)) ((hI.dies).1) rfl hl.1 (Nat.le_of_ble_eq_true rfl) ⟨Nat.le_of_ble_eq_true rfl, Nat.le_of_ble_eq_true rfl⟩ ⟨Nat.zero_le _, Nat.zero_le _⟩ rfl dX4_provedSource_40 (r_kp (fun H locs hS => ?_))
        refine ck_X4_59 hx hb hown hK hS (hI.die hi) dX4_provedSource_43 ?_
        refine lv_astore (lv' := [(4, .ref (ad 1 i)), (3, .int (nI i)), (0, .ref (ad 0 0)), (1, .ref (ad 1 d)), (2, .ref (ad 4 f))]) hx hb dX4_provedSource_46 hl (by decide) rfl (fun ls hl => ?_)
        refine lv_aload hx hb dX4_provedSource_48 (lv_at hl 0 rfl) ?_
        refine lv_aload_n hx hb dX4_provedSource_50 rfl (lv_at hl 3 rfl) ?_
        refine r_acmp_eq (tgt := 100) hx hb dX4_provedSource_51 (by decide) (fun q51 => ?_) (fun q51 => ?_)
        · -- T
          have q51 : i = d := hI.inj1 hS hi hd q51
          have qs : provesBy T d f i = false := pB_1 q51
          refine lv_iinc (v := nI (i + 1)) (lv' := [(3, .int (nI (i + 1))), (4, .ref (ad 1 i)), (0, .ref (ad 0 0)), (1, .ref (ad 1 d)), (2, .ref (ad 4 f))]) hx hb dX4_provedSource_100 hl (k := 1) rfl (nI_inc _) (by decide) rfl (fun ls hl => ?_)
          refine lv_goto (tgt := 24) hx hb dX4_provedSource_103 (by decide) ?_
          exact ih (i + 1) (by omega) _ _ _ ⟨(show i + 1 ≤ nD T by omega), (fun o ho => by
                  by_cases e : o = i
                  · rw [e]
                    exact qs
                  · exact hz o (by omega)), hS, lv_sub hl [0, 2, 3, 4] rfl⟩
        · -- F
          have q51 : ¬ i = d := fun e => q51 (by rw [e])
          refine lv_aload hx hb dX4_provedSource_54 (lv_at hl 0 rfl) ?_
          refine gf_X4_113 hx hb hown hK hS (hI.die hi) rfl dX4_provedSource_56 ?_
          refine lv_aload_n hx hb dX4_provedSource_59 rfl (lv_at hl 3 rfl) ?_
          refine gf_X4_113 hx hb hown hK hS (hI.die hd) rfl dX4_provedSource_60 ?_
          refine r_icmp_ne (a := T 1 i) (b := T 1 d) (tgt := 100) hx hb (by omega) (by omega) dX4_provedSource_63 (by decide) (fun q63 => ?_) (fun q63 => ?_)
          · -- T
            have qs : provesBy T d f i = false := pB_2 q63
            refine lv_iinc (v := nI (i + 1)) (lv' := [(3, .int (nI (i + 1))), (4, .ref (ad 1 i)), (0, .ref (ad 0 0)), (1, .ref (ad 1 d)), (2, .ref (ad 4 f))]) hx hb dX4_provedSource_100 hl (k := 1) rfl (nI_inc _) (by decide) rfl (fun ls hl => ?_)
            refine lv_goto (tgt := 24) hx hb dX4_provedSource_103 (by decide) ?_
            exact ih (i + 1) (by omega) _ _ _ ⟨(show i + 1 ≤ nD T by omega), (fun o ho => by
                    by_cases e : o = i
                    · rw [e]
                      exact qs
                    · exact hz o (by omega)), hS, lv_sub hl [0, 2, 3, 4] rfl⟩
          · -- F
            refine lv_aload hx hb dX4_provedSource_66 (lv_at hl 0 rfl) ?_
            refine lv_aload_n hx hb dX4_provedSource_68 rfl (lv_at hl 4 rfl) ?_
            refine gf_X4_116 hx hb hown hK hS (hI.coin hfC) rfl dX4_provedSource_69 ?_
            refine cl_X4_136 hx hb hml hown hK hZ hS hA (c_X2_firstOfStage hI hi hf6) (hI.die hi) rfl hl.1 (Nat.le_of_ble_eq_true rfl) ⟨Nat.le_of_ble_eq_true rfl, Nat.le_of_ble_eq_true rfl⟩ ⟨Nat.zero_le _, Nat.zero_le _⟩ rfl dX4_provedSource_72 (r_kp (fun H locs hS => ?_))
            refine r_astoreq (lv' := [(5, va_rf ((firstOf T i (T 6 f)).map (ad 4))), (4, .ref (ad 1 i)), (3, .int (nI i)), (0, .ref (ad 0 0)), (1, .ref (ad 1 d)), (2, .ref (ad 4 f))]) hx hb dX4_provedSource_75 hl (by decide) rfl (fun ls hl => ?_)
            refine r_aloadq hx hb dX4_provedSource_77 (lv_at hl 0 rfl) ?_
            refine r_ifnullq (tgt := 100) hx hb dX4_provedSource_79 (by decide) (fun q79 => ?_) (fun x79 q79 => ?_)
            · -- T
              have hm : firstOf T i (T 6 f) = none := by cases ho : firstOf T i (T 6 f) with | none => rfl | some m => rw [ho] at q79; cases q79
              have qs : provesBy T d f i = false := pB_3 hm
              refine lv_iinc (v := nI (i + 1)) (lv' := [(3, .int (nI (i + 1))), (5, va_rf ((firstOf T i (T 6 f)).map (ad 4))), (4, .ref (ad 1 i)), (0, .ref (ad 0 0)), (1, .ref (ad 1 d)), (2, .ref (ad 4 f))]) hx hb dX4_provedSource_100 hl (k := 2) rfl (nI_inc _) (by decide) rfl (fun ls hl => ?_)
              refine lv_goto (tgt := 24) hx hb dX4_provedSource_103 (by decide) ?_
              exact ih (i + 1) (by omega) _ _ _ ⟨(show i + 1 ≤ nD T by omega), (fun o ho => by
                      by_cases e : o = i
                      · rw [e]
                        exact qs
                      · exact hz o (by omega)), hS, lv_sub hl [0, 3, 4, 5] rfl⟩
            · -- F
              obtain ⟨m, hm⟩ : ∃ z, firstOf T i (T 6 f) = some z := by cases ho : firstOf T i (T 6 f) with | none => rw [ho] at q79; cases q79 | some m => exact ⟨m, rfl⟩
              have hmC : m < nC T := (fstB_some.mp hm).1
              rw [hm] at hl
              have hl : lv_has ls 6 [(5, .ref (ad 4 m)), (4, .ref (ad 1 i)), (3, .int (nI i)), (0, .ref (ad 0 0)), (1, .ref (ad 1 d)), (2, .ref (ad 4 f))] := hl
              refine lv_aload hx hb dX4_provedSource_82 (lv_at hl 0 rfl) ?_
              refine gf_X4_192 hx hb hown hK hS (hI.coin hmC) rfl dX4_provedSource_84 ?_
              refine lv_aload_n hx hb dX4_provedSource_87 rfl (lv_at hl 5 rfl) ?_
              refine gf_X4_192 hx hb hown hK hS (hI.coin hfC) rfl dX4_provedSource_88 ?_
              refine r_icmp_ge (a := m) (b := f) (tgt := 100) hx hb (by omega) (by omega) dX4_provedSource_91 (by decide) (fun q91 => ?_) (fun q91 => ?_)
              · -- T
                have qs : provesBy T d f i = false := pB_4 hm q91
                refine lv_iinc (v := nI (i + 1)) (lv' := [(3, .int (nI (i + 1))), (5, .ref (ad 4 m)), (4, .ref (ad 1 i)), (0, .ref (ad 0 0)), (1, .ref (ad 1 d)), (2, .ref (ad 4 f))]) hx hb dX4_provedSource_100 hl (k := 2) rfl (nI_inc _) (by decide) rfl (fun ls hl => ?_)
                refine lv_goto (tgt := 24) hx hb dX4_provedSource_103 (by decide) ?_
                exact ih (i + 1) (by omega) _ _ _ ⟨(show i + 1 ≤ nD T by omega), (fun o ho => by
                        by_cases e : o = i
                        · rw [e]
                          exact qs
                        · exact hz o (by omega)), hS, lv_sub hl [0, 3, 4, 5] rfl⟩
              · -- F
                refine lv_aload hx hb dX4_provedSource_94 (lv_at hl 1 rfl) ?_
                refine gf_X4_231 hx hb hown hK hS (hI.die hi) rfl dX4_provedSource_96 ?_
                exact r_iret hx hb hr hlocks hS (⟨by rw [prI_s (hps.trans (fstB_some.mpr ⟨hi, pB_5 q51 q63 hm q91, hz⟩))], rfl, rfl⟩) (Nat.zero_le _) (Nat.zero_le _) dX4_provedSource_99
    · -- F
      have hp := prI_n (proofO_b hf (by omega))
      refine lv_iconst (v := (-1)) hx hb dX4_provedSource_20 (by decide) ?_
      exact r_iret hx hb hr hlocks hS (⟨by rw [hp], rfl, rfl⟩) (Nat.zero_le _) (Nat.zero_le _) dX4_provedSource_21
