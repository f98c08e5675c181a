/-! the model: the calls that read (printed by wip/whole/gen/mod2.py) -/
theorem oI_eq {o : Option Nat} {i : Nat} (ho : ∀ x, o = some x → x < 2 ^ 31) (hi : i < 2 ^ 31) : oI o = nI i ↔ o = some i := by
  cases o with
  | none => exact ⟨fun e => absurd e.symm (nI_m1 hi), fun e => (nomatch e)⟩
  | some x => exact ⟨fun e => congrArg some ((nI_eq (ho x rfl) hi).mp e), fun e => congrArg nI (Option.some.inj e)⟩
theorem stA_a {T : rTab} {d j : Nat} (h : ¬ T 5 j = d) : stageAt T d j = false := by
  unfold stageAt
  rw [decide_eq_false h, Bool.false_and]
theorem stA_b {T : rTab} {d j : Nat} (h : ¬ firstOf T d (T 6 j) = some j) : stageAt T d j = false := by
  unfold stageAt
  rw [decide_eq_false h, Bool.and_false]
theorem stA_t {T : rTab} {d j : Nat} (h5 : T 5 j = d) (h : firstOf T d (T 6 j) = some j) : stageAt T d j = true := by
  unfold stageAt
  rw [decide_eq_true h5, decide_eq_true h]
  rfl
theorem cbB_a {T : rTab} {j i : Nat} (h : ¬ T 1 i = T 1 (T 5 j)) : cbB T j i = false := by
  unfold cbB
  rw [decide_eq_false h, Bool.false_and]
theorem cbB_b {T : rTab} {j i : Nat} (h : firstOf T i (T 6 j) = none) : cbB T j i = false := by
  unfold cbB
  rw [h]
  exact Bool.and_false _
theorem cbB_t {T : rTab} {j i x : Nat} (h1 : T 1 i = T 1 (T 5 j)) (h : firstOf T i (T 6 j) = some x) : cbB T j i = true := by
  unfold cbB
  rw [h, decide_eq_true h1]
  rfl
theorem ofB_n {T : rTab} {k d : Nat} (h : offer T k d = none) : offerB T k d = false := by
  unfold offerB
  rw [h]
  rfl
theorem ofB_s {T : rTab} {k d x : Nat} (h : offer T k d = some x) : offerB T k d = true := by
  unfold offerB
  rw [h]
  rfl
theorem sumN_s {f : Nat → Nat} {n : Nat} : sumN f (n + 1) = sumN f n + f n := rfl
theorem sub_gt {a b : Nat} (ha : a < 2 ^ 30) (hb : b < 2 ^ 30) : nI a - nI b > 0 ↔ b < a := by
  show (0 : Int32) < _ ↔ _
  rw [Int32.lt_iff_toInt_lt, pk_sub_toInt ha hb]
  show (0 : Int) < _ ↔ _
  omega
theorem sub_z {a b : Nat} (ha : a < 2 ^ 30) (hb : b < 2 ^ 30) : nI a - nI b = 0 ↔ a = b := by
  constructor
  · intro h
    have h2 := congrArg Int32.toInt h
    rw [pk_sub_toInt ha hb] at h2
    have h3 : (0 : Int32).toInt = 0 := rfl
    omega
  · intro h
    rw [h]
    exact Int32.sub_self _
theorem ah_a {T : rTab} {k j o : Nat} (h : ¬ T 8 o = k + 1) : aheadOf T k j o = false := by
  unfold aheadOf ownAt
  rw [decide_eq_false h, Bool.false_and]
theorem ah_b {T : rTab} {k j o : Nat} (h : T 8 o = k + 1) (hp : priceN T j < priceN T o) : aheadOf T k j o = true := by
  unfold aheadOf ownAt
  rw [decide_eq_true h, decide_eq_true hp]
  rfl
theorem ah_c {T : rTab} {k j o : Nat} (h : T 8 o = k + 1) (hp : priceN T o = priceN T j) (ho : o < j) : aheadOf T k j o = true := by
  unfold aheadOf ownAt
  rw [decide_eq_true h, decide_eq_true hp, decide_eq_true ho]
  exact Bool.or_true _
theorem ah_d {T : rTab} {k j o : Nat} (hp : priceN T o = priceN T j) (ho : ¬ o < j) : aheadOf T k j o = false := by
  unfold aheadOf
  rw [decide_eq_false ho, hp, decide_eq_false (Nat.lt_irrefl _), Bool.and_false]
  exact Bool.and_false _
theorem ah_e {T : rTab} {k j o : Nat} (hp : ¬ priceN T j < priceN T o) (hp2 : ¬ priceN T o = priceN T j) : aheadOf T k j o = false := by
  unfold aheadOf
  rw [decide_eq_false hp, decide_eq_false hp2]
  exact Bool.and_false _
theorem fals_any {T : rTab} {q : Nat} {n : Nat} (hn : n = T 12 q) {b : Bool} (hb : b = (List.range n).any (fun x => !tru T (T 13 (4 * q + x) % 1000))) : falsS T q = b := by
  subst hn
  exact hb.symm
theorem any_s {p : Nat → Bool} {n : Nat} : (List.range (n + 1)).any p = ((List.range n).any p || p n) := by
  rw [List.range_succ, List.any_append]
  show ((List.range n).any p || (p n || false)) = _
  rw [Bool.or_false]

set_option maxHeartbeats 4000000 in
set_option maxRecDepth 100000 in
theorem c_X5_defects {G : rG} {l : Launch} {T : rTab} {th : Int32} {rg : Nat → Int32} {C : rC} {ad : rA} (hN : mNu T) (a : Int32) : rMet G l yX5_defects cX5_defects 2 (some .int) (rmP 3) [.ref (ad 30 0), .int a] (mC G T th rg C ad) ad (mP G (qS T (byN (nC T) a (fun j => nI (T 6 j)))) rg C ad) := by
  refine rMet.of (by decide) ?_
  intro p e s m below meth c hx hb hml hr hlocks hown hname hK hZ hS
  have hown : s.vm.findClass RX5 = some m.cls := hown
  have hA : ∀ q : Nat, s.heap.size ≤ q → (rF (mC G T th rg C ad) ad s.heap.size) q := rF.new
  refine r_entry _ (Nat.le_of_ble_eq_true rfl) (fun ls hl => ?_)
  have hl : lv_has ls 2 [(0, .ref (ad 30 0)), (1, .int a)] := hl
  have hnD := hN.hD
  have hnC := hN.hC
  have hnS := hN.hS
  refine lv_aload_n hx hb dX5_defects_0 rfl (lv_at hl 0 rfl) ?_
  refine lv_aload_n hx hb dX5_defects_1 rfl (lv_at hl 0 rfl) ?_
  refine lv_iload_n hx hb dX5_defects_2 rfl (lv_at hl 1 rfl) ?_
  refine cl_X5_74 hx hb hml hown hK hZ hS hA (c_X5_isCoin hN a) mC_30 rfl hl.1 (Nat.le_of_ble_eq_true rfl) ⟨Nat.le_of_ble_eq_true rfl, Nat.le_of_ble_eq_true rfl⟩ ⟨Nat.zero_le _, Nat.zero_le _⟩ rfl dX5_defects_3 (r_kp (fun H locs hS => ?_))
  refine r_ifb_eq (b := ((ixO a (nC T)).isSome)) (tgt := 13) hx hb dX5_defects_6 (by decide) (fun q6 => ?_) (fun q6 => ?_)
  · -- T
    have hix := ix_no q6
    refine lv_iconst (v := nI 1) hx hb dX5_defects_13 (by decide) ?_
    refine pf_X5_52 hx hb hown hK hS mC_30 rfl rfl (fs' := [.int (nI (nD T)), .ref (ad 31 0), .ref (ad 32 0), .ref (ad 33 0), .ref (ad 34 0), .int (nI (nC T)), .ref (ad 35 0), .ref (ad 36 0), .ref (ad 37 0), .ref (ad 38 0), .ref (ad 39 0), .ref (ad 40 0), .ref (ad 41 0), .int (nI (nS T)), .ref (ad 42 0), .ref (ad 43 0), .ref (ad 44 0), .int (nI 1)]) (Nat.le_of_ble_eq_true rfl) rfl dX5_defects_14 (fun H locs hS => ?_)
    rw [mC_pth] at hS
    refine lv_aload_n hx hb dX5_defects_17 rfl (lv_at hl 0 rfl) ?_
    refine gf_X5_52 hx hb hown hK hS mC_30 rfl dX5_defects_18 ?_
    refine r_if_ne (a := 1) (tgt := 33) hx hb (by decide) dX5_defects_21 (by decide) (fun q21 => ?_) (fun q21 => ?_)
    · -- T
      refine lv_iconst (v := nI 0) hx hb dX5_defects_33 (by decide) ?_
      exact r_iret hx hb hr hlocks hS (mP.mkE (n := 0) (congrArg (qS T) (byN_n hix))) (Nat.zero_le _) (Nat.zero_le _) dX5_defects_34
    · -- F
      exact absurd q21 (by decide)
  · -- F
    obtain ⟨j, hv9, hix, rfl⟩ := ix_get q6
    have hcn := hN.cn hv9
    refine lv_iconst (v := nI 0) hx hb dX5_defects_9 (by decide) ?_
    refine lv_goto (tgt := 14) hx hb dX5_defects_10 (by decide) ?_
    refine pf_X5_52 hx hb hown hK hS mC_30 rfl rfl (fs' := [.int (nI (nD T)), .ref (ad 31 0), .ref (ad 32 0), .ref (ad 33 0), .ref (ad 34 0), .int (nI (nC T)), .ref (ad 35 0), .ref (ad 36 0), .ref (ad 37 0), .ref (ad 38 0), .ref (ad 39 0), .ref (ad 40 0), .ref (ad 41 0), .int (nI (nS T)), .ref (ad 42 0), .ref (ad 43 0), .ref (ad 44 0), .int (nI 0)]) (Nat.le_of_ble_eq_true rfl) rfl dX5_defects_14 (fun H locs hS => ?_)
    rw [mC_pth] at hS
    refine lv_aload_n hx hb dX5_defects_17 rfl (lv_at hl 0 rfl) ?_
    refine gf_X5_52 hx hb hown hK hS mC_30 rfl dX5_defects_18 ?_
    refine r_if_ne (a := 0) (tgt := 33) hx hb (by decide) dX5_defects_21 (by decide) (fun q21 => ?_) (fun q21 => ?_)
    · -- T
      exact absurd q21 (by decide)
    · -- F
      refine lv_aload_n hx hb dX5_defects_24 rfl (lv_at hl 0 rfl) ?_
      refine gf_X5_25 hx hb hown hK hS mC_30 rfl dX5_defects_25 ?_
      refine lv_iload_n hx hb dX5_defects_28 rfl (lv_at hl 1 rfl) ?_
      refine r_iald hx hb hK.1 hS 0 mC_36 rfl (nI_in0 (by omega) (by omega)) (v := nI (T 6 j)) (tA_at (by omega)) dX5_defects_29 ?_
      refine lv_goto (tgt := 34) hx hb dX5_defects_30 (by decide) ?_
      exact r_iret hx hb hr hlocks hS (mP.mk0 (congrArg (qS T) (byN_s hix)) rfl mEq.rf) (Nat.zero_le _) (Nat.zero_le _) dX5_defects_34

set_option maxHeartbeats 4000000 in
set_option maxRecDepth 100000 in
theorem c_X5_proof {G : rG} {l : Launch} {T : rTab} {th : Int32} {rg : Nat → Int32} {C : rC} {ad : rA} (hN : mNu T) (a : Int32) : rMet G l yX5_proof cX5_proof 2 (some .int) (rmP 3) [.ref (ad 30 0), .int a] (mC G T th rg C ad) ad (mP G (qS T (byN (nD T) a (fun d => prI T d))) rg C ad) := by
  refine rMet.of (by decide) ?_
  intro p e s m below meth c hx hb hml hr hlocks hown hname hK hZ hS
  have hown : s.vm.findClass RX5 = some m.cls := hown
  have hA : ∀ q : Nat, s.heap.size ≤ q → (rF (mC G T th rg C ad) ad s.heap.size) q := rF.new
  refine r_entry _ (Nat.le_of_ble_eq_true rfl) (fun ls hl => ?_)
  have hl : lv_has ls 2 [(0, .ref (ad 30 0)), (1, .int a)] := hl
  have hnD := hN.hD
  have hnC := hN.hC
  have hnS := hN.hS
  refine lv_aload_n hx hb dX5_proof_0 rfl (lv_at hl 0 rfl) ?_
  refine lv_aload_n hx hb dX5_proof_1 rfl (lv_at hl 0 rfl) ?_
  refine lv_iload_n hx hb dX5_proof_2 rfl (lv_at hl 1 rfl) ?_
  refine cl_X5_66 hx hb hml hown hK hZ hS hA (c_X5_isDie hN a) mC_30 rfl hl.1 (Nat.le_of_ble_eq_true rfl) ⟨Nat.le_of_ble_eq_true rfl, Nat.le_of_ble_eq_true rfl⟩ ⟨Nat.zero_le _, Nat.zero_le _⟩ rfl dX5_proof_3 (r_kp (fun H locs hS => ?_))
  refine r_ifb_eq (b := ((ixO a (nD T)).isSome)) (tgt := 13) hx hb dX5_proof_6 (by decide) (fun q6 => ?_) (fun q6 => ?_)
  · -- T
    have hix := ix_no q6
    refine lv_iconst (v := nI 1) hx hb dX5_proof_13 (by decide) ?_
    refine pf_X5_52 hx hb hown hK hS mC_30 rfl rfl (fs' := [.int (nI (nD T)), .ref (ad 31 0), .ref (ad 32 0), .ref (ad 33 0), .ref (ad 34 0), .int (nI (nC T)), .ref (ad 35 0), .ref (ad 36 0), .ref (ad 37 0), .ref (ad 38 0), .ref (ad 39 0), .ref (ad 40 0), .ref (ad 41 0), .int (nI (nS T)), .ref (ad 42 0), .ref (ad 43 0), .ref (ad 44 0), .int (nI 1)]) (Nat.le_of_ble_eq_true rfl) rfl dX5_proof_14 (fun H locs hS => ?_)
    rw [mC_pth] at hS
    refine lv_aload_n hx hb dX5_proof_17 rfl (lv_at hl 0 rfl) ?_
    refine gf_X5_52 hx hb hown hK hS mC_30 rfl dX5_proof_18 ?_
    refine r_if_ne (a := 1) (tgt := 32) hx hb (by decide) dX5_proof_21 (by decide) (fun q21 => ?_) (fun q21 => ?_)
    · -- T
      refine lv_iconst (v := nI 0) hx hb dX5_proof_32 (by decide) ?_
      exact r_iret hx hb hr hlocks hS (mP.mkE (n := 0) (congrArg (qS T) (byN_n hix))) (Nat.zero_le _) (Nat.zero_le _) dX5_proof_33
    · -- F
      exact absurd q21 (by decide)
  · -- F
    obtain ⟨d, hv9, hix, rfl⟩ := ix_get q6
    have hdn := hN.dn hv9
    refine lv_iconst (v := nI 0) hx hb dX5_proof_9 (by decide) ?_
    refine lv_goto (tgt := 14) hx hb dX5_proof_10 (by decide) ?_
    refine pf_X5_52 hx hb hown hK hS mC_30 rfl rfl (fs' := [.int (nI (nD T)), .ref (ad 31 0), .ref (ad 32 0), .ref (ad 33 0), .ref (ad 34 0), .int (nI (nC T)), .ref (ad 35 0), .ref (ad 36 0), .ref (ad 37 0), .ref (ad 38 0), .ref (ad 39 0), .ref (ad 40 0), .ref (ad 41 0), .int (nI (nS T)), .ref (ad 42 0), .ref (ad 43 0), .ref (ad 44 0), .int (nI 0)]) (Nat.le_of_ble_eq_true rfl) rfl dX5_proof_14 (fun H locs hS => ?_)
    rw [mC_pth] at hS
    refine lv_aload_n hx hb dX5_proof_17 rfl (lv_at hl 0 rfl) ?_
    refine gf_X5_52 hx hb hown hK hS mC_30 rfl dX5_proof_18 ?_
    refine r_if_ne (a := 0) (tgt := 32) hx hb (by decide) dX5_proof_21 (by decide) (fun q21 => ?_) (fun q21 => ?_)
    · -- T
      exact absurd q21 (by decide)
    · -- F
      refine lv_aload_n hx hb dX5_proof_24 rfl (lv_at hl 0 rfl) ?_
      refine lv_iload_n hx hb dX5_proof_25 rfl (lv_at hl 1 rfl) ?_
      refine cl_X5_81 hx hb hml hown hK hZ hS hA (c_X5_proofOf hN hv9) mC_30 rfl hl.1 (Nat.le_of_ble_eq_true rfl) ⟨Nat.le_of_ble_eq_true rfl, Nat.le_of_ble_eq_true rfl⟩ ⟨Nat.zero_le _, Nat.zero_le _⟩ rfl dX5_proof_26 (r_kp (fun H locs hS => ?_))
      refine lv_goto (tgt := 33) hx hb dX5_proof_29 (by decide) ?_
      exact r_iret hx hb hr hlocks hS (mP.mk0 (congrArg (qS T) (byN_s hix)) prI_o mEq.rf) (Nat.zero_le _) (Nat.zero_le _) dX5_proof_33

set_option maxHeartbeats 4000000 in
set_option maxRecDepth 100000 in
theorem c_X5_isCondemned {G : rG} {l : Launch} {T : rTab} {th : Int32} {rg : Nat → Int32} {C : rC} {ad : rA} (hN : mNu T) (a : Int32) : rMet G l yX5_isCondemned cX5_isCondemned 2 (some .boolean) (rmP 3) [.ref (ad 30 0), .int a] (mC G T th rg C ad) ad (mP G (qS T (byN (nD T) a (fun d => bI (decide (T 4 d = 1))))) rg C ad) := by
  refine rMet.of (by decide) ?_
  intro p e s m below meth c hx hb hml hr hlocks hown hname hK hZ hS
  have hown : s.vm.findClass RX5 = some m.cls := hown
  have hA : ∀ q : Nat, s.heap.size ≤ q → (rF (mC G T th rg C ad) ad s.heap.size) q := rF.new
  refine r_entry _ (Nat.le_of_ble_eq_true rfl) (fun ls hl => ?_)
  have hl : lv_has ls 2 [(0, .ref (ad 30 0)), (1, .int a)] := hl
  have hnD := hN.hD
  have hnC := hN.hC
  have hnS := hN.hS
  refine lv_aload_n hx hb dX5_isCondemned_0 rfl (lv_at hl 0 rfl) ?_
  refine lv_aload_n hx hb dX5_isCondemned_1 rfl (lv_at hl 0 rfl) ?_
  refine lv_iload_n hx hb dX5_isCondemned_2 rfl (lv_at hl 1 rfl) ?_
  refine cl_X5_66 hx hb hml hown hK hZ hS hA (c_X5_isDie hN a) mC_30 rfl hl.1 (Nat.le_of_ble_eq_true rfl) ⟨Nat.le_of_ble_eq_true rfl, Nat.le_of_ble_eq_true rfl⟩ ⟨Nat.zero_le _, Nat.zero_le _⟩ rfl dX5_isCondemned_3 (r_kp (fun H locs hS => ?_))
  refine r_ifb_eq (b := ((ixO a (nD T)).isSome)) (tgt := 13) hx hb dX5_isCondemned_6 (by decide) (fun q6 => ?_) (fun q6 => ?_)
  · -- T
    have hix := ix_no q6
    refine lv_iconst (v := nI 1) hx hb dX5_isCondemned_13 (by decide) ?_
    refine pf_X5_52 hx hb hown hK hS mC_30 rfl rfl (fs' := [.int (nI (nD T)), .ref (ad 31 0), .ref (ad 32 0), .ref (ad 33 0), .ref (ad 34 0), .int (nI (nC T)), .ref (ad 35 0), .ref (ad 36 0), .ref (ad 37 0), .ref (ad 38 0), .ref (ad 39 0), .ref (ad 40 0), .ref (ad 41 0), .int (nI (nS T)), .ref (ad 42 0), .ref (ad 43 0), .ref (ad 44 0), .int (nI 1)]) (Nat.le_of_ble_eq_true rfl) rfl dX5_isCondemned_14 (fun H locs hS => ?_)
    rw [mC_pth] at hS
    refine lv_aload_n hx hb dX5_isCondemned_17 rfl (lv_at hl 0 rfl) ?_
    refine gf_X5_52 hx hb hown hK hS mC_30 rfl dX5_isCondemned_18 ?_
    refine r_if_ne (a := 1) (tgt := 38) hx hb (by decide) dX5_isCondemned_21 (by decide) (fun q21 => ?_) (fun q21 => ?_)
    · -- T
      refine lv_iconst (v := nI 0) hx hb dX5_isCondemned_38 (by decide) ?_
      exact r_zret hx hb hr hlocks hS rfl (mP.mkE (n := 0) (congrArg (qS T) (byN_n hix))) (Nat.zero_le _) (Nat.zero_le _) dX5_isCondemned_39
    · -- F
      exact absurd q21 (by decide)
  · -- F
    obtain ⟨d, hv9, hix, rfl⟩ := ix_get q6
    have hdn := hN.dn hv9
    refine lv_iconst (v := nI 0) hx hb dX5_isCondemned_9 (by decide) ?_
    refine lv_goto (tgt := 14) hx hb dX5_isCondemned_10 (by decide) ?_
    refine pf_X5_52 hx hb hown hK hS mC_30 rfl rfl (fs' := [.int (nI (nD T)), .ref (ad 31 0), .ref (ad 32 0), .ref (ad 33 0), .ref (ad 34 0), .int (nI (nC T)), .ref (ad 35 0), .ref (ad 36 0), .ref (ad 37 0), .ref (ad 38 0), .ref (ad 39 0), .ref (ad 40 0), .ref (ad 41 0), .int (nI (nS T)), .ref (ad 42 0), .ref (ad 43 0), .ref (ad 44 0), .int (nI 0)]) (Nat.le_of_ble_eq_true rfl) rfl dX5_isCondemned_14 (fun H locs hS => ?_)
    rw [mC_pth] at hS
    refine lv_aload_n hx hb dX5_isCondemned_17 rfl (lv_at hl 0 rfl) ?_
    refine gf_X5_52 hx hb hown hK hS mC_30 rfl dX5_isCondemned_18 ?_
    refine r_if_ne (a := 0) (tgt := 38) hx hb (by decide) dX5_isCondemned_21 (by decide) (fun q21 => ?_) (fun q21 => ?_)
    · -- T
      exact absurd q21 (by decide)
    · -- F
      refine lv_aload_n hx hb dX5_isCondemned_24 rfl (lv_at hl 0 rfl) ?_
      refine gf_X5_19 hx hb hown hK hS mC_30 rfl dX5_isCondemned_25 ?_
      refine lv_iload_n hx hb dX5_isCondemned_28 rfl (lv_at hl 1 rfl) ?_
      refine r_iald hx hb hK.1 hS 0 mC_34 rfl (nI_in0 (by omega) (by omega)) (v := nI (T 4 d)) (tA_at (by omega)) dX5_isCondemned_29 ?_
      refine lv_iconst (v := nI 1) hx hb dX5_isCondemned_30 (by decide) ?_
      refine r_icmp_ne (a := T 4 d) (b := 1) (tgt := 38) hx hb (by omega) (by omega) dX5_isCondemned_31 (by decide) (fun q31 => ?_) (fun q31 => ?_)
      · -- T
        refine lv_iconst (v := nI 0) hx hb dX5_isCondemned_38 (by decide) ?_
        exact r_zret hx hb hr hlocks hS rfl (mP.mk0 (congrArg (qS T) (byN_s hix)) (by rw [decide_eq_false q31]; rfl) mEq.rf) (Nat.zero_le _) (Nat.zero_le _) dX5_isCondemned_39
      · -- F
        refine lv_iconst (v := nI 1) hx hb dX5_isCondemned_34 (by decide) ?_
        refine lv_goto (tgt := 39) hx hb dX5_isCondemned_35 (by decide) ?_
        exact r_zret hx hb hr hlocks hS rfl (mP.mk0 (congrArg (qS T) (byN_s hix)) (by rw [decide_eq_true q31]; rfl) mEq.rf) (Nat.zero_le _) (Nat.zero_le _) dX5_isCondemned_39

set_option maxHeartbeats 4000000 in
set_option maxRecDepth 100000 in
theorem c_X5_isTrue {G : rG} {l : Launch} {T : rTab} {th : Int32} {rg : Nat → Int32} {C : rC} {ad : rA} (hN : mNu T) (a : Int32) : rMet G l yX5_isTrue cX5_isTrue 2 (some .boolean) (rmP 3) [.ref (ad 30 0), .int a] (mC G T th rg C ad) ad (mP G (qS T (byN (nC T) a (fun j => bI (tru T j)))) rg C ad) := by
  refine rMet.of (by decide) ?_
  intro p e s m below meth c hx hb hml hr hlocks hown hname hK hZ hS
  have hown : s.vm.findClass RX5 = some m.cls := hown
  have hA : ∀ q : Nat, s.heap.size ≤ q → (rF (mC G T th rg C ad) ad s.heap.size) q := rF.new
  refine r_entry _ (Nat.le_of_ble_eq_true rfl) (fun ls hl => ?_)
  have hl : lv_has ls 2 [(0, .ref (ad 30 0)), (1, .int a)] := hl
  have hnD := hN.hD
  have hnC := hN.hC
  have hnS := hN.hS
  refine lv_aload_n hx hb dX5_isTrue_0 rfl (lv_at hl 0 rfl) ?_
  refine lv_aload_n hx hb dX5_isTrue_1 rfl (lv_at hl 0 rfl) ?_
  refine lv_iload_n hx hb dX5_isTrue_2 rfl (lv_at hl 1 rfl) ?_
  refine cl_X5_74 hx hb hml hown hK hZ hS hA (c_X5_isCoin hN a) mC_30 rfl hl.1 (Nat.le_of_ble_eq_true rfl) ⟨Nat.le_of_ble_eq_true rfl, Nat.le_of_ble_eq_true rfl⟩ ⟨Nat.zero_le _, Nat.zero_le _⟩ rfl dX5_isTrue_3 (r_kp (fun H locs hS => ?_))
  refine r_ifb_eq (b := ((ixO a (nC T)).isSome)) (tgt := 13) hx hb dX5_isTrue_6 (by decide) (fun q6 => ?_) (fun q6 => ?_)
  · -- T
    have hix := ix_no q6
    refine lv_iconst (v := nI 1) hx hb dX5_isTrue_13 (by decide) ?_
    refine pf_X5_52 hx hb hown hK hS mC_30 rfl rfl (fs' := [.int (nI (nD T)), .ref (ad 31 0), .ref (ad 32 0), .ref (ad 33 0), .ref (ad 34 0), .int (nI (nC T)), .ref (ad 35 0), .ref (ad 36 0), .ref (ad 37 0), .ref (ad 38 0), .ref (ad 39 0), .ref (ad 40 0), .ref (ad 41 0), .int (nI (nS T)), .ref (ad 42 0), .ref (ad 43 0), .ref (ad 44 0), .int (nI 1)]) (Nat.le_of_ble_eq_true rfl) rfl dX5_isTrue_14 (fun H locs hS => ?_)
    rw [mC_pth] at hS
    refine lv_aload_n hx hb dX5_isTrue_17 rfl (lv_at hl 0 rfl) ?_
    refine gf_X5_52 hx hb hown hK hS mC_30 rfl dX5_isTrue_18 ?_
    refine r_if_ne (a := 1) (tgt := 36) hx hb (by decide) dX5_isTrue_21 (by decide) (fun q21 => ?_) (fun q21 => ?_)
    · -- T
      refine lv_iconst (v := nI 0) hx hb dX5_isTrue_36 (by decide) ?_
      exact r_zret hx hb hr hlocks hS rfl (mP.mkE (n := 0) (congrArg (qS T) (byN_n hix))) (Nat.zero_le _) (Nat.zero_le _) dX5_isTrue_37
    · -- F
      exact absurd q21 (by decide)
  · -- F
    obtain ⟨j, hv9, hix, rfl⟩ := ix_get q6
    have hcn := hN.cn hv9
    refine lv_iconst (v := nI 0) hx hb dX5_isTrue_9 (by decide) ?_
    refine lv_goto (tgt := 14) hx hb dX5_isTrue_10 (by decide) ?_
    refine pf_X5_52 hx hb hown hK hS mC_30 rfl rfl (fs' := [.int (nI (nD T)), .ref (ad 31 0), .ref (ad 32 0), .ref (ad 33 0), .ref (ad 34 0), .int (nI (nC T)), .ref (ad 35 0), .ref (ad 36 0), .ref (ad 37 0), .ref (ad 38 0), .ref (ad 39 0), .ref (ad 40 0), .ref (ad 41 0), .int (nI (nS T)), .ref (ad 42 0), .ref (ad 43 0), .ref (ad 44 0), .int (nI 0)]) (Nat.le_of_ble_eq_true rfl) rfl dX5_isTrue_14 (fun H locs hS => ?_)
    rw [mC_pth] at hS
    refine lv_aload_n hx hb dX5_isTrue_17 rfl (lv_at hl 0 rfl) ?_
    refine gf_X5_52 hx hb hown hK hS mC_30 rfl dX5_isTrue_18 ?_
    refine r_if_ne (a := 0) (tgt := 36) hx hb (by decide) dX5_isTrue_21 (by decide) (fun q21 => ?_) (fun q21 => ?_)
    · -- T
      exact absurd q21 (by decide)
    · -- F
      refine lv_aload_n hx hb dX5_isTrue_24 rfl (lv_at hl 0 rfl) ?_
      refine lv_iload_n hx hb dX5_isTrue_25 rfl (lv_at hl 1 rfl) ?_
      refine cl_X5_84 hx hb hml hown hK hZ hS hA (c_X5_isTrueNow hN hv9) mC_30 rfl hl.1 (Nat.le_of_ble_eq_true rfl) ⟨Nat.le_of_ble_eq_true rfl, Nat.le_of_ble_eq_true rfl⟩ ⟨Nat.zero_le _, Nat.zero_le _⟩ rfl dX5_isTrue_26 (r_kp (fun H locs hS => ?_))
      refine r_ifb_eq (b := (tru T j)) (tgt := 36) hx hb dX5_isTrue_29 (by decide) (fun q29 => ?_) (fun q29 => ?_)
      · -- T
        refine lv_iconst (v := nI 0) hx hb dX5_isTrue_36 (by decide) ?_
        exact r_zret hx hb hr hlocks hS rfl (mP.mk0 (congrArg (qS T) (byN_s hix)) (by rw [q29]; rfl) mEq.rf) (Nat.zero_le _) (Nat.zero_le _) dX5_isTrue_37
      · -- F
        refine lv_iconst (v := nI 1) hx hb dX5_isTrue_32 (by decide) ?_
        refine lv_goto (tgt := 37) hx hb dX5_isTrue_33 (by decide) ?_
        exact r_zret hx hb hr hlocks hS rfl (mP.mk0 (congrArg (qS T) (byN_s hix)) (by rw [q29]; rfl) mEq.rf) (Nat.zero_le _) (Nat.zero_le _) dX5_isTrue_37

set_option maxHeartbeats 4000000 in
set_option maxRecDepth 100000 in
theorem c_X5_rarity {G : rG} {l : Launch} {T : rTab} {th : Int32} {rg : Nat → Int32} {C : rC} {ad : rA} (hN : mNu T) (a : Int32) : rMet G l yX5_rarity cX5_rarity 2 (some .int) (rmP 3) [.ref (ad 30 0), .int a] (mC G T th rg C ad) ad (mP G (qS T (byN (nD T) a (fun d => nI (rar T d)))) rg C ad) := by
  refine rMet.of (by decide) ?_
  intro p e s m below meth c hx hb hml hr hlocks hown hname hK hZ hS
  have hown : s.vm.findClass RX5 = some m.cls := hown
  have hA : ∀ q : Nat, s.heap.size ≤ q → (rF (mC G T th rg C ad) ad s.heap.size) q := rF.new
  refine r_entry _ (Nat.le_of_ble_eq_true rfl) (fun ls hl => ?_)
  have hl : lv_has ls 2 [(0, .ref (ad 30 0)), (1, .int a)] := hl
  have hnD := hN.hD
  have hnC := hN.hC
  have hnS := hN.hS
  refine lv_aload_n hx hb dX5_rarity_0 rfl (lv_at hl 0 rfl) ?_
  refine lv_aload_n hx hb dX5_rarity_1 rfl (lv_at hl 0 rfl) ?_
  refine lv_iload_n hx hb dX5_rarity_2 rfl (lv_at hl 1 rfl) ?_
  refine cl_X5_66 hx hb hml hown hK hZ hS hA (c_X5_isDie hN a) mC_30 rfl hl.1 (Nat.le_of_ble_eq_true rfl) ⟨Nat.le_of_ble_eq_true rfl, Nat.le_of_ble_eq_true rfl⟩ ⟨Nat.zero_le _, Nat.zero_le _⟩ rfl dX5_rarity_3 (r_kp (fun H locs hS => ?_))
  refine r_ifb_eq (b := ((ixO a (nD T)).isSome)) (tgt := 13) hx hb dX5_rarity_6 (by decide) (fun q6 => ?_) (fun q6 => ?_)
  · -- T
    have hix := ix_no q6
    refine lv_iconst (v := nI 1) hx hb dX5_rarity_13 (by decide) ?_
    refine pf_X5_52 hx hb hown hK hS mC_30 rfl rfl (fs' := [.int (nI (nD T)), .ref (ad 31 0), .ref (ad 32 0), .ref (ad 33 0), .ref (ad 34 0), .int (nI (nC T)), .ref (ad 35 0), .ref (ad 36 0), .ref (ad 37 0), .ref (ad 38 0), .ref (ad 39 0), .ref (ad 40 0), .ref (ad 41 0), .int (nI (nS T)), .ref (ad 42 0), .ref (ad 43 0), .ref (ad 44 0), .int (nI 1)]) (Nat.le_of_ble_eq_true rfl) rfl dX5_rarity_14 (fun H locs hS => ?_)
    rw [mC_pth] at hS
    refine lv_aload_n hx hb dX5_rarity_17 rfl (lv_at hl 0 rfl) ?_
    refine gf_X5_52 hx hb hown hK hS mC_30 rfl dX5_rarity_18 ?_
    refine r_if_ne (a := 1) (tgt := 32) hx hb (by decide) dX5_rarity_21 (by decide) (fun q21 => ?_) (fun q21 => ?_)
    · -- T
      refine lv_iconst (v := nI 0) hx hb dX5_rarity_32 (by decide) ?_
      exact r_iret hx hb hr hlocks hS (mP.mkE (n := 0) (congrArg (qS T) (byN_n hix))) (Nat.zero_le _) (Nat.zero_le _) dX5_rarity_33
    · -- F
      exact absurd q21 (by decide)
  · -- F
    obtain ⟨d, hv9, hix, rfl⟩ := ix_get q6
    have hdn := hN.dn hv9
    refine lv_iconst (v := nI 0) hx hb dX5_rarity_9 (by decide) ?_
    refine lv_goto (tgt := 14) hx hb dX5_rarity_10 (by decide) ?_
    refine pf_X5_52 hx hb hown hK hS mC_30 rfl rfl (fs' := [.int (nI (nD T)), .ref (ad 31 0), .ref (ad 32 0), .ref (ad 33 0), .ref (ad 34 0), .int (nI (nC T)), .ref (ad 35 0), .ref (ad 36 0), .ref (ad 37 0), .ref (ad 38 0), .ref (ad 39 0), .ref (ad 40 0), .ref (ad 41 0), .int (nI (nS T)), .ref (ad 42 0), .ref (ad 43 0), .ref (ad 44 0), .int (nI 0)]) (Nat.le_of_ble_eq_true rfl) rfl dX5_rarity_14 (fun H locs hS => ?_)
    rw [mC_pth] at hS
    refine lv_aload_n hx hb dX5_rarity_17 rfl (lv_at hl 0 rfl) ?_
    refine gf_X5_52 hx hb hown hK hS mC_30 rfl dX5_rarity_18 ?_
    refine r_if_ne (a := 0) (tgt := 32) hx hb (by decide) dX5_rarity_21 (by decide) (fun q21 => ?_) (fun q21 => ?_)
    · -- T
      exact absurd q21 (by decide)
    · -- F
      refine lv_aload_n hx hb dX5_rarity_24 rfl (lv_at hl 0 rfl) ?_
      refine lv_iload_n hx hb dX5_rarity_25 rfl (lv_at hl 1 rfl) ?_
      refine cl_X5_87 hx hb hml hown hK hZ hS hA (c_X5_rarityOf hN hv9) mC_30 rfl hl.1 (Nat.le_of_ble_eq_true rfl) ⟨Nat.le_of_ble_eq_true rfl, Nat.le_of_ble_eq_true rfl⟩ ⟨Nat.zero_le _, Nat.zero_le _⟩ rfl dX5_rarity_26 (r_kp (fun H locs hS => ?_))
      refine lv_goto (tgt := 33) hx hb dX5_rarity_29 (by decide) ?_
      exact r_iret hx hb hr hlocks hS (mP.mk0 (congrArg (qS T) (byN_s hix)) rfl mEq.rf) (Nat.zero_le _) (Nat.zero_le _) dX5_rarity_33

set_option maxHeartbeats 4000000 in
set_option maxRecDepth 100000 in
theorem c_X5_price {G : rG} {l : Launch} {T : rTab} {th : Int32} {rg : Nat → Int32} {C : rC} {ad : rA} (hN : mNu T) (a : Int32) : rMet G l yX5_price cX5_price 2 (some .int) (rmP 5) [.ref (ad 30 0), .int a] (mC G T th rg C ad) ad (mP G (qS T (byN (nC T) a (fun j => nI (priceN T j)))) rg C ad) := by
  refine rMet.of (by decide) ?_
  intro p e s m below meth c hx hb hml hr hlocks hown hname hK hZ hS
  have hown : s.vm.findClass RX5 = some m.cls := hown
  have hA : ∀ q : Nat, s.heap.size ≤ q → (rF (mC G T th rg C ad) ad s.heap.size) q := rF.new
  refine r_entry _ (Nat.le_of_ble_eq_true rfl) (fun ls hl => ?_)
  have hl : lv_has ls 2 [(0, .ref (ad 30 0)), (1, .int a)] := hl
  have hnD := hN.hD
  have hnC := hN.hC
  have hnS := hN.hS
  refine lv_aload_n hx hb dX5_price_0 rfl (lv_at hl 0 rfl) ?_
  refine lv_aload_n hx hb dX5_price_1 rfl (lv_at hl 0 rfl) ?_
  refine lv_iload_n hx hb dX5_price_2 rfl (lv_at hl 1 rfl) ?_
  refine cl_X5_74 hx hb hml hown hK hZ hS hA (c_X5_isCoin hN a) mC_30 rfl hl.1 (Nat.le_of_ble_eq_true rfl) ⟨Nat.le_of_ble_eq_true rfl, Nat.le_of_ble_eq_true rfl⟩ ⟨Nat.zero_le _, Nat.zero_le _⟩ rfl dX5_price_3 (r_kp (fun H locs hS => ?_))
  refine r_ifb_eq (b := ((ixO a (nC T)).isSome)) (tgt := 13) hx hb dX5_price_6 (by decide) (fun q6 => ?_) (fun q6 => ?_)
  · -- T
    have hix := ix_no q6
    refine lv_iconst (v := nI 1) hx hb dX5_price_13 (by decide) ?_
    refine pf_X5_52 hx hb hown hK hS mC_30 rfl rfl (fs' := [.int (nI (nD T)), .ref (ad 31 0), .ref (ad 32 0), .ref (ad 33 0), .ref (ad 34 0), .int (nI (nC T)), .ref (ad 35 0), .ref (ad 36 0), .ref (ad 37 0), .ref (ad 38 0), .ref (ad 39 0), .ref (ad 40 0), .ref (ad 41 0), .int (nI (nS T)), .ref (ad 42 0), .ref (ad 43 0), .ref (ad 44 0), .int (nI 1)]) (Nat.le_of_ble_eq_true rfl) rfl dX5_price_14 (fun H locs hS => ?_)
    rw [mC_pth] at hS
    refine lv_aload_n hx hb dX5_price_17 rfl (lv_at hl 0 rfl) ?_
    refine gf_X5_52 hx hb hown hK hS mC_30 rfl dX5_price_18 ?_
    refine r_if_ne (a := 1) (tgt := 32) hx hb (by decide) dX5_price_21 (by decide) (fun q21 => ?_) (fun q21 => ?_)
    · -- T
      refine lv_iconst (v := nI 0) hx hb dX5_price_32 (by decide) ?_
      exact r_iret hx hb hr hlocks hS (mP.mkE (n := 0) (congrArg (qS T) (byN_n hix))) (Nat.zero_le _) (Nat.zero_le _) dX5_price_33
    · -- F
      exact absurd q21 (by decide)
  · -- F
    obtain ⟨j, hv9, hix, rfl⟩ := ix_get q6
    have hcn := hN.cn hv9
    refine lv_iconst (v := nI 0) hx hb dX5_price_9 (by decide) ?_
    refine lv_goto (tgt := 14) hx hb dX5_price_10 (by decide) ?_
    refine pf_X5_52 hx hb hown hK hS mC_30 rfl rfl (fs' := [.int (nI (nD T)), .ref (ad 31 0), .ref (ad 32 0), .ref (ad 33 0), .ref (ad 34 0), .int (nI (nC T)), .ref (ad 35 0), .ref (ad 36 0), .ref (ad 37 0), .ref (ad 38 0), .ref (ad 39 0), .ref (ad 40 0), .ref (ad 41 0), .int (nI (nS T)), .ref (ad 42 0), .ref (ad 43 0), .ref (ad 44 0), .int (nI 0)]) (Nat.le_of_ble_eq_true rfl) rfl dX5_price_14 (fun H locs hS => ?_)
    rw [mC_pth] at hS
    refine lv_aload_n hx hb dX5_price_17 rfl (lv_at hl 0 rfl) ?_
    refine gf_X5_52 hx hb hown hK hS mC_30 rfl dX5_price_18 ?_
    refine r_if_ne (a := 0) (tgt := 32) hx hb (by decide) dX5_price_21 (by decide) (fun q21 => ?_) (fun q21 => ?_)
    · -- T
      exact absurd q21 (by decide)
    · -- F
      refine lv_aload_n hx hb dX5_price_24 rfl (lv_at hl 0 rfl) ?_
      refine lv_iload_n hx hb dX5_price_25 rfl (lv_at hl 1 rfl) ?_
      refine cl_X5_96 hx hb hml hown hK hZ hS hA (c_X5_priceOf hN hv9) mC_30 rfl hl.1 (Nat.le_of_ble_eq_true rfl) ⟨Nat.le_of_ble_eq_true rfl, Nat.le_of_ble_eq_true rfl⟩ ⟨Nat.zero_le _, Nat.zero_le _⟩ rfl dX5_price_26 (r_kp (fun H locs hS => ?_))
      refine lv_goto (tgt := 33) hx hb dX5_price_29 (by decide) ?_
      exact r_iret hx hb hr hlocks hS (mP.mk0 (congrArg (qS T) (byN_s hix)) rfl mEq.rf) (Nat.zero_le _) (Nat.zero_le _) dX5_price_33

set_option maxHeartbeats 4000000 in
set_option maxRecDepth 100000 in
theorem c_X5_owner {G : rG} {l : Launch} {T : rTab} {th : Int32} {rg : Nat → Int32} {C : rC} {ad : rA} (hN : mNu T) (a : Int32) : rMet G l yX5_owner cX5_owner 2 (some .int) (rmP 3) [.ref (ad 30 0), .int a] (mC G T th rg C ad) ad (mP G (qS T (byN (nC T) a (fun j => nI (T 8 j) - nI 1))) rg C ad) := by
  refine rMet.of (by decide) ?_
  intro p e s m below meth c hx hb hml hr hlocks hown hname hK hZ hS
  have hown : s.vm.findClass RX5 = some m.cls := hown
  have hA : ∀ q : Nat, s.heap.size ≤ q → (rF (mC G T th rg C ad) ad s.heap.size) q := rF.new
  refine r_entry _ (Nat.le_of_ble_eq_true rfl) (fun ls hl => ?_)
  have hl : lv_has ls 2 [(0, .ref (ad 30 0)), (1, .int a)] := hl
  have hnD := hN.hD
  have hnC := hN.hC
  have hnS := hN.hS
  refine lv_aload_n hx hb dX5_owner_0 rfl (lv_at hl 0 rfl) ?_
  refine lv_aload_n hx hb dX5_owner_1 rfl (lv_at hl 0 rfl) ?_
  refine lv_iload_n hx hb dX5_owner_2 rfl (lv_at hl 1 rfl) ?_
  refine cl_X5_74 hx hb hml hown hK hZ hS hA (c_X5_isCoin hN a) mC_30 rfl hl.1 (Nat.le_of_ble_eq_true rfl) ⟨Nat.le_of_ble_eq_true rfl, Nat.le_of_ble_eq_true rfl⟩ ⟨Nat.zero_le _, Nat.zero_le _⟩ rfl dX5_owner_3 (r_kp (fun H locs hS => ?_))
  refine r_ifb_eq (b := ((ixO a (nC T)).isSome)) (tgt := 13) hx hb dX5_owner_6 (by decide) (fun q6 => ?_) (fun q6 => ?_)
  · -- T
    have hix := ix_no q6
    refine lv_iconst (v := nI 1) hx hb dX5_owner_13 (by decide) ?_
    refine pf_X5_52 hx hb hown hK hS mC_30 rfl rfl (fs' := [.int (nI (nD T)), .ref (ad 31 0), .ref (ad 32 0), .ref (ad 33 0), .ref (ad 34 0), .int (nI (nC T)), .ref (ad 35 0), .ref (ad 36 0), .ref (ad 37 0), .ref (ad 38 0), .ref (ad 39 0), .ref (ad 40 0), .ref (ad 41 0), .int (nI (nS T)), .ref (ad 42 0), .ref (ad 43 0), .ref (ad 44 0), .int (nI 1)]) (Nat.le_of_ble_eq_true rfl) rfl dX5_owner_14 (fun H locs hS => ?_)
    rw [mC_pth] at hS
    refine lv_aload_n hx hb dX5_owner_17 rfl (lv_at hl 0 rfl) ?_
    refine gf_X5_52 hx hb hown hK hS mC_30 rfl dX5_owner_18 ?_
    refine r_if_ne (a := 1) (tgt := 35) hx hb (by decide) dX5_owner_21 (by decide) (fun q21 => ?_) (fun q21 => ?_)
    · -- T
      refine lv_iconst (v := nI 0) hx hb dX5_owner_35 (by decide) ?_
      exact r_iret hx hb hr hlocks hS (mP.mkE (n := 0) (congrArg (qS T) (byN_n hix))) (Nat.zero_le _) (Nat.zero_le _) dX5_owner_36
    · -- F
      exact absurd q21 (by decide)
  · -- F
    obtain ⟨j, hv9, hix, rfl⟩ := ix_get q6
    have hcn := hN.cn hv9
    refine lv_iconst (v := nI 0) hx hb dX5_owner_9 (by decide) ?_
    refine lv_goto (tgt := 14) hx hb dX5_owner_10 (by decide) ?_
    refine pf_X5_52 hx hb hown hK hS mC_30 rfl rfl (fs' := [.int (nI (nD T)), .ref (ad 31 0), .ref (ad 32 0), .ref (ad 33 0), .ref (ad 34 0), .int (nI (nC T)), .ref (ad 35 0), .ref (ad 36 0), .ref (ad 37 0), .ref (ad 38 0), .ref (ad 39 0), .ref (ad 40 0), .ref (ad 41 0), .int (nI (nS T)), .ref (ad 42 0), .ref (ad 43 0), .ref (ad 44 0), .int (nI 0)]) (Nat.le_of_ble_eq_true rfl) rfl dX5_owner_14 (fun H locs hS => ?_)
    rw [mC_pth] at hS
    refine lv_aload_n hx hb dX5_owner_17 rfl (lv_at hl 0 rfl) ?_
    refine gf_X5_52 hx hb hown hK hS mC_30 rfl dX5_owner_18 ?_
    refine r_if_ne (a := 0) (tgt := 35) hx hb (by decide) dX5_owner_21 (by decide) (fun q21 => ?_) (fun q21 => ?_)
    · -- T
      exact absurd q21 (by decide)
    · -- F
      refine lv_aload_n hx hb dX5_owner_24 rfl (lv_at hl 0 rfl) ?_
      refine gf_X5_31 hx hb hown hK hS mC_30 rfl dX5_owner_25 ?_
      refine lv_iload_n hx hb dX5_owner_28 rfl (lv_at hl 1 rfl) ?_
      refine r_iald hx hb hK.1 hS 0 mC_38 rfl (nI_in0 (by omega) (by omega)) (v := nI (T 8 j)) (tA_at (by omega)) dX5_owner_29 ?_
      refine lv_iconst (v := nI 1) hx hb dX5_owner_30 (by decide) ?_
      refine lv_isub hx hb dX5_owner_31 ?_
      refine lv_goto (tgt := 36) hx hb dX5_owner_32 (by decide) ?_
      exact r_iret hx hb hr hlocks hS (mP.mk0 (congrArg (qS T) (byN_s hix)) rfl mEq.rf) (Nat.zero_le _) (Nat.zero_le _) dX5_owner_36

set_option maxHeartbeats 4000000 in
set_option maxRecDepth 100000 in
theorem c_X5_wants {G : rG} {l : Launch} {T : rTab} {th : Int32} {rg : Nat → Int32} {C : rC} {ad : rA} (hN : mNu T) (a : Int32) : rMet G l yX5_wants cX5_wants 2 (some .int) (rmP 3) [.ref (ad 30 0), .int a] (mC G T th rg C ad) ad (mP G (qS T (byN 8 a (fun k => nI (T 10 k)))) rg C ad) := by
  refine rMet.of (by decide) ?_
  intro p e s m below meth c hx hb hml hr hlocks hown hname hK hZ hS
  have hown : s.vm.findClass RX5 = some m.cls := hown
  have hA : ∀ q : Nat, s.heap.size ≤ q → (rF (mC G T th rg C ad) ad s.heap.size) q := rF.new
  refine r_entry _ (Nat.le_of_ble_eq_true rfl) (fun ls hl => ?_)
  have hl : lv_has ls 2 [(0, .ref (ad 30 0)), (1, .int a)] := hl
  have hnD := hN.hD
  have hnC := hN.hC
  have hnS := hN.hS
  refine lv_aload_n hx hb dX5_wants_0 rfl (lv_at hl 0 rfl) ?_
  refine lv_iload_n hx hb dX5_wants_1 rfl (lv_at hl 1 rfl) ?_
  refine cl_X5_99 hx hb hml hown hK hZ hS hA (c_X5_isCollector a) rfl hl.1 (Nat.le_of_ble_eq_true rfl) ⟨Nat.le_of_ble_eq_true rfl, Nat.le_of_ble_eq_true rfl⟩ ⟨Nat.zero_le _, Nat.zero_le _⟩ rfl dX5_wants_2 (r_kp (fun H locs hS => ?_))
  refine r_ifb_eq (b := ((ixO a 8).isSome)) (tgt := 12) hx hb dX5_wants_5 (by decide) (fun q5 => ?_) (fun q5 => ?_)
  · -- T
    have hix := ix_no q5
    refine lv_iconst (v := nI 1) hx hb dX5_wants_12 (by decide) ?_
    refine pf_X5_52 hx hb hown hK hS mC_30 rfl rfl (fs' := [.int (nI (nD T)), .ref (ad 31 0), .ref (ad 32 0), .ref (ad 33 0), .ref (ad 34 0), .int (nI (nC T)), .ref (ad 35 0), .ref (ad 36 0), .ref (ad 37 0), .ref (ad 38 0), .ref (ad 39 0), .ref (ad 40 0), .ref (ad 41 0), .int (nI (nS T)), .ref (ad 42 0), .ref (ad 43 0), .ref (ad 44 0), .int (nI 1)]) (Nat.le_of_ble_eq_true rfl) rfl dX5_wants_13 (fun H locs hS => ?_)
    rw [mC_pth] at hS
    refine lv_aload_n hx hb dX5_wants_16 rfl (lv_at hl 0 rfl) ?_
    refine gf_X5_52 hx hb hown hK hS mC_30 rfl dX5_wants_17 ?_
    refine r_if_ne (a := 1) (tgt := 32) hx hb (by decide) dX5_wants_20 (by decide) (fun q20 => ?_) (fun q20 => ?_)
    · -- T
      refine lv_iconst (v := nI 0) hx hb dX5_wants_32 (by decide) ?_
      exact r_iret hx hb hr hlocks hS (mP.mkE (n := 0) (congrArg (qS T) (byN_n hix))) (Nat.zero_le _) (Nat.zero_le _) dX5_wants_33
    · -- F
      exact absurd q20 (by decide)
  · -- F
    obtain ⟨k, hv9, hix, rfl⟩ := ix_get q5
    have hkn := hN.kn hv9
    refine lv_iconst (v := nI 0) hx hb dX5_wants_8 (by decide) ?_
    refine lv_goto (tgt := 13) hx hb dX5_wants_9 (by decide) ?_
    refine pf_X5_52 hx hb hown hK hS mC_30 rfl rfl (fs' := [.int (nI (nD T)), .ref (ad 31 0), .ref (ad 32 0), .ref (ad 33 0), .ref (ad 34 0), .int (nI (nC T)), .ref (ad 35 0), .ref (ad 36 0), .ref (ad 37 0), .ref (ad 38 0), .ref (ad 39 0), .ref (ad 40 0), .ref (ad 41 0), .int (nI (nS T)), .ref (ad 42 0), .ref (ad 43 0), .ref (ad 44 0), .int (nI 0)]) (Nat.le_of_ble_eq_true rfl) rfl dX5_wants_13 (fun H locs hS => ?_)
    rw [mC_pth] at hS
    refine lv_aload_n hx hb dX5_wants_16 rfl (lv_at hl 0 rfl) ?_
    refine gf_X5_52 hx hb hown hK hS mC_30 rfl dX5_wants_17 ?_
    refine r_if_ne (a := 0) (tgt := 32) hx hb (by decide) dX5_wants_20 (by decide) (fun q20 => ?_) (fun q20 => ?_)
    · -- T
      exact absurd q20 (by decide)
    · -- F
      refine lv_aload_n hx hb dX5_wants_23 rfl (lv_at hl 0 rfl) ?_
      refine gf_X5_37 hx hb hown hK hS mC_30 rfl dX5_wants_24 ?_
      refine lv_iload_n hx hb dX5_wants_27 rfl (lv_at hl 1 rfl) ?_
      refine r_iald hx hb hK.1 hS 0 mC_40 rfl (nI_in0 (by omega) (by omega)) (v := nI (T 10 k)) (tA_at (by omega)) dX5_wants_28 ?_
      refine lv_goto (tgt := 33) hx hb dX5_wants_29 (by decide) ?_
      exact r_iret hx hb hr hlocks hS (mP.mk0 (congrArg (qS T) (byN_s hix)) rfl mEq.rf) (Nat.zero_le _) (Nat.zero_le _) dX5_wants_33

set_option maxHeartbeats 4000000 in
set_option maxRecDepth 100000 in
theorem c_X5_rarityByCoins {G : rG} {l : Launch} {T : rTab} {th : Int32} {rg : Nat → Int32} {C : rC} {ad : rA} (hN : mNu T) (a : Int32) : rMet G l yX5_rarityByCoins cX5_rarityByCoins 2 (some .int) (rmP 4) [.ref (ad 30 0), .int a] (mC G T th rg C ad) ad (mP G (qS T (byN (nD T) a (fun d => nI (rar T d)))) rg C ad) := by
  refine rMet.of (by decide) ?_
  intro p e s m below meth c hx hb hml hr hlocks hown hname hK hZ hS
  have hown : s.vm.findClass RX5 = some m.cls := hown
  have hA : ∀ q : Nat, s.heap.size ≤ q → (rF (mC G T th rg C ad) ad s.heap.size) q := rF.new
  refine r_entry _ (Nat.le_of_ble_eq_true rfl) (fun ls hl => ?_)
  have hl : lv_has ls 2 [(0, .ref (ad 30 0)), (1, .int a)] := hl
  have hnD := hN.hD
  have hnC := hN.hC
  have hnS := hN.hS
  refine lv_aload_n hx hb dX5_rarityByCoins_0 rfl (lv_at hl 0 rfl) ?_
  refine lv_iload_n hx hb dX5_rarityByCoins_1 rfl (lv_at hl 1 rfl) ?_
  refine cl_X5_90 hx hb hml hown hK hZ hS hA (c_X5_rarity hN a) mC_30 rfl hl.1 (Nat.le_of_ble_eq_true rfl) ⟨Nat.le_of_ble_eq_true rfl, Nat.le_of_ble_eq_true rfl⟩ ⟨Nat.zero_le _, Nat.zero_le _⟩ rfl dX5_rarityByCoins_2 (r_kr (fun r C' ad' H locs hQ hS => ?_))
  obtain ⟨rfl, hCr, rfl⟩ := hQ
  exact r_iret hx hb hr hlocks hS (⟨_, rfl, rfl, hCr, rfl⟩) (Nat.zero_le _) (Nat.zero_le _) dX5_rarityByCoins_5

set_option maxHeartbeats 4000000 in
set_option maxRecDepth 100000 in
theorem c_X5_struck {G : rG} {l : Launch} {T : rTab} {th : Int32} {rg : Nat → Int32} {C : rC} {ad : rA} (hN : mNu T)  : rMet G l yX5_struck cX5_struck 1 (some .int) (rmP 1) [.ref (ad 30 0)] (mC G T th rg C ad) ad (mP G (0, nI (nC T), T) rg C ad) := by
  refine rMet.of (by decide) ?_
  intro p e s m below meth c hx hb hml hr hlocks hown hname hK hZ hS
  have hown : s.vm.findClass RX5 = some m.cls := hown
  have hA : ∀ q : Nat, s.heap.size ≤ q → (rF (mC G T th rg C ad) ad s.heap.size) q := rF.new
  refine r_entry _ (Nat.le_of_ble_eq_true rfl) (fun ls hl => ?_)
  have hl : lv_has ls 1 [(0, .ref (ad 30 0))] := hl
  have hnD := hN.hD
  have hnC := hN.hC
  have hnS := hN.hS
  refine lv_aload_n hx hb dX5_struck_0 rfl (lv_at hl 0 rfl) ?_
  refine lv_iconst (v := nI 0) hx hb dX5_struck_1 (by decide) ?_
  refine pf_X5_52 hx hb hown hK hS mC_30 rfl rfl (fs' := [.int (nI (nD T)), .ref (ad 31 0), .ref (ad 32 0), .ref (ad 33 0), .ref (ad 34 0), .int (nI (nC T)), .ref (ad 35 0), .ref (ad 36 0), .ref (ad 37 0), .ref (ad 38 0), .ref (ad 39 0), .ref (ad 40 0), .ref (ad 41 0), .int (nI (nS T)), .ref (ad 42 0), .ref (ad 43 0), .ref (ad 44 0), .int (nI 0)]) (Nat.le_of_ble_eq_true rfl) rfl dX5_struck_2 (fun H locs hS => ?_)
  rw [mC_pth] at hS
  refine lv_aload_n hx hb dX5_struck_5 rfl (lv_at hl 0 rfl) ?_
  refine gf_X5_63 hx hb hown hK hS mC_30 (v := .int (nI (nC T))) rfl dX5_struck_6 ?_
  exact r_iret hx hb hr hlocks hS (mP.mk0 rfl rfl mEq.rf) (Nat.zero_le _) (Nat.zero_le _) dX5_struck_9

set_option maxHeartbeats 4000000 in
set_option maxRecDepth 100000 in
theorem c_X5_swaps {G : rG} {l : Launch} {T : rTab} {th : Int32} {rg : Nat → Int32} {C : rC} {ad : rA} (hN : mNu T)  : rMet G l yX5_swaps cX5_swaps 1 (some .int) (rmP 1) [.ref (ad 30 0)] (mC G T th rg C ad) ad (mP G (0, nI (nS T), T) rg C ad) := by
  refine rMet.of (by decide) ?_
  intro p e s m below meth c hx hb hml hr hlocks hown hname hK hZ hS
  have hown : s.vm.findClass RX5 = some m.cls := hown
  have hA : ∀ q : Nat, s.heap.size ≤ q → (rF (mC G T th rg C ad) ad s.heap.size) q := rF.new
  refine r_entry _ (Nat.le_of_ble_eq_true rfl) (fun ls hl => ?_)
  have hl : lv_has ls 1 [(0, .ref (ad 30 0))] := hl
  have hnD := hN.hD
  have hnC := hN.hC
  have hnS := hN.hS
  refine lv_aload_n hx hb dX5_swaps_0 rfl (lv_at hl 0 rfl) ?_
  refine lv_iconst (v := nI 0) hx hb dX5_swaps_1 (by decide) ?_
  refine pf_X5_52 hx hb hown hK hS mC_30 rfl rfl (fs' := [.int (nI (nD T)), .ref (ad 31 0), .ref (ad 32 0), .ref (ad 33 0), .ref (ad 34 0), .int (nI (nC T)), .ref (ad 35 0), .ref (ad 36 0), .ref (ad 37 0), .ref (ad 38 0), .ref (ad 39 0), .ref (ad 40 0), .ref (ad 41 0), .int (nI (nS T)), .ref (ad 42 0), .ref (ad 43 0), .ref (ad 44 0), .int (nI 0)]) (Nat.le_of_ble_eq_true rfl) rfl dX5_swaps_2 (fun H locs hS => ?_)
  rw [mC_pth] at hS
  refine lv_aload_n hx hb dX5_swaps_5 rfl (lv_at hl 0 rfl) ?_
  refine gf_X5_129 hx hb hown hK hS mC_30 (v := .int (nI (nS T))) rfl dX5_swaps_6 ?_
  exact r_iret hx hb hr hlocks hS (mP.mk0 rfl rfl mEq.rf) (Nat.zero_le _) (Nat.zero_le _) dX5_swaps_9

set_option maxHeartbeats 4000000 in
set_option maxRecDepth 100000 in
theorem c_X5_couldBeOf {G : rG} {l : Launch} {T : rTab} {th : Int32} {rg : Nat → Int32} {C : rC} {ad : rA} (hN : mNu T) (a : Int32) : rMet G l yX5_couldBeOf cX5_couldBeOf 4 (some .int) (rmP 4) [.ref (ad 30 0), .int a] (mC G T th rg C ad) ad (mP G (qS T (byN (nC T) a (fun j => nI (setN (cbB T j) (nD T))))) rg C ad) := by
  refine rMet.of (by decide) ?_
  intro p e s m below meth c hx hb hml hr hlocks hown hname hK hZ hS
  have hown : s.vm.findClass RX5 = some m.cls := hown
  have hA : ∀ q : Nat, s.heap.size ≤ q → (rF (mC G T th rg C ad) ad s.heap.size) q := rF.new
  refine r_entry _ (Nat.le_of_ble_eq_true rfl) (fun ls hl => ?_)
  have hl : lv_has ls 4 [(0, .ref (ad 30 0)), (1, .int a)] := hl
  have hnD := hN.hD
  have hnC := hN.hC
  have hnS := hN.hS
  refine lv_aload_n hx hb dX5_couldBeOf_0 rfl (lv_at hl 0 rfl) ?_
  refine lv_aload_n hx hb dX5_couldBeOf_1 rfl (lv_at hl 0 rfl) ?_
  refine lv_iload_n hx hb dX5_couldBeOf_2 rfl (lv_at hl 1 rfl) ?_
  refine cl_X5_74 hx hb hml hown hK hZ hS hA (c_X5_isCoin hN a) mC_30 rfl hl.1 (Nat.le_of_ble_eq_true rfl) ⟨Nat.le_of_ble_eq_true rfl, Nat.le_of_ble_eq_true rfl⟩ ⟨Nat.zero_le _, Nat.zero_le _⟩ rfl dX5_couldBeOf_3 (r_kp (fun H locs hS => ?_))
  refine r_ifb_eq (b := ((ixO a (nC T)).isSome)) (tgt := 13) hx hb dX5_couldBeOf_6 (by decide) (fun q6 => ?_) (fun q6 => ?_)
  · -- T
    have hix := ix_no q6
    refine lv_iconst (v := nI 1) hx hb dX5_couldBeOf_13 (by decide) ?_
    refine pf_X5_52 hx hb hown hK hS mC_30 rfl rfl (fs' := [.int (nI (nD T)), .ref (ad 31 0), .ref (ad 32 0), .ref (ad 33 0), .ref (ad 34 0), .int (nI (nC T)), .ref (ad 35 0), .ref (ad 36 0), .ref (ad 37 0), .ref (ad 38 0), .ref (ad 39 0), .ref (ad 40 0), .ref (ad 41 0), .int (nI (nS T)), .ref (ad 42 0), .ref (ad 43 0), .ref (ad 44 0), .int (nI 1)]) (Nat.le_of_ble_eq_true rfl) rfl dX5_couldBeOf_14 (fun H locs hS => ?_)
    rw [mC_pth] at hS
    refine lv_iconst (v := nI 0) hx hb dX5_couldBeOf_17 (by decide) ?_
    refine lv_istore_n (lv' := [(2, .int (nI 0)), (0, .ref (ad 30 0)), (1, .int a)]) hx hb dX5_couldBeOf_18 rfl hl (by decide) rfl (fun ls hl => ?_)
    refine lv_iconst (v := nI 0) hx hb dX5_couldBeOf_19 (by decide) ?_
    refine lv_istore_n (lv' := [(3, .int (nI 0)), (2, .int (nI 0)), (0, .ref (ad 30 0)), (1, .int a)]) hx hb dX5_couldBeOf_20 rfl hl (by decide) rfl (fun ls hl => ?_)
    refine lv_iload_n hx hb dX5_couldBeOf_21 rfl (lv_at hl 0 rfl) ?_
    refine lv_aload_n hx hb dX5_couldBeOf_22 rfl (lv_at hl 2 rfl) ?_
    refine gf_X5_56 hx hb hown hK hS mC_30 (v := .int (nI (nD T))) rfl dX5_couldBeOf_23 ?_
    refine r_icmp_ge (a := 0) (b := nD T) (tgt := 87) hx hb (by omega) (by omega) dX5_couldBeOf_26 (by decide) (fun q26 => ?_) (fun q26 => ?_)
    · -- T
      refine lv_iload_n hx hb dX5_couldBeOf_87 rfl (lv_at hl 1 rfl) ?_
      exact r_iret hx hb hr hlocks hS (mP.mkE (n := 0) (congrArg (qS T) (byN_n hix))) (Nat.zero_le _) (Nat.zero_le _) dX5_couldBeOf_88
    · -- F
      refine lv_aload_n hx hb dX5_couldBeOf_29 rfl (lv_at hl 2 rfl) ?_
      refine gf_X5_52 hx hb hown hK hS mC_30 rfl dX5_couldBeOf_30 ?_
      refine r_if_ne (a := 1) (tgt := 87) hx hb (by decide) dX5_couldBeOf_33 (by decide) (fun q33 => ?_) (fun q33 => ?_)
      · -- T
        refine lv_iload_n hx hb dX5_couldBeOf_87 rfl (lv_at hl 1 rfl) ?_
        exact r_iret hx hb hr hlocks hS (mP.mkE (n := 0) (congrArg (qS T) (byN_n hix))) (Nat.zero_le _) (Nat.zero_le _) dX5_couldBeOf_88
      · -- F
        exact absurd q33 (by decide)
  · -- F
    obtain ⟨j, hj, hix, rfl⟩ := ix_get q6
    have hcn := hN.cn hj
    have hdj := hN.dn hcn.1
    refine lv_iconst (v := nI 0) hx hb dX5_couldBeOf_9 (by decide) ?_
    refine lv_goto (tgt := 14) hx hb dX5_couldBeOf_10 (by decide) ?_
    refine pf_X5_52 hx hb hown hK hS mC_30 rfl rfl (fs' := [.int (nI (nD T)), .ref (ad 31 0), .ref (ad 32 0), .ref (ad 33 0), .ref (ad 34 0), .int (nI (nC T)), .ref (ad 35 0), .ref (ad 36 0), .ref (ad 37 0), .ref (ad 38 0), .ref (ad 39 0), .ref (ad 40 0), .ref (ad 41 0), .int (nI (nS T)), .ref (ad 42 0), .ref (ad 43 0), .ref (ad 44 0), .int (nI 0)]) (Nat.le_of_ble_eq_true rfl) rfl dX5_couldBeOf_14 (fun H locs hS => ?_)
    rw [mC_pth] at hS
    refine lv_iconst (v := nI 0) hx hb dX5_couldBeOf_17 (by decide) ?_
    refine lv_istore_n (lv' := [(2, .int (nI 0)), (0, .ref (ad 30 0)), (1, .int (nI j))]) hx hb dX5_couldBeOf_18 rfl hl (by decide) rfl (fun ls hl => ?_)
    refine lv_iconst (v := nI 0) hx hb dX5_couldBeOf_19 (by decide) ?_
    refine lv_istore_n (lv' := [(3, .int (nI 0)), (2, .int (nI 0)), (0, .ref (ad 30 0)), (1, .int (nI j))]) hx hb dX5_couldBeOf_20 rfl hl (by decide) rfl (fun ls hl => ?_)
    refine r_loop (σ := Nat) (fun i => nD T - i) (fun i H locs ls => (i ≤ nD T) ∧ rS G.1 (rF (mC G T th rg C ad) ad s.heap.size) s.heap (mC G T (nI 0) rg C ad) ad H locs ∧ lv_has ls 4 [(3, .int (nI i)), (2, .int (nI (setN (cbB T j) i))), (0, .ref (ad 30 0)), (1, .int (nI j))]) (fun _ => 0) (fun _ => 0) (fun z ih H locs ls hI => ?_) 0 (Nat.zero_le _) (Nat.zero_le _) ⟨Nat.zero_le _, hS, lv_sub hl [0, 1, 2, 3] rfl⟩
    obtain ⟨i, rfl⟩ : ∃ y, y = z := ⟨_, rfl⟩
    obtain ⟨hil, hS, hl⟩ := hI
    try dsimp only at hil hS hl ih ⊢
    refine lv_iload_n hx hb dX5_couldBeOf_21 rfl (lv_at hl 0 rfl) ?_
    refine lv_aload_n hx hb dX5_couldBeOf_22 rfl (lv_at hl 2 rfl) ?_
    refine gf_X5_56 hx hb hown hK hS mC_30 (v := .int (nI (nD T))) rfl dX5_couldBeOf_23 ?_
    refine r_icmp_ge (a := i) (b := nD T) (tgt := 87) hx hb (by omega) (by omega) dX5_couldBeOf_26 (by decide) (fun q26 => ?_) (fun q26 => ?_)
    · -- T
      obtain rfl : i = nD T := by omega
      refine lv_iload_n hx hb dX5_couldBeOf_87 rfl (lv_at hl 1 rfl) ?_
      exact r_iret hx hb hr hlocks hS (mP.mk0 (congrArg (qS T) (byN_s hix)) rfl mEq.rf) (Nat.zero_le _) (Nat.zero_le _) dX5_couldBeOf_88
    · -- F
      have hi : i < nD T := by omega
      have hdn := hN.dn hi
      refine lv_aload_n hx hb dX5_couldBeOf_29 rfl (lv_at hl 2 rfl) ?_
      refine gf_X5_52 hx hb hown hK hS mC_30 rfl dX5_couldBeOf_30 ?_
      refine r_if_ne (a := 0) (tgt := 87) hx hb (by decide) dX5_couldBeOf_33 (by decide) (fun q33 => ?_) (fun q33 => ?_)
      · -- T
        exact absurd q33 (by decide)
      · -- F
        refine lv_iload_n hx hb dX5_couldBeOf_36 rfl (lv_at hl 1 rfl) ?_
        refine lv_aload_n hx hb dX5_couldBeOf_37 rfl (lv_at hl 2 rfl) ?_
        refine gf_X5_7 hx hb hown hK hS mC_30 rfl dX5_couldBeOf_38 ?_
        refine lv_iload_n hx hb dX5_couldBeOf_41 rfl (lv_at hl 0 rfl) ?_
        refine r_iald hx hb hK.1 hS 0 mC_31 rfl (nI_in0 (by omega) (by omega)) (v := nI (T 1 i)) (tA_at (by omega)) dX5_couldBeOf_42 ?_
        refine lv_aload_n hx hb dX5_couldBeOf_43 rfl (lv_at hl 2 rfl) ?_
        refine gf_X5_7 hx hb hown hK hS mC_30 rfl dX5_couldBeOf_44 ?_
        refine lv_aload_n hx hb dX5_couldBeOf_47 rfl (lv_at hl 2 rfl) ?_
        refine gf_X5_22 hx hb hown hK hS mC_30 rfl dX5_couldBeOf_48 ?_
        refine lv_iload_n hx hb dX5_couldBeOf_51 rfl (lv_at hl 3 rfl) ?_
        refine r_iald hx hb hK.1 hS 0 mC_35 rfl (nI_in0 (by omega) (by omega)) (v := nI (T 5 j)) (tA_at (by omega)) dX5_couldBeOf_52 ?_
        refine r_iald hx hb hK.1 hS 0 mC_31 rfl (nI_in0 (by omega) (by omega)) (v := nI (T 1 (T 5 j))) (tA_at (by omega)) dX5_couldBeOf_53 ?_
        refine r_icmp_ne (a := T 1 i) (b := T 1 (T 5 j)) (tgt := 78) hx hb (by omega) (by omega) dX5_couldBeOf_54 (by decide) (fun q54 => ?_) (fun q54 => ?_)
        · -- T
          refine lv_iconst (v := nI 0) hx hb dX5_couldBeOf_78 (by decide) ?_
          refine lv_ior hx hb dX5_couldBeOf_79 ?_
          refine r_top (y := nI (setN (cbB T j) (i + 1))) ((nx_or _ _).trans (by rw [setN_f (cbB_a q54), Nat.or_zero])) ?_
          refine lv_istore_n (lv' := [(2, .int (nI (setN (cbB T j) (i + 1)))), (3, .int (nI i)), (0, .ref (ad 30 0)), (1, .int (nI j))]) hx hb dX5_couldBeOf_80 rfl hl (by decide) rfl (fun ls hl => ?_)
          refine lv_iinc (v := nI (i + 1)) (lv' := [(3, .int (nI (i + 1))), (2, .int (nI (setN (cbB T j) (i + 1)))), (0, .ref (ad 30 0)), (1, .int (nI j))]) hx hb dX5_couldBeOf_81 hl (k := 1) rfl (nI_inc _) (by decide) rfl (fun ls hl => ?_)
          refine lv_goto (tgt := 21) hx hb dX5_couldBeOf_84 (by decide) ?_
          exact ih (i + 1) (show nD T - (i + 1) < nD T - i by omega) _ _ _ ⟨(show i + 1 ≤ nD T by omega), hS, lv_sub hl [0, 1, 2, 3] rfl⟩
        · -- F
          refine lv_aload_n hx hb dX5_couldBeOf_57 rfl (lv_at hl 2 rfl) ?_
          refine lv_iload_n hx hb dX5_couldBeOf_58 rfl (lv_at hl 0 rfl) ?_
          refine lv_aload_n hx hb dX5_couldBeOf_59 rfl (lv_at hl 2 rfl) ?_
          refine gf_X5_25 hx hb hown hK hS mC_30 rfl dX5_couldBeOf_60 ?_
          refine lv_iload_n hx hb dX5_couldBeOf_63 rfl (lv_at hl 3 rfl) ?_
          refine r_iald hx hb hK.1 hS 0 mC_36 rfl (nI_in0 (by omega) (by omega)) (v := nI (T 6 j)) (tA_at (by omega)) dX5_couldBeOf_64 ?_
          refine cl_X5_77 hx hb hml hown hK hZ hS hA (c_X5_firstOf hN (show i < 2 ^ 31 by omega) (show T 6 j < 2 ^ 31 by omega)) mC_30 rfl hl.1 (Nat.le_of_ble_eq_true rfl) ⟨Nat.le_of_ble_eq_true rfl, Nat.le_of_ble_eq_true rfl⟩ ⟨Nat.zero_le _, Nat.zero_le _⟩ rfl dX5_couldBeOf_65 (r_kp (fun H locs hS => ?_))
          refine lv_iconst (v := (-1)) hx hb dX5_couldBeOf_68 (by decide) ?_
          refine r_oeq (tgt := 78) hx hb (fo_bd hnC) dX5_couldBeOf_69 (by decide) (fun q69 => ?_) (fun x69 q69 => ?_)
          · -- T
            refine lv_iconst (v := nI 0) hx hb dX5_couldBeOf_78 (by decide) ?_
            refine lv_ior hx hb dX5_couldBeOf_79 ?_
            refine r_top (y := nI (setN (cbB T j) (i + 1))) ((nx_or _ _).trans (by rw [setN_f (cbB_b q69), Nat.or_zero])) ?_
            refine lv_istore_n (lv' := [(2, .int (nI (setN (cbB T j) (i + 1)))), (3, .int (nI i)), (0, .ref (ad 30 0)), (1, .int (nI j))]) hx hb dX5_couldBeOf_80 rfl hl (by decide) rfl (fun ls hl => ?_)
            refine lv_iinc (v := nI (i + 1)) (lv' := [(3, .int (nI (i + 1))), (2, .int (nI (setN (cbB T j) (i + 1)))), (0, .ref (ad 30 0)), (1, .int (nI j))]) hx hb dX5_couldBeOf_81 hl (k := 1) rfl (nI_inc _) (by decide) rfl (fun ls hl => ?_)
            refine lv_goto (tgt := 21) hx hb dX5_couldBeOf_84 (by decide) ?_
            exact ih (i + 1) (show nD T - (i + 1) < nD T - i by omega) _ _ _ ⟨(show i + 1 ≤ nD T by omega), hS, lv_sub hl [0, 1, 2, 3] rfl⟩
          · -- F
            refine lv_iconst (v := nI 1) hx hb dX5_couldBeOf_72 (by decide) ?_
            refine lv_iload_n hx hb dX5_couldBeOf_73 rfl (lv_at hl 0 rfl) ?_
            refine lv_ishl hx hb dX5_couldBeOf_74 ?_
            refine r_top (y := nI (2 ^ i)) (bit_i _ (by omega)) ?_
            refine lv_goto (tgt := 79) hx hb dX5_couldBeOf_75 (by decide) ?_
            refine lv_ior hx hb dX5_couldBeOf_79 ?_
            refine r_top (y := nI (setN (cbB T j) (i + 1))) ((nx_or _ _).trans (by rw [setN_t (cbB_t q54 q69)])) ?_
            refine lv_istore_n (lv' := [(2, .int (nI (setN (cbB T j) (i + 1)))), (3, .int (nI i)), (0, .ref (ad 30 0)), (1, .int (nI j))]) hx hb dX5_couldBeOf_80 rfl hl (by decide) rfl (fun ls hl => ?_)
            refine lv_iinc (v := nI (i + 1)) (lv' := [(3, .int (nI (i + 1))), (2, .int (nI (setN (cbB T j) (i + 1)))), (0, .ref (ad 30 0)), (1, .int (nI j))]) hx hb dX5_couldBeOf_81 hl (k := 1) rfl (nI_inc _) (by decide) rfl (fun ls hl => ?_)
            refine lv_goto (tgt := 21) hx hb dX5_couldBeOf_84 (by decide) ?_
            exact ih (i + 1) (show nD T - (i + 1) < nD T - i by omega) _ _ _ ⟨(show i + 1 ≤ nD T by omega), hS, lv_sub hl [0, 1, 2, 3] rfl⟩

set_option maxHeartbeats 4000000 in
set_option maxRecDepth 100000 in
theorem c_X5_stages {G : rG} {l : Launch} {T : rTab} {th : Int32} {rg : Nat → Int32} {C : rC} {ad : rA} (hN : mNu T) (a : Int32) : rMet G l yX5_stages cX5_stages 4 (some .int) (rmP 4) [.ref (ad 30 0), .int a] (mC G T th rg C ad) ad (mP G (qS T (byN (nD T) a (fun d => nI (stagesN T d)))) rg C ad) := by
  refine rMet.of (by decide) ?_
  intro p e s m below meth c hx hb hml hr hlocks hown hname hK hZ hS
  have hown : s.vm.findClass RX5 = some m.cls := hown
  have hA : ∀ q : Nat, s.heap.size ≤ q → (rF (mC G T th rg C ad) ad s.heap.size) q := rF.new
  refine r_entry _ (Nat.le_of_ble_eq_true rfl) (fun ls hl => ?_)
  have hl : lv_has ls 4 [(0, .ref (ad 30 0)), (1, .int a)] := hl
  have hnD := hN.hD
  have hnC := hN.hC
  have hnS := hN.hS
  refine lv_aload_n hx hb dX5_stages_0 rfl (lv_at hl 0 rfl) ?_
  refine lv_aload_n hx hb dX5_stages_1 rfl (lv_at hl 0 rfl) ?_
  refine lv_iload_n hx hb dX5_stages_2 rfl (lv_at hl 1 rfl) ?_
  refine cl_X5_66 hx hb hml hown hK hZ hS hA (c_X5_isDie hN a) mC_30 rfl hl.1 (Nat.le_of_ble_eq_true rfl) ⟨Nat.le_of_ble_eq_true rfl, Nat.le_of_ble_eq_true rfl⟩ ⟨Nat.zero_le _, Nat.zero_le _⟩ rfl dX5_stages_3 (r_kp (fun H locs hS => ?_))
  refine r_ifb_eq (b := ((ixO a (nD T)).isSome)) (tgt := 13) hx hb dX5_stages_6 (by decide) (fun q6 => ?_) (fun q6 => ?_)
  · -- T
    have hix := ix_no q6
    refine lv_iconst (v := nI 1) hx hb dX5_stages_13 (by decide) ?_
    refine pf_X5_52 hx hb hown hK hS mC_30 rfl rfl (fs' := [.int (nI (nD T)), .ref (ad 31 0), .ref (ad 32 0), .ref (ad 33 0), .ref (ad 34 0), .int (nI (nC T)), .ref (ad 35 0), .ref (ad 36 0), .ref (ad 37 0), .ref (ad 38 0), .ref (ad 39 0), .ref (ad 40 0), .ref (ad 41 0), .int (nI (nS T)), .ref (ad 42 0), .ref (ad 43 0), .ref (ad 44 0), .int (nI 1)]) (Nat.le_of_ble_eq_true rfl) rfl dX5_stages_14 (fun H locs hS => ?_)
    rw [mC_pth] at hS
    refine lv_iconst (v := nI 0) hx hb dX5_stages_17 (by decide) ?_
    refine lv_istore_n (lv' := [(2, .int (nI 0)), (0, .ref (ad 30 0)), (1, .int a)]) hx hb dX5_stages_18 rfl hl (by decide) rfl (fun ls hl => ?_)
    refine lv_iconst (v := nI 0) hx hb dX5_stages_19 (by decide) ?_
    refine lv_istore_n (lv' := [(3, .int (nI 0)), (2, .int (nI 0)), (0, .ref (ad 30 0)), (1, .int a)]) hx hb dX5_stages_20 rfl hl (by decide) rfl (fun ls hl => ?_)
    refine lv_iload_n hx hb dX5_stages_21 rfl (lv_at hl 0 rfl) ?_
    refine lv_aload_n hx hb dX5_stages_22 rfl (lv_at hl 2 rfl) ?_
    refine gf_X5_63 hx hb hown hK hS mC_30 (v := .int (nI (nC T))) rfl dX5_stages_23 ?_
    refine r_icmp_ge (a := 0) (b := nC T) (tgt := 75) hx hb (by omega) (by omega) dX5_stages_26 (by decide) (fun q26 => ?_) (fun q26 => ?_)
    · -- T
      refine lv_iload_n hx hb dX5_stages_75 rfl (lv_at hl 1 rfl) ?_
      exact r_iret hx hb hr hlocks hS (mP.mkE (n := 0) (congrArg (qS T) (byN_n hix))) (Nat.zero_le _) (Nat.zero_le _) dX5_stages_76
    · -- F
      refine lv_aload_n hx hb dX5_stages_29 rfl (lv_at hl 2 rfl) ?_
      refine gf_X5_52 hx hb hown hK hS mC_30 rfl dX5_stages_30 ?_
      refine r_if_ne (a := 1) (tgt := 75) hx hb (by decide) dX5_stages_33 (by decide) (fun q33 => ?_) (fun q33 => ?_)
      · -- T
        refine lv_iload_n hx hb dX5_stages_75 rfl (lv_at hl 1 rfl) ?_
        exact r_iret hx hb hr hlocks hS (mP.mkE (n := 0) (congrArg (qS T) (byN_n hix))) (Nat.zero_le _) (Nat.zero_le _) dX5_stages_76
      · -- F
        exact absurd q33 (by decide)
  · -- F
    obtain ⟨d, hd, hix, rfl⟩ := ix_get q6
    have hdn := hN.dn hd
    refine lv_iconst (v := nI 0) hx hb dX5_stages_9 (by decide) ?_
    refine lv_goto (tgt := 14) hx hb dX5_stages_10 (by decide) ?_
    refine pf_X5_52 hx hb hown hK hS mC_30 rfl rfl (fs' := [.int (nI (nD T)), .ref (ad 31 0), .ref (ad 32 0), .ref (ad 33 0), .ref (ad 34 0), .int (nI (nC T)), .ref (ad 35 0), .ref (ad 36 0), .ref (ad 37 0), .ref (ad 38 0), .ref (ad 39 0), .ref (ad 40 0), .ref (ad 41 0), .int (nI (nS T)), .ref (ad 42 0), .ref (ad 43 0), .ref (ad 44 0), .int (nI 0)]) (Nat.le_of_ble_eq_true rfl) rfl dX5_stages_14 (fun H locs hS => ?_)
    rw [mC_pth] at hS
    refine lv_iconst (v := nI 0) hx hb dX5_stages_17 (by decide) ?_
    refine lv_istore_n (lv' := [(2, .int (nI 0)), (0, .ref (ad 30 0)), (1, .int (nI d))]) hx hb dX5_stages_18 rfl hl (by decide) rfl (fun ls hl => ?_)
    refine lv_iconst (v := nI 0) hx hb dX5_stages_19 (by decide) ?_
    refine lv_istore_n (lv' := [(3, .int (nI 0)), (2, .int (nI 0)), (0, .ref (ad 30 0)), (1, .int (nI d))]) hx hb dX5_stages_20 rfl hl (by decide) rfl (fun ls hl => ?_)
    refine r_loop (σ := Nat) (fun i => nC T - i) (fun i H locs ls => (i ≤ nC T) ∧ rS G.1 (rF (mC G T th rg C ad) ad s.heap.size) s.heap (mC G T (nI 0) rg C ad) ad H locs ∧ lv_has ls 4 [(3, .int (nI i)), (2, .int (nI (cntB (stageAt T d) i))), (0, .ref (ad 30 0)), (1, .int (nI d))]) (fun _ => 0) (fun _ => 0) (fun z ih H locs ls hI => ?_) 0 (Nat.zero_le _) (Nat.zero_le _) ⟨Nat.zero_le _, hS, lv_sub hl [0, 1, 2, 3] rfl⟩
    obtain ⟨i, rfl⟩ : ∃ y, y = z := ⟨_, rfl⟩
    obtain ⟨hil, hS, hl⟩ := hI
    try dsimp only at hil hS hl ih ⊢
    refine lv_iload_n hx hb dX5_stages_21 rfl (lv_at hl 0 rfl) ?_
    refine lv_aload_n hx hb dX5_stages_22 rfl (lv_at hl 2 rfl) ?_
    refine gf_X5_63 hx hb hown hK hS mC_30 (v := .int (nI (nC T))) rfl dX5_stages_23 ?_
    refine r_icmp_ge (a := i) (b := nC T) (tgt := 75) hx hb (by omega) (by omega) dX5_stages_26 (by decide) (fun q26 => ?_) (fun q26 => ?_)
    · -- T
      obtain rfl : i = nC T := by omega
      refine lv_iload_n hx hb dX5_stages_75 rfl (lv_at hl 1 rfl) ?_
      exact r_iret hx hb hr hlocks hS (mP.mk0 (congrArg (qS T) (byN_s hix)) rfl mEq.rf) (Nat.zero_le _) (Nat.zero_le _) dX5_stages_76
    · -- F
      have hi : i < nC T := by omega
      have hcn := hN.cn hi
      refine lv_aload_n hx hb dX5_stages_29 rfl (lv_at hl 2 rfl) ?_
      refine gf_X5_52 hx hb hown hK hS mC_30 rfl dX5_stages_30 ?_
      refine r_if_ne (a := 0) (tgt := 75) hx hb (by decide) dX5_stages_33 (by decide) (fun q33 => ?_) (fun q33 => ?_)
      · -- T
        exact absurd q33 (by decide)
      · -- F
        refine lv_iload_n hx hb dX5_stages_36 rfl (lv_at hl 1 rfl) ?_
        refine lv_aload_n hx hb dX5_stages_37 rfl (lv_at hl 2 rfl) ?_
        refine gf_X5_22 hx hb hown hK hS mC_30 rfl dX5_stages_38 ?_
        refine lv_iload_n hx hb dX5_stages_41 rfl (lv_at hl 0 rfl) ?_
        refine r_iald hx hb hK.1 hS 0 mC_35 rfl (nI_in0 (by omega) (by omega)) (v := nI (T 5 i)) (tA_at (by omega)) dX5_stages_42 ?_
        refine lv_iload_n hx hb dX5_stages_43 rfl (lv_at hl 3 rfl) ?_
        refine r_icmp_ne (a := T 5 i) (b := d) (tgt := 66) hx hb (by omega) (by omega) dX5_stages_44 (by decide) (fun q44 => ?_) (fun q44 => ?_)
        · -- T
          refine lv_iconst (v := nI 0) hx hb dX5_stages_66 (by decide) ?_
          refine lv_iadd hx hb dX5_stages_67 ?_
          refine r_top (y := nI (cntB (stageAt T d) (i + 1))) ((nI_add _ _).trans (by rw [cntB_f (stA_a q44), Nat.add_zero])) ?_
          refine lv_istore_n (lv' := [(2, .int (nI (cntB (stageAt T d) (i + 1)))), (3, .int (nI i)), (0, .ref (ad 30 0)), (1, .int (nI d))]) hx hb dX5_stages_68 rfl hl (by decide) rfl (fun ls hl => ?_)
          refine lv_iinc (v := nI (i + 1)) (lv' := [(3, .int (nI (i + 1))), (2, .int (nI (cntB (stageAt T d) (i + 1)))), (0, .ref (ad 30 0)), (1, .int (nI d))]) hx hb dX5_stages_69 hl (k := 1) rfl (nI_inc _) (by decide) rfl (fun ls hl => ?_)
          refine lv_goto (tgt := 21) hx hb dX5_stages_72 (by decide) ?_
          exact ih (i + 1) (show nC T - (i + 1) < nC T - i by omega) _ _ _ ⟨(show i + 1 ≤ nC T by omega), hS, lv_sub hl [0, 1, 2, 3] rfl⟩
        · -- F
          refine lv_aload_n hx hb dX5_stages_47 rfl (lv_at hl 2 rfl) ?_
          refine lv_iload_n hx hb dX5_stages_48 rfl (lv_at hl 3 rfl) ?_
          refine lv_aload_n hx hb dX5_stages_49 rfl (lv_at hl 2 rfl) ?_
          refine gf_X5_25 hx hb hown hK hS mC_30 rfl dX5_stages_50 ?_
          refine lv_iload_n hx hb dX5_stages_53 rfl (lv_at hl 0 rfl) ?_
          refine r_iald hx hb hK.1 hS 0 mC_36 rfl (nI_in0 (by omega) (by omega)) (v := nI (T 6 i)) (tA_at (by omega)) dX5_stages_54 ?_
          refine cl_X5_77 hx hb hml hown hK hZ hS hA (c_X5_firstOf hN (show d < 2 ^ 31 by omega) (show T 6 i < 2 ^ 31 by omega)) mC_30 rfl hl.1 (Nat.le_of_ble_eq_true rfl) ⟨Nat.le_of_ble_eq_true rfl, Nat.le_of_ble_eq_true rfl⟩ ⟨Nat.zero_le _, Nat.zero_le _⟩ rfl dX5_stages_55 (r_kp (fun H locs hS => ?_))
          refine lv_iload_n hx hb dX5_stages_58 rfl (lv_at hl 0 rfl) ?_
          refine lv_icmp_ne (tgt := 66) hx hb dX5_stages_59 (by decide) (fun q59 => ?_) (fun q59 => ?_)
          · -- T
            refine lv_iconst (v := nI 0) hx hb dX5_stages_66 (by decide) ?_
            refine lv_iadd hx hb dX5_stages_67 ?_
            refine r_top (y := nI (cntB (stageAt T d) (i + 1))) ((nI_add _ _).trans (by rw [cntB_f (stA_b (fun z => q59 ((oI_eq (fo_bd hnC) (by omega)).mpr z))), Nat.add_zero])) ?_
            refine lv_istore_n (lv' := [(2, .int (nI (cntB (stageAt T d) (i + 1)))), (3, .int (nI i)), (0, .ref (ad 30 0)), (1, .int (nI d))]) hx hb dX5_stages_68 rfl hl (by decide) rfl (fun ls hl => ?_)
            refine lv_iinc (v := nI (i + 1)) (lv' := [(3, .int (nI (i + 1))), (2, .int (nI (cntB (stageAt T d) (i + 1)))), (0, .ref (ad 30 0)), (1, .int (nI d))]) hx hb dX5_stages_69 hl (k := 1) rfl (nI_inc _) (by decide) rfl (fun ls hl => ?_)
            refine lv_goto (tgt := 21) hx hb dX5_stages_72 (by decide) ?_
            exact ih (i + 1) (show nC T - (i + 1) < nC T - i by omega) _ _ _ ⟨(show i + 1 ≤ nC T by omega), hS, lv_sub hl [0, 1, 2, 3] rfl⟩
          · -- F
            refine lv_iconst (v := nI 1) hx hb dX5_stages_62 (by decide) ?_
            refine lv_goto (tgt := 67) hx hb dX5_stages_63 (by decide) ?_
            refine lv_iadd hx hb dX5_stages_67 ?_
            refine r_top (y := nI (cntB (stageAt T d) (i + 1))) ((nI_add _ _).trans (by rw [cntB_t (stA_t q44 ((oI_eq (fo_bd hnC) (by omega)).mp q59))])) ?_
            refine lv_istore_n (lv' := [(2, .int (nI (cntB (stageAt T d) (i + 1)))), (3, .int (nI i)), (0, .ref (ad 30 0)), (1, .int (nI d))]) hx hb dX5_stages_68 rfl hl (by decide) rfl (fun ls hl => ?_)
            refine lv_iinc (v := nI (i + 1)) (lv' := [(3, .int (nI (i + 1))), (2, .int (nI (cntB (stageAt T d) (i + 1)))), (0, .ref (ad 30 0)), (1, .int (nI d))]) hx hb dX5_stages_69 hl (k := 1) rfl (nI_inc _) (by decide) rfl (fun ls hl => ?_)
            refine lv_goto (tgt := 21) hx hb dX5_stages_72 (by decide) ?_
            exact ih (i + 1) (show nC T - (i + 1) < nC T - i by omega) _ _ _ ⟨(show i + 1 ≤ nC T by omega), hS, lv_sub hl [0, 1, 2, 3] rfl⟩

set_option maxHeartbeats 4000000 in
set_option maxRecDepth 100000 in
theorem c_X5_offers {G : rG} {l : Launch} {T : rTab} {th : Int32} {rg : Nat → Int32} {C : rC} {ad : rA} (hN : mNu T) (a : Int32) : rMet G l yX5_offers cX5_offers 4 (some .int) (rmP 4) [.ref (ad 30 0), .int a] (mC G T th rg C ad) ad (mP G (sOffers T a) rg C ad) := by
  refine rMet.of (by decide) ?_
  intro p e s m below meth c hx hb hml hr hlocks hown hname hK hZ hS
  have hown : s.vm.findClass RX5 = some m.cls := hown
  have hA : ∀ q : Nat, s.heap.size ≤ q → (rF (mC G T th rg C ad) ad s.heap.size) q := rF.new
  refine r_entry _ (Nat.le_of_ble_eq_true rfl) (fun ls hl => ?_)
  have hl : lv_has ls 4 [(0, .ref (ad 30 0)), (1, .int a)] := hl
  have hnD := hN.hD
  have hnC := hN.hC
  have hnS := hN.hS
  refine lv_aload_n hx hb dX5_offers_0 rfl (lv_at hl 0 rfl) ?_
  refine lv_iload_n hx hb dX5_offers_1 rfl (lv_at hl 1 rfl) ?_
  refine cl_X5_99 hx hb hml hown hK hZ hS hA (c_X5_isCollector a) rfl hl.1 (Nat.le_of_ble_eq_true rfl) ⟨Nat.le_of_ble_eq_true rfl, Nat.le_of_ble_eq_true rfl⟩ ⟨Nat.zero_le _, Nat.zero_le _⟩ rfl dX5_offers_2 (r_kp (fun H locs hS => ?_))
  refine r_ifb_eq (b := ((ixO a 8).isSome)) (tgt := 12) hx hb dX5_offers_5 (by decide) (fun q5 => ?_) (fun q5 => ?_)
  · -- T
    have hix := ix_no q5
    refine lv_iconst (v := nI 1) hx hb dX5_offers_12 (by decide) ?_
    refine pf_X5_52 hx hb hown hK hS mC_30 rfl rfl (fs' := [.int (nI (nD T)), .ref (ad 31 0), .ref (ad 32 0), .ref (ad 33 0), .ref (ad 34 0), .int (nI (nC T)), .ref (ad 35 0), .ref (ad 36 0), .ref (ad 37 0), .ref (ad 38 0), .ref (ad 39 0), .ref (ad 40 0), .ref (ad 41 0), .int (nI (nS T)), .ref (ad 42 0), .ref (ad 43 0), .ref (ad 44 0), .int (nI 1)]) (Nat.le_of_ble_eq_true rfl) rfl dX5_offers_13 (fun H locs hS => ?_)
    rw [mC_pth] at hS
    refine lv_iconst (v := nI 0) hx hb dX5_offers_16 (by decide) ?_
    refine lv_istore_n (lv' := [(2, .int (nI 0)), (0, .ref (ad 30 0)), (1, .int a)]) hx hb dX5_offers_17 rfl hl (by decide) rfl (fun ls hl => ?_)
    refine lv_iconst (v := nI 0) hx hb dX5_offers_18 (by decide) ?_
    refine lv_istore_n (lv' := [(3, .int (nI 0)), (2, .int (nI 0)), (0, .ref (ad 30 0)), (1, .int a)]) hx hb dX5_offers_19 rfl hl (by decide) rfl (fun ls hl => ?_)
    refine lv_iload_n hx hb dX5_offers_20 rfl (lv_at hl 0 rfl) ?_
    refine lv_aload_n hx hb dX5_offers_21 rfl (lv_at hl 2 rfl) ?_
    refine gf_X5_56 hx hb hown hK hS mC_30 (v := .int (nI (nD T))) rfl dX5_offers_22 ?_
    refine r_icmp_ge (a := 0) (b := nD T) (tgt := 61) hx hb (by omega) (by omega) dX5_offers_25 (by decide) (fun q25 => ?_) (fun q25 => ?_)
    · -- T
      refine lv_iload_n hx hb dX5_offers_61 rfl (lv_at hl 1 rfl) ?_
      exact r_iret hx hb hr hlocks hS (mP.mkE (n := 0) (sOffers_1 hix)) (Nat.zero_le _) (Nat.zero_le _) dX5_offers_62
    · -- F
      refine lv_aload_n hx hb dX5_offers_28 rfl (lv_at hl 2 rfl) ?_
      refine gf_X5_52 hx hb hown hK hS mC_30 rfl dX5_offers_29 ?_
      refine r_if_ne (a := 1) (tgt := 61) hx hb (by decide) dX5_offers_32 (by decide) (fun q32 => ?_) (fun q32 => ?_)
      · -- T
        refine lv_iload_n hx hb dX5_offers_61 rfl (lv_at hl 1 rfl) ?_
        exact r_iret hx hb hr hlocks hS (mP.mkE (n := 0) (sOffers_1 hix)) (Nat.zero_le _) (Nat.zero_le _) dX5_offers_62
      · -- F
        exact absurd q32 (by decide)
  · -- F
    obtain ⟨k, hk, hix, rfl⟩ := ix_get q5
    refine lv_iconst (v := nI 0) hx hb dX5_offers_8 (by decide) ?_
    refine lv_goto (tgt := 13) hx hb dX5_offers_9 (by decide) ?_
    refine pf_X5_52 hx hb hown hK hS mC_30 rfl rfl (fs' := [.int (nI (nD T)), .ref (ad 31 0), .ref (ad 32 0), .ref (ad 33 0), .ref (ad 34 0), .int (nI (nC T)), .ref (ad 35 0), .ref (ad 36 0), .ref (ad 37 0), .ref (ad 38 0), .ref (ad 39 0), .ref (ad 40 0), .ref (ad 41 0), .int (nI (nS T)), .ref (ad 42 0), .ref (ad 43 0), .ref (ad 44 0), .int (nI 0)]) (Nat.le_of_ble_eq_true rfl) rfl dX5_offers_13 (fun H locs hS => ?_)
    rw [mC_pth] at hS
    refine lv_iconst (v := nI 0) hx hb dX5_offers_16 (by decide) ?_
    refine lv_istore_n (lv' := [(2, .int (nI 0)), (0, .ref (ad 30 0)), (1, .int (nI k))]) hx hb dX5_offers_17 rfl hl (by decide) rfl (fun ls hl => ?_)
    refine lv_iconst (v := nI 0) hx hb dX5_offers_18 (by decide) ?_
    refine lv_istore_n (lv' := [(3, .int (nI 0)), (2, .int (nI 0)), (0, .ref (ad 30 0)), (1, .int (nI k))]) hx hb dX5_offers_19 rfl hl (by decide) rfl (fun ls hl => ?_)
    refine r_loop (σ := Nat) (fun i => nD T - i) (fun i H locs ls => (i ≤ nD T) ∧ rS G.1 (rF (mC G T th rg C ad) ad s.heap.size) s.heap (mC G T (nI 0) rg C ad) ad H locs ∧ lv_has ls 4 [(3, .int (nI i)), (2, .int (nI (setN (offerB T k) i))), (0, .ref (ad 30 0)), (1, .int (nI k))]) (fun _ => 0) (fun _ => 0) (fun z ih H locs ls hI => ?_) 0 (Nat.zero_le _) (Nat.zero_le _) ⟨Nat.zero_le _, hS, lv_sub hl [0, 1, 2, 3] rfl⟩
    obtain ⟨i, rfl⟩ : ∃ y, y = z := ⟨_, rfl⟩
    obtain ⟨hil, hS, hl⟩ := hI
    try dsimp only at hil hS hl ih ⊢
    refine lv_iload_n hx hb dX5_offers_20 rfl (lv_at hl 0 rfl) ?_
    refine lv_aload_n hx hb dX5_offers_21 rfl (lv_at hl 2 rfl) ?_
    refine gf_X5_56 hx hb hown hK hS mC_30 (v := .int (nI (nD T))) rfl dX5_offers_22 ?_
    refine r_icmp_ge (a := i) (b := nD T) (tgt := 61) hx hb (by omega) (by omega) dX5_offers_25 (by decide) (fun q25 => ?_) (fun q25 => ?_)
    · -- T
      obtain rfl : i = nD T := by omega
      refine lv_iload_n hx hb dX5_offers_61 rfl (lv_at hl 1 rfl) ?_
      exact r_iret hx hb hr hlocks hS (mP.mk0 (sOffers_0 hix) rfl mEq.rf) (Nat.zero_le _) (Nat.zero_le _) dX5_offers_62
    · -- F
      have hi : i < nD T := by omega
      refine lv_aload_n hx hb dX5_offers_28 rfl (lv_at hl 2 rfl) ?_
      refine gf_X5_52 hx hb hown hK hS mC_30 rfl dX5_offers_29 ?_
      refine r_if_ne (a := 0) (tgt := 61) hx hb (by decide) dX5_offers_32 (by decide) (fun q32 => ?_) (fun q32 => ?_)
      · -- T
        exact absurd q32 (by decide)
      · -- F
        refine lv_iload_n hx hb dX5_offers_35 rfl (lv_at hl 1 rfl) ?_
        refine lv_aload_n hx hb dX5_offers_36 rfl (lv_at hl 2 rfl) ?_
        refine lv_iload_n hx hb dX5_offers_37 rfl (lv_at hl 3 rfl) ?_
        refine lv_iload_n hx hb dX5_offers_38 rfl (lv_at hl 0 rfl) ?_
        refine cl_X5_109 hx hb hml hown hK hZ hS hA (c_X5_offer hN hk hi) mC_30 rfl hl.1 (Nat.le_of_ble_eq_true rfl) ⟨Nat.le_of_ble_eq_true rfl, Nat.le_of_ble_eq_true rfl⟩ ⟨Nat.zero_le _, Nat.zero_le _⟩ rfl dX5_offers_39 (r_kp (fun H locs hS => ?_))
        refine lv_iconst (v := (-1)) hx hb dX5_offers_42 (by decide) ?_
        refine r_one (tgt := 50) hx hb (of_bd hnC) dX5_offers_43 (by decide) (fun x43 q43 => ?_) (fun q43 => ?_)
        · -- T
          refine lv_iconst (v := nI 1) hx hb dX5_offers_50 (by decide) ?_
          refine lv_iload_n hx hb dX5_offers_51 rfl (lv_at hl 0 rfl) ?_
          refine lv_ishl hx hb dX5_offers_52 ?_
          refine r_top (y := nI (2 ^ i)) (bit_i _ (by omega)) ?_
          refine lv_ior hx hb dX5_offers_53 ?_
          refine r_top (y := nI (setN (offerB T k) (i + 1))) ((nx_or _ _).trans (by rw [setN_t (ofB_s q43)])) ?_
          refine lv_istore_n (lv' := [(2, .int (nI (setN (offerB T k) (i + 1)))), (3, .int (nI i)), (0, .ref (ad 30 0)), (1, .int (nI k))]) hx hb dX5_offers_54 rfl hl (by decide) rfl (fun ls hl => ?_)
          refine lv_iinc (v := nI (i + 1)) (lv' := [(3, .int (nI (i + 1))), (2, .int (nI (setN (offerB T k) (i + 1)))), (0, .ref (ad 30 0)), (1, .int (nI k))]) hx hb dX5_offers_55 hl (k := 1) rfl (nI_inc _) (by decide) rfl (fun ls hl => ?_)
          refine lv_goto (tgt := 20) hx hb dX5_offers_58 (by decide) ?_
          exact ih (i + 1) (show nD T - (i + 1) < nD T - i by omega) _ _ _ ⟨(show i + 1 ≤ nD T by omega), hS, lv_sub hl [0, 1, 2, 3] rfl⟩
        · -- F
          refine lv_iconst (v := nI 0) hx hb dX5_offers_46 (by decide) ?_
          refine lv_goto (tgt := 53) hx hb dX5_offers_47 (by decide) ?_
          refine lv_ior hx hb dX5_offers_53 ?_
          refine r_top (y := nI (setN (offerB T k) (i + 1))) ((nx_or _ _).trans (by rw [setN_f (ofB_n q43), Nat.or_zero])) ?_
          refine lv_istore_n (lv' := [(2, .int (nI (setN (offerB T k) (i + 1)))), (3, .int (nI i)), (0, .ref (ad 30 0)), (1, .int (nI k))]) hx hb dX5_offers_54 rfl hl (by decide) rfl (fun ls hl => ?_)
          refine lv_iinc (v := nI (i + 1)) (lv' := [(3, .int (nI (i + 1))), (2, .int (nI (setN (offerB T k) (i + 1)))), (0, .ref (ad 30 0)), (1, .int (nI k))]) hx hb dX5_offers_55 hl (k := 1) rfl (nI_inc _) (by decide) rfl (fun ls hl => ?_)
          refine lv_goto (tgt := 20) hx hb dX5_offers_58 (by decide) ?_
          exact ih (i + 1) (show nD T - (i + 1) < nD T - i by omega) _ _ _ ⟨(show i + 1 ≤ nD T by omega), hS, lv_sub hl [0, 1, 2, 3] rfl⟩

set_option maxHeartbeats 4000000 in
set_option maxRecDepth 100000 in
theorem c_X5_worth {G : rG} {l : Launch} {T : rTab} {th : Int32} {rg : Nat → Int32} {C : rC} {ad : rA} (hN : mNu T) (a : Int32) : rMet G l yX5_worth cX5_worth 4 (some .int) (rmP 6) [.ref (ad 30 0), .int a] (mC G T th rg C ad) ad (mP G (qS T (byN 8 a (fun k => nI (worthN T k)))) rg C ad) := by
  refine rMet.of (by decide) ?_
  intro p e s m below meth c hx hb hml hr hlocks hown hname hK hZ hS
  have hown : s.vm.findClass RX5 = some m.cls := hown
  have hA : ∀ q : Nat, s.heap.size ≤ q → (rF (mC G T th rg C ad) ad s.heap.size) q := rF.new
  refine r_entry _ (Nat.le_of_ble_eq_true rfl) (fun ls hl => ?_)
  have hl : lv_has ls 4 [(0, .ref (ad 30 0)), (1, .int a)] := hl
  have hnD := hN.hD
  have hnC := hN.hC
  have hnS := hN.hS
  refine lv_aload_n hx hb dX5_worth_0 rfl (lv_at hl 0 rfl) ?_
  refine lv_iload_n hx hb dX5_worth_1 rfl (lv_at hl 1 rfl) ?_
  refine cl_X5_99 hx hb hml hown hK hZ hS hA (c_X5_isCollector a) rfl hl.1 (Nat.le_of_ble_eq_true rfl) ⟨Nat.le_of_ble_eq_true rfl, Nat.le_of_ble_eq_true rfl⟩ ⟨Nat.zero_le _, Nat.zero_le _⟩ rfl dX5_worth_2 (r_kp (fun H locs hS => ?_))
  refine r_ifb_eq (b := ((ixO a 8).isSome)) (tgt := 12) hx hb dX5_worth_5 (by decide) (fun q5 => ?_) (fun q5 => ?_)
  · -- T
    have hix := ix_no q5
    refine lv_iconst (v := nI 1) hx hb dX5_worth_12 (by decide) ?_
    refine pf_X5_52 hx hb hown hK hS mC_30 rfl rfl (fs' := [.int (nI (nD T)), .ref (ad 31 0), .ref (ad 32 0), .ref (ad 33 0), .ref (ad 34 0), .int (nI (nC T)), .ref (ad 35 0), .ref (ad 36 0), .ref (ad 37 0), .ref (ad 38 0), .ref (ad 39 0), .ref (ad 40 0), .ref (ad 41 0), .int (nI (nS T)), .ref (ad 42 0), .ref (ad 43 0), .ref (ad 44 0), .int (nI 1)]) (Nat.le_of_ble_eq_true rfl) rfl dX5_worth_13 (fun H locs hS => ?_)
    rw [mC_pth] at hS
    refine lv_iconst (v := nI 0) hx hb dX5_worth_16 (by decide) ?_
    refine lv_istore_n (lv' := [(2, .int (nI 0)), (0, .ref (ad 30 0)), (1, .int a)]) hx hb dX5_worth_17 rfl hl (by decide) rfl (fun ls hl => ?_)
    refine lv_iconst (v := nI 0) hx hb dX5_worth_18 (by decide) ?_
    refine lv_istore_n (lv' := [(3, .int (nI 0)), (2, .int (nI 0)), (0, .ref (ad 30 0)), (1, .int a)]) hx hb dX5_worth_19 rfl hl (by decide) rfl (fun ls hl => ?_)
    refine lv_iload_n hx hb dX5_worth_20 rfl (lv_at hl 0 rfl) ?_
    refine lv_aload_n hx hb dX5_worth_21 rfl (lv_at hl 2 rfl) ?_
    refine gf_X5_63 hx hb hown hK hS mC_30 (v := .int (nI (nC T))) rfl dX5_worth_22 ?_
    refine r_icmp_ge (a := 0) (b := nC T) (tgt := 65) hx hb (by omega) (by omega) dX5_worth_25 (by decide) (fun q25 => ?_) (fun q25 => ?_)
    · -- T
      refine lv_iload_n hx hb dX5_worth_65 rfl (lv_at hl 1 rfl) ?_
      exact r_iret hx hb hr hlocks hS (mP.mkE (n := 0) (congrArg (qS T) (byN_n hix))) (Nat.zero_le _) (Nat.zero_le _) dX5_worth_66
    · -- F
      refine lv_aload_n hx hb dX5_worth_28 rfl (lv_at hl 2 rfl) ?_
      refine gf_X5_52 hx hb hown hK hS mC_30 rfl dX5_worth_29 ?_
      refine r_if_ne (a := 1) (tgt := 65) hx hb (by decide) dX5_worth_32 (by decide) (fun q32 => ?_) (fun q32 => ?_)
      · -- T
        refine lv_iload_n hx hb dX5_worth_65 rfl (lv_at hl 1 rfl) ?_
        exact r_iret hx hb hr hlocks hS (mP.mkE (n := 0) (congrArg (qS T) (byN_n hix))) (Nat.zero_le _) (Nat.zero_le _) dX5_worth_66
      · -- F
        exact absurd q32 (by decide)
  · -- F
    obtain ⟨k, hk, hix, rfl⟩ := ix_get q5
    refine lv_iconst (v := nI 0) hx hb dX5_worth_8 (by decide) ?_
    refine lv_goto (tgt := 13) hx hb dX5_worth_9 (by decide) ?_
    refine pf_X5_52 hx hb hown hK hS mC_30 rfl rfl (fs' := [.int (nI (nD T)), .ref (ad 31 0), .ref (ad 32 0), .ref (ad 33 0), .ref (ad 34 0), .int (nI (nC T)), .ref (ad 35 0), .ref (ad 36 0), .ref (ad 37 0), .ref (ad 38 0), .ref (ad 39 0), .ref (ad 40 0), .ref (ad 41 0), .int (nI (nS T)), .ref (ad 42 0), .ref (ad 43 0), .ref (ad 44 0), .int (nI 0)]) (Nat.le_of_ble_eq_true rfl) rfl dX5_worth_13 (fun H locs hS => ?_)
    rw [mC_pth] at hS
    refine lv_iconst (v := nI 0) hx hb dX5_worth_16 (by decide) ?_
    refine lv_istore_n (lv' := [(2, .int (nI 0)), (0, .ref (ad 30 0)), (1, .int (nI k))]) hx hb dX5_worth_17 rfl hl (by decide) rfl (fun ls hl => ?_)
    refine lv_iconst (v := nI 0) hx hb dX5_worth_18 (by decide) ?_
    refine lv_istore_n (lv' := [(3, .int (nI 0)), (2, .int (nI 0)), (0, .ref (ad 30 0)), (1, .int (nI k))]) hx hb dX5_worth_19 rfl hl (by decide) rfl (fun ls hl => ?_)
    refine r_loop (σ := Nat) (fun i => nC T - i) (fun i H locs ls => (i ≤ nC T) ∧ rS G.1 (rF (mC G T th rg C ad) ad s.heap.size) s.heap (mC G T (nI 0) rg C ad) ad H locs ∧ lv_has ls 4 [(3, .int (nI i)), (2, .int (nI (sumN (fun j => if ownAt T k j = true then priceN T j else 0) i))), (0, .ref (ad 30 0)), (1, .int (nI k))]) (fun _ => 0) (fun _ => 0) (fun z ih H locs ls hI => ?_) 0 (Nat.zero_le _) (Nat.zero_le _) ⟨Nat.zero_le _, hS, lv_sub hl [0, 1, 2, 3] rfl⟩
    obtain ⟨i, rfl⟩ : ∃ y, y = z := ⟨_, rfl⟩
    obtain ⟨hil, hS, hl⟩ := hI
    try dsimp only at hil hS hl ih ⊢
    refine lv_iload_n hx hb dX5_worth_20 rfl (lv_at hl 0 rfl) ?_
    refine lv_aload_n hx hb dX5_worth_21 rfl (lv_at hl 2 rfl) ?_
    refine gf_X5_63 hx hb hown hK hS mC_30 (v := .int (nI (nC T))) rfl dX5_worth_22 ?_
    refine r_icmp_ge (a := i) (b := nC T) (tgt := 65) hx hb (by omega) (by omega) dX5_worth_25 (by decide) (fun q25 => ?_) (fun q25 => ?_)
    · -- T
      obtain rfl : i = nC T := by omega
      refine lv_iload_n hx hb dX5_worth_65 rfl (lv_at hl 1 rfl) ?_
      exact r_iret hx hb hr hlocks hS (mP.mk0 (congrArg (qS T) (byN_s hix)) rfl mEq.rf) (Nat.zero_le _) (Nat.zero_le _) dX5_worth_66
    · -- F
      have hi : i < nC T := by omega
      have hcn := hN.cn hi
      refine lv_aload_n hx hb dX5_worth_28 rfl (lv_at hl 2 rfl) ?_
      refine gf_X5_52 hx hb hown hK hS mC_30 rfl dX5_worth_29 ?_
      refine r_if_ne (a := 0) (tgt := 65) hx hb (by decide) dX5_worth_32 (by decide) (fun q32 => ?_) (fun q32 => ?_)
      · -- T
        exact absurd q32 (by decide)
      · -- F
        refine lv_iload_n hx hb dX5_worth_35 rfl (lv_at hl 1 rfl) ?_
        refine lv_aload_n hx hb dX5_worth_36 rfl (lv_at hl 2 rfl) ?_
        refine gf_X5_31 hx hb hown hK hS mC_30 rfl dX5_worth_37 ?_
        refine lv_iload_n hx hb dX5_worth_40 rfl (lv_at hl 0 rfl) ?_
        refine r_iald hx hb hK.1 hS 0 mC_38 rfl (nI_in0 (by omega) (by omega)) (v := nI (T 8 i)) (tA_at (by omega)) dX5_worth_41 ?_
        refine lv_iload_n hx hb dX5_worth_42 rfl (lv_at hl 3 rfl) ?_
        refine lv_iconst (v := nI 1) hx hb dX5_worth_43 (by decide) ?_
        refine lv_iadd hx hb dX5_worth_44 ?_
        refine r_top (nI_add _ _) ?_
        refine r_icmp_ne (a := T 8 i) (b := k + 1) (tgt := 56) hx hb (by omega) (by omega) dX5_worth_45 (by decide) (fun q45 => ?_) (fun q45 => ?_)
        · -- T
          refine lv_iconst (v := nI 0) hx hb dX5_worth_56 (by decide) ?_
          refine lv_iadd hx hb dX5_worth_57 ?_
          refine r_top (y := nI (sumN (fun j => if ownAt T k j = true then priceN T j else 0) (i + 1))) ((nI_add _ _).trans (by rw [sumN_s]; rw [if_neg (by unfold ownAt; rw [decide_eq_false q45]; exact Bool.false_ne_true)])) ?_
          refine lv_istore_n (lv' := [(2, .int (nI (sumN (fun j => if ownAt T k j = true then priceN T j else 0) (i + 1)))), (3, .int (nI i)), (0, .ref (ad 30 0)), (1, .int (nI k))]) hx hb dX5_worth_58 rfl hl (by decide) rfl (fun ls hl => ?_)
          refine lv_iinc (v := nI (i + 1)) (lv' := [(3, .int (nI (i + 1))), (2, .int (nI (sumN (fun j => if ownAt T k j = true then priceN T j else 0) (i + 1)))), (0, .ref (ad 30 0)), (1, .int (nI k))]) hx hb dX5_worth_59 hl (k := 1) rfl (nI_inc _) (by decide) rfl (fun ls hl => ?_)
          refine lv_goto (tgt := 20) hx hb dX5_worth_62 (by decide) ?_
          exact ih (i + 1) (show nC T - (i + 1) < nC T - i by omega) _ _ _ ⟨(show i + 1 ≤ nC T by omega), hS, lv_sub hl [0, 1, 2, 3] rfl⟩
        · -- F
          refine lv_aload_n hx hb dX5_worth_48 rfl (lv_at hl 2 rfl) ?_
          refine lv_iload_n hx hb dX5_worth_49 rfl (lv_at hl 0 rfl) ?_
          refine cl_X5_96 hx hb hml hown hK hZ hS hA (c_X5_priceOf hN hi) mC_30 rfl hl.1 (Nat.le_of_ble_eq_true rfl) ⟨Nat.le_of_ble_eq_true rfl, Nat.le_of_ble_eq_true rfl⟩ ⟨Nat.zero_le _, Nat.zero_le _⟩ rfl dX5_worth_50 (r_kp (fun H locs hS => ?_))
          refine lv_goto (tgt := 57) hx hb dX5_worth_53 (by decide) ?_
          refine lv_iadd hx hb dX5_worth_57 ?_
          refine r_top (y := nI (sumN (fun j => if ownAt T k j = true then priceN T j else 0) (i + 1))) ((nI_add _ _).trans (by rw [sumN_s]; rw [if_pos (show ownAt T k i = true from decide_eq_true q45)])) ?_
          refine lv_istore_n (lv' := [(2, .int (nI (sumN (fun j => if ownAt T k j = true then priceN T j else 0) (i + 1)))), (3, .int (nI i)), (0, .ref (ad 30 0)), (1, .int (nI k))]) hx hb dX5_worth_58 rfl hl (by decide) rfl (fun ls hl => ?_)
          refine lv_iinc (v := nI (i + 1)) (lv' := [(3, .int (nI (i + 1))), (2, .int (nI (sumN (fun j => if ownAt T k j = true then priceN T j else 0) (i + 1)))), (0, .ref (ad 30 0)), (1, .int (nI k))]) hx hb dX5_worth_59 hl (k := 1) rfl (nI_inc _) (by decide) rfl (fun ls hl => ?_)
          refine lv_goto (tgt := 20) hx hb dX5_worth_62 (by decide) ?_
          exact ih (i + 1) (show nC T - (i + 1) < nC T - i by omega) _ _ _ ⟨(show i + 1 ≤ nC T by omega), hS, lv_sub hl [0, 1, 2, 3] rfl⟩

theorem sw_at {T : rTab} (hN : mNu T) {a b : Int32} {q : Nat} (ha : ixO a (nS T) = some q) : inB b (nI 0) (nI (T 12 q) - nI 1) = (ixO b (T 12 q)).isSome := in_ix (by have := hN.sn (ixO_lt ha); omega)

set_option maxHeartbeats 4000000 in
set_option maxRecDepth 100000 in
theorem c_X5_swapAt {G : rG} {l : Launch} {T : rTab} {th : Int32} {rg : Nat → Int32} {C : rC} {ad : rA} (hN : mNu T) (a b : Int32) : rMet G l yX5_swapAt cX5_swapAt 3 (some .int) (rmP 3) [.ref (ad 30 0), .int a, .int b] (mC G T th rg C ad) ad (mP G (qS T (swapQ T a b)) rg C ad) := by
  refine rMet.of (by decide) ?_
  intro p e s m below meth c hx hb hml hr hlocks hown hname hK hZ hS
  have hown : s.vm.findClass RX5 = some m.cls := hown
  have hA : ∀ q : Nat, s.heap.size ≤ q → (rF (mC G T th rg C ad) ad s.heap.size) q := rF.new
  refine r_entry _ (Nat.le_of_ble_eq_true rfl) (fun ls hl => ?_)
  have hl : lv_has ls 3 [(0, .ref (ad 30 0)), (1, .int a), (2, .int b)] := hl
  have hnD := hN.hD
  have hnC := hN.hC
  have hnS := hN.hS
  refine lv_aload_n hx hb dX5_swapAt_0 rfl (lv_at hl 0 rfl) ?_
  refine lv_iload_n hx hb dX5_swapAt_1 rfl (lv_at hl 1 rfl) ?_
  refine lv_iconst (v := nI 0) hx hb dX5_swapAt_2 (by decide) ?_
  refine lv_aload_n hx hb dX5_swapAt_3 rfl (lv_at hl 0 rfl) ?_
  refine gf_X5_129 hx hb hown hK hS mC_30 (v := .int (nI (nS T))) rfl dX5_swapAt_4 ?_
  refine lv_iconst (v := nI 1) hx hb dX5_swapAt_7 (by decide) ?_
  refine lv_isub hx hb dX5_swapAt_8 ?_
  refine cl_X5_59 hx hb hml hown hK hZ hS hA (c_X5_in a (nI 0) (nI (nS T) - nI 1)) rfl hl.1 (Nat.le_of_ble_eq_true rfl) ⟨Nat.le_of_ble_eq_true rfl, Nat.le_of_ble_eq_true rfl⟩ ⟨Nat.zero_le _, Nat.zero_le _⟩ rfl dX5_swapAt_9 (r_kp (fun H locs hS => ?_))
  refine r_top (y := bI (ixO a (nS T)).isSome) (by rw [in_ix (by omega)]) ?_
  refine r_ifb_eq (b := ((ixO a (nS T)).isSome)) (tgt := 31) hx hb dX5_swapAt_12 (by decide) (fun q12 => ?_) (fun q12 => ?_)
  · -- T
    have hix := ix_no q12
    refine lv_iconst (v := nI 1) hx hb dX5_swapAt_31 (by decide) ?_
    refine lv_goto (tgt := 36) hx hb dX5_swapAt_32 (by decide) ?_
    refine pf_X5_52 hx hb hown hK hS mC_30 rfl rfl (fs' := [.int (nI (nD T)), .ref (ad 31 0), .ref (ad 32 0), .ref (ad 33 0), .ref (ad 34 0), .int (nI (nC T)), .ref (ad 35 0), .ref (ad 36 0), .ref (ad 37 0), .ref (ad 38 0), .ref (ad 39 0), .ref (ad 40 0), .ref (ad 41 0), .int (nI (nS T)), .ref (ad 42 0), .ref (ad 43 0), .ref (ad 44 0), .int (nI 1)]) (Nat.le_of_ble_eq_true rfl) rfl dX5_swapAt_36 (fun H locs hS => ?_)
    rw [mC_pth] at hS
    refine lv_aload_n hx hb dX5_swapAt_39 rfl (lv_at hl 0 rfl) ?_
    refine gf_X5_52 hx hb hown hK hS mC_30 rfl dX5_swapAt_40 ?_
    refine r_if_ne (a := 1) (tgt := 59) hx hb (by decide) dX5_swapAt_43 (by decide) (fun q43 => ?_) (fun q43 => ?_)
    · -- T
      refine lv_iconst (v := nI 0) hx hb dX5_swapAt_59 (by decide) ?_
      exact r_iret hx hb hr hlocks hS (mP.mkE (n := 0) (congrArg (qS T) (swapQ_n hix))) (Nat.zero_le _) (Nat.zero_le _) dX5_swapAt_60
    · -- F
      exact absurd q43 (by decide)
  · -- F
    obtain ⟨q, hq, hix, rfl⟩ := ix_get q12
    have hsn := hN.sn hq
    refine lv_iload_n hx hb dX5_swapAt_15 rfl (lv_at hl 2 rfl) ?_
    refine lv_iconst (v := nI 0) hx hb dX5_swapAt_16 (by decide) ?_
    refine lv_aload_n hx hb dX5_swapAt_17 rfl (lv_at hl 0 rfl) ?_
    refine gf_X5_43 hx hb hown hK hS mC_30 rfl dX5_swapAt_18 ?_
    refine lv_iload_n hx hb dX5_swapAt_21 rfl (lv_at hl 1 rfl) ?_
    refine r_iald hx hb hK.1 hS 0 mC_42 rfl (nI_in0 (by omega) (by omega)) (v := nI (T 12 q)) (tA_at (by omega)) dX5_swapAt_22 ?_
    refine lv_iconst (v := nI 1) hx hb dX5_swapAt_23 (by decide) ?_
    refine lv_isub hx hb dX5_swapAt_24 ?_
    refine cl_X5_59 hx hb hml hown hK hZ hS hA (c_X5_in b (nI 0) (nI (T 12 q) - nI 1)) rfl hl.1 (Nat.le_of_ble_eq_true rfl) ⟨Nat.le_of_ble_eq_true rfl, Nat.le_of_ble_eq_true rfl⟩ ⟨Nat.zero_le _, Nat.zero_le _⟩ rfl dX5_swapAt_25 (r_kp (fun H locs hS => ?_))
    refine r_top (y := bI (ixO b (T 12 q)).isSome) (by rw [sw_at hN hix]) ?_
    refine r_ifb_ne (b := ((ixO b (T 12 q)).isSome)) (tgt := 35) hx hb dX5_swapAt_28 (by decide) (fun q28 => ?_) (fun q28 => ?_)
    · -- T
      obtain ⟨x, hxq, hiy, rfl⟩ := ix_get q28
      refine lv_iconst (v := nI 0) hx hb dX5_swapAt_35 (by decide) ?_
      refine pf_X5_52 hx hb hown hK hS mC_30 rfl rfl (fs' := [.int (nI (nD T)), .ref (ad 31 0), .ref (ad 32 0), .ref (ad 33 0), .ref (ad 34 0), .int (nI (nC T)), .ref (ad 35 0), .ref (ad 36 0), .ref (ad 37 0), .ref (ad 38 0), .ref (ad 39 0), .ref (ad 40 0), .ref (ad 41 0), .int (nI (nS T)), .ref (ad 42 0), .ref (ad 43 0), .ref (ad 44 0), .int (nI 0)]) (Nat.le_of_ble_eq_true rfl) rfl dX5_swapAt_36 (fun H locs hS => ?_)
      rw [mC_pth] at hS
      refine lv_aload_n hx hb dX5_swapAt_39 rfl (lv_at hl 0 rfl) ?_
      refine gf_X5_52 hx hb hown hK hS mC_30 rfl dX5_swapAt_40 ?_
      refine r_if_ne (a := 0) (tgt := 59) hx hb (by decide) dX5_swapAt_43 (by decide) (fun q43 => ?_) (fun q43 => ?_)
      · -- T
        exact absurd q43 (by decide)
      · -- F
        refine lv_aload_n hx hb dX5_swapAt_46 rfl (lv_at hl 0 rfl) ?_
        refine gf_X5_46 hx hb hown hK hS mC_30 rfl dX5_swapAt_47 ?_
        refine lv_iconst (v := nI 4) hx hb dX5_swapAt_50 (by decide) ?_
        refine lv_iload_n hx hb dX5_swapAt_51 rfl (lv_at hl 1 rfl) ?_
        refine lv_imul hx hb dX5_swapAt_52 ?_
        refine r_top (pk_mul _ _) ?_
        refine lv_iload_n hx hb dX5_swapAt_53 rfl (lv_at hl 2 rfl) ?_
        refine lv_iadd hx hb dX5_swapAt_54 ?_
        refine r_top (nI_add _ _) ?_
        refine r_iald hx hb hK.1 hS 0 mC_43 rfl (nI_in0 (by omega) (by omega)) (v := nI (T 13 (4 * q + x))) (tA_at (by omega)) dX5_swapAt_55 ?_
        refine lv_goto (tgt := 60) hx hb dX5_swapAt_56 (by decide) ?_
        exact r_iret hx hb hr hlocks hS (mP.mk0 (congrArg (qS T) (swapQ_s hix hiy)) rfl mEq.rf) (Nat.zero_le _) (Nat.zero_le _) dX5_swapAt_60
    · -- F
      have hiy := ix_no q28
      refine lv_iconst (v := nI 1) hx hb dX5_swapAt_31 (by decide) ?_
      refine lv_goto (tgt := 36) hx hb dX5_swapAt_32 (by decide) ?_
      refine pf_X5_52 hx hb hown hK hS mC_30 rfl rfl (fs' := [.int (nI (nD T)), .ref (ad 31 0), .ref (ad 32 0), .ref (ad 33 0), .ref (ad 34 0), .int (nI (nC T)), .ref (ad 35 0), .ref (ad 36 0), .ref (ad 37 0), .ref (ad 38 0), .ref (ad 39 0), .ref (ad 40 0), .ref (ad 41 0), .int (nI (nS T)), .ref (ad 42 0), .ref (ad 43 0), .ref (ad 44 0), .int (nI 1)]) (Nat.le_of_ble_eq_true rfl) rfl dX5_swapAt_36 (fun H locs hS => ?_)
      rw [mC_pth] at hS
      refine lv_aload_n hx hb dX5_swapAt_39 rfl (lv_at hl 0 rfl) ?_
      refine gf_X5_52 hx hb hown hK hS mC_30 rfl dX5_swapAt_40 ?_
      refine r_if_ne (a := 1) (tgt := 59) hx hb (by decide) dX5_swapAt_43 (by decide) (fun q43 => ?_) (fun q43 => ?_)
      · -- T
        refine lv_iconst (v := nI 0) hx hb dX5_swapAt_59 (by decide) ?_
        exact r_iret hx hb hr hlocks hS (mP.mkE (n := 0) (congrArg (qS T) (swapQ_m hix hiy))) (Nat.zero_le _) (Nat.zero_le _) dX5_swapAt_60
      · -- F
        exact absurd q43 (by decide)

set_option maxHeartbeats 4000000 in
set_option maxRecDepth 100000 in
theorem c_X5_spoiled {G : rG} {l : Launch} {T : rTab} {th : Int32} {rg : Nat → Int32} {C : rC} {ad : rA} (hN : mNu T)  : rMet G l yX5_spoiled cX5_spoiled 5 (some .int) (rmP 3) [.ref (ad 30 0)] (mC G T th rg C ad) ad (mP G (0, nI (cntB (falsS T) (nS T)), T) rg C ad) := by
  refine rMet.of (by decide) ?_
  intro p e s m below meth c hx hb hml hr hlocks hown hname hK hZ hS
  have hown : s.vm.findClass RX5 = some m.cls := hown
  have hA : ∀ q : Nat, s.heap.size ≤ q → (rF (mC G T th rg C ad) ad s.heap.size) q := rF.new
  refine r_entry _ (Nat.le_of_ble_eq_true rfl) (fun ls hl => ?_)
  have hl : lv_has ls 5 [(0, .ref (ad 30 0))] := hl
  have hnD := hN.hD
  have hnC := hN.hC
  have hnS := hN.hS
  refine lv_aload_n hx hb dX5_spoiled_0 rfl (lv_at hl 0 rfl) ?_
  refine lv_iconst (v := nI 0) hx hb dX5_spoiled_1 (by decide) ?_
  refine pf_X5_52 hx hb hown hK hS mC_30 rfl rfl (fs' := [.int (nI (nD T)), .ref (ad 31 0), .ref (ad 32 0), .ref (ad 33 0), .ref (ad 34 0), .int (nI (nC T)), .ref (ad 35 0), .ref (ad 36 0), .ref (ad 37 0), .ref (ad 38 0), .ref (ad 39 0), .ref (ad 40 0), .ref (ad 41 0), .int (nI (nS T)), .ref (ad 42 0), .ref (ad 43 0), .ref (ad 44 0), .int (nI 0)]) (Nat.le_of_ble_eq_true rfl) rfl dX5_spoiled_2 (fun H locs hS => ?_)
  rw [mC_pth] at hS
  refine lv_iconst (v := nI 0) hx hb dX5_spoiled_5 (by decide) ?_
  refine lv_istore_n (lv' := [(1, .int (nI 0)), (0, .ref (ad 30 0))]) hx hb dX5_spoiled_6 rfl hl (by decide) rfl (fun ls hl => ?_)
  refine lv_iconst (v := nI 0) hx hb dX5_spoiled_7 (by decide) ?_
  refine lv_istore_n (lv' := [(2, .int (nI 0)), (1, .int (nI 0)), (0, .ref (ad 30 0))]) hx hb dX5_spoiled_8 rfl hl (by decide) rfl (fun ls hl => ?_)
  refine r_loop (σ := Nat) (fun q => nS T - q) (fun q H locs ls => (q ≤ nS T) ∧ rS G.1 (rF (mC G T th rg C ad) ad s.heap.size) s.heap (mC G T (nI 0) rg C ad) ad H locs ∧ lv_has ls 5 [(2, .int (nI q)), (1, .int (nI (cntB (falsS T) q))), (0, .ref (ad 30 0))]) (fun _ => 0) (fun _ => 0) (fun z ih H locs ls hI => ?_) 0 (Nat.zero_le _) (Nat.zero_le _) ⟨Nat.zero_le _, hS, lv_sub hl [0, 1, 2] rfl⟩
  obtain ⟨q, rfl⟩ : ∃ y, y = z := ⟨_, rfl⟩
  obtain ⟨hql, hS, hl⟩ := hI
  try dsimp only at hql hS hl ih ⊢
  refine lv_iload_n hx hb dX5_spoiled_9 rfl (lv_at hl 0 rfl) ?_
  refine lv_aload_n hx hb dX5_spoiled_10 rfl (lv_at hl 2 rfl) ?_
  refine gf_X5_129 hx hb hown hK hS mC_30 (v := .int (nI (nS T))) rfl dX5_spoiled_11 ?_
  refine r_icmp_ge (a := q) (b := nS T) (tgt := 89) hx hb (by omega) (by omega) dX5_spoiled_14 (by decide) (fun q14 => ?_) (fun q14 => ?_)
  · -- T
    obtain rfl : q = nS T := by omega
    refine lv_iload_n hx hb dX5_spoiled_89 rfl (lv_at hl 1 rfl) ?_
    exact r_iret hx hb hr hlocks hS (mP.mk0 rfl rfl mEq.rf) (Nat.zero_le _) (Nat.zero_le _) dX5_spoiled_90
  · -- F
    have hq : q < nS T := by omega
    have hsn := hN.sn hq
    refine lv_iconst (v := nI 0) hx hb dX5_spoiled_17 (by decide) ?_
    refine lv_istore_n (lv' := [(3, .int (nI 0)), (2, .int (nI q)), (1, .int (nI (cntB (falsS T) q))), (0, .ref (ad 30 0))]) hx hb dX5_spoiled_18 rfl hl (by decide) rfl (fun ls hl => ?_)
    refine lv_iconst (v := nI 0) hx hb dX5_spoiled_19 (by decide) ?_
    refine lv_istore (lv' := [(4, .int (nI 0)), (3, .int (nI 0)), (2, .int (nI q)), (1, .int (nI (cntB (falsS T) q))), (0, .ref (ad 30 0))]) hx hb dX5_spoiled_20 hl (by decide) rfl (fun ls hl => ?_)
    refine r_loop (σ := Nat) (fun x => T 12 q - x) (fun x H locs ls => (x ≤ T 12 q) ∧ rS G.1 (rF (mC G T th rg C ad) ad s.heap.size) s.heap (mC G T (nI 0) rg C ad) ad H locs ∧ lv_has ls 5 [(4, .int (nI x)), (3, .int (bI ((List.range x).any (fun x => !tru T (T 13 (4 * q + x) % 1000))))), (2, .int (nI q)), (1, .int (nI (cntB (falsS T) q))), (0, .ref (ad 30 0))]) (fun _ => 0) (fun _ => 0) (fun z ih2 H locs ls hI => ?_) 0 (Nat.zero_le _) (Nat.zero_le _) ⟨Nat.zero_le _, hS, lv_sub hl [0, 1, 2, 3, 4] rfl⟩
    obtain ⟨x, rfl⟩ : ∃ y, y = z := ⟨_, rfl⟩
    obtain ⟨hxl, hS, hl⟩ := hI
    try dsimp only at hxl hS hl ih2 ⊢
    refine lv_iload hx hb dX5_spoiled_22 (lv_at hl 0 rfl) ?_
    refine lv_aload_n hx hb dX5_spoiled_24 rfl (lv_at hl 4 rfl) ?_
    refine gf_X5_43 hx hb hown hK hS mC_30 rfl dX5_spoiled_25 ?_
    refine lv_iload_n hx hb dX5_spoiled_28 rfl (lv_at hl 2 rfl) ?_
    refine r_iald hx hb hK.1 hS 0 mC_42 rfl (nI_in0 (by omega) (by omega)) (v := nI (T 12 q)) (tA_at (by omega)) dX5_spoiled_29 ?_
    refine r_icmp_ge (a := x) (b := T 12 q) (tgt := 71) hx hb (by omega) (by omega) dX5_spoiled_30 (by decide) (fun q30 => ?_) (fun q30 => ?_)
    · -- T
      obtain rfl : x = T 12 q := by omega
      refine lv_iload_n hx hb dX5_spoiled_71 rfl (lv_at hl 3 rfl) ?_
      refine lv_iload_n hx hb dX5_spoiled_72 rfl (lv_at hl 1 rfl) ?_
      refine r_ifb_eq (b := (falsS T q)) (tgt := 80) hx hb dX5_spoiled_73 (by decide) (fun q73 => ?_) (fun q73 => ?_)
      · -- T
        refine lv_iconst (v := nI 0) hx hb dX5_spoiled_80 (by decide) ?_
        refine lv_iadd hx hb dX5_spoiled_81 ?_
        refine r_top (y := nI (cntB (falsS T) (q + 1))) ((nI_add _ _).trans (by rw [cntB_f (show falsS T q = false from q73), Nat.add_zero])) ?_
        refine lv_istore_n (lv' := [(1, .int (nI (cntB (falsS T) (q + 1)))), (4, .int (nI (T 12 q))), (3, .int (bI (falsS T q))), (2, .int (nI q)), (0, .ref (ad 30 0))]) hx hb dX5_spoiled_82 rfl hl (by decide) rfl (fun ls hl => ?_)
        refine lv_iinc (v := nI (q + 1)) (lv' := [(2, .int (nI (q + 1))), (1, .int (nI (cntB (falsS T) (q + 1)))), (4, .int (nI (T 12 q))), (3, .int (bI (falsS T q))), (0, .ref (ad 30 0))]) hx hb dX5_spoiled_83 hl (k := 3) rfl (nI_inc _) (by decide) rfl (fun ls hl => ?_)
        refine lv_goto (tgt := 9) hx hb dX5_spoiled_86 (by decide) ?_
        exact ih (q + 1) (show nS T - (q + 1) < nS T - q by omega) _ _ _ ⟨(show q + 1 ≤ nS T by omega), hS, lv_sub hl [0, 1, 4] rfl⟩
      · -- F
        refine lv_iconst (v := nI 1) hx hb dX5_spoiled_76 (by decide) ?_
        refine lv_goto (tgt := 81) hx hb dX5_spoiled_77 (by decide) ?_
        refine lv_iadd hx hb dX5_spoiled_81 ?_
        refine r_top (y := nI (cntB (falsS T) (q + 1))) ((nI_add _ _).trans (by rw [cntB_t (show falsS T q = true from q73)])) ?_
        refine lv_istore_n (lv' := [(1, .int (nI (cntB (falsS T) (q + 1)))), (4, .int (nI (T 12 q))), (3, .int (bI (falsS T q))), (2, .int (nI q)), (0, .ref (ad 30 0))]) hx hb dX5_spoiled_82 rfl hl (by decide) rfl (fun ls hl => ?_)
        refine lv_iinc (v := nI (q + 1)) (lv' := [(2, .int (nI (q + 1))), (1, .int (nI (cntB (falsS T) (q + 1)))), (4, .int (nI (T 12 q))), (3, .int (bI (falsS T q))), (0, .ref (ad 30 0))]) hx hb dX5_spoiled_83 hl (k := 3) rfl (nI_inc _) (by decide) rfl (fun ls hl => ?_)
        refine lv_goto (tgt := 9) hx hb dX5_spoiled_86 (by decide) ?_
        exact ih (q + 1) (show nS T - (q + 1) < nS T - q by omega) _ _ _ ⟨(show q + 1 ≤ nS T by omega), hS, lv_sub hl [0, 1, 4] rfl⟩
    · -- F
      have hxq : x < T 12 q := by omega
      have hgn := hN.gn hq hxq
      refine lv_iload_n hx hb dX5_spoiled_33 rfl (lv_at hl 1 rfl) ?_
      refine r_ifb_ne (b := ((List.range x).any (fun x => !tru T (T 13 (4 * q + x) % 1000)))) (tgt := 59) hx hb dX5_spoiled_34 (by decide) (fun q34 => ?_) (fun q34 => ?_)
      · -- T
        refine lv_iconst (v := nI 1) hx hb dX5_spoiled_59 (by decide) ?_
        refine lv_goto (tgt := 64) hx hb dX5_spoiled_60 (by decide) ?_
        refine r_top (y := bI ((List.range (x + 1)).any (fun x => !tru T (T 13 (4 * q + x) % 1000)))) (by rw [any_s, q34]; rfl) ?_
        refine lv_istore_n (lv' := [(3, .int (bI ((List.range (x + 1)).any (fun x => !tru T (T 13 (4 * q + x) % 1000))))), (4, .int (nI x)), (2, .int (nI q)), (1, .int (nI (cntB (falsS T) q))), (0, .ref (ad 30 0))]) hx hb dX5_spoiled_64 rfl hl (by decide) rfl (fun ls hl => ?_)
        refine lv_iinc (v := nI (x + 1)) (lv' := [(4, .int (nI (x + 1))), (3, .int (bI ((List.range (x + 1)).any (fun x => !tru T (T 13 (4 * q + x) % 1000))))), (2, .int (nI q)), (1, .int (nI (cntB (falsS T) q))), (0, .ref (ad 30 0))]) hx hb dX5_spoiled_65 hl (k := 1) rfl (nI_inc _) (by decide) rfl (fun ls hl => ?_)
        refine lv_goto (tgt := 22) hx hb dX5_spoiled_68 (by decide) ?_
        exact ih2 (x + 1) (show T 12 q - (x + 1) < T 12 q - x by omega) _ _ _ ⟨(show x + 1 ≤ T 12 q by omega), hS, lv_sub hl [0, 1, 2, 3, 4] rfl⟩
      · -- F
        refine lv_aload_n hx hb dX5_spoiled_37 rfl (lv_at hl 4 rfl) ?_
        refine lv_aload_n hx hb dX5_spoiled_38 rfl (lv_at hl 4 rfl) ?_
        refine gf_X5_46 hx hb hown hK hS mC_30 rfl dX5_spoiled_39 ?_
        refine lv_iconst (v := nI 4) hx hb dX5_spoiled_42 (by decide) ?_
        refine lv_iload_n hx hb dX5_spoiled_43 rfl (lv_at hl 2 rfl) ?_
        refine lv_imul hx hb dX5_spoiled_44 ?_
        refine r_top (pk_mul _ _) ?_
        refine lv_iload hx hb dX5_spoiled_45 (lv_at hl 0 rfl) ?_
        refine lv_iadd hx hb dX5_spoiled_47 ?_
        refine r_top (nI_add _ _) ?_
        refine r_iald hx hb hK.1 hS 0 mC_43 rfl (nI_in0 (by omega) (by omega)) (v := nI (T 13 (4 * q + x))) (tA_at (by omega)) dX5_spoiled_48 ?_
        refine lv_sipush (v := nI 1000) hx hb dX5_spoiled_49 (by decide) ?_
        refine lv_irem hx hb dX5_spoiled_52 (by decide) ?_
        refine r_top (y := nI ((T 13 (4 * q + x)) % 1000)) (pk_rem (by omega) (by decide) (by decide)) ?_
        refine cl_X5_84 hx hb hml hown hK hZ hS hA (c_X5_isTrueNow hN hgn.1) mC_30 rfl hl.1 (Nat.le_of_ble_eq_true rfl) ⟨Nat.le_of_ble_eq_true rfl, Nat.le_of_ble_eq_true rfl⟩ ⟨Nat.zero_le _, Nat.zero_le _⟩ rfl dX5_spoiled_53 (r_kp (fun H locs hS => ?_))
        refine r_ifb_ne (b := (tru T (T 13 (4 * q + x) % 1000))) (tgt := 63) hx hb dX5_spoiled_56 (by decide) (fun q56 => ?_) (fun q56 => ?_)
        · -- T
          refine lv_iconst (v := nI 0) hx hb dX5_spoiled_63 (by decide) ?_
          refine r_top (y := bI ((List.range (x + 1)).any (fun x => !tru T (T 13 (4 * q + x) % 1000)))) (by rw [any_s, q34, q56]; rfl) ?_
          refine lv_istore_n (lv' := [(3, .int (bI ((List.range (x + 1)).any (fun x => !tru T (T 13 (4 * q + x) % 1000))))), (4, .int (nI x)), (2, .int (nI q)), (1, .int (nI (cntB (falsS T) q))), (0, .ref (ad 30 0))]) hx hb dX5_spoiled_64 rfl hl (by decide) rfl (fun ls hl => ?_)
          refine lv_iinc (v := nI (x + 1)) (lv' := [(4, .int (nI (x + 1))), (3, .int (bI ((List.range (x + 1)).any (fun x => !tru T (T 13 (4 * q + x) % 1000))))), (2, .int (nI q)), (1, .int (nI (cntB (falsS T) q))), (0, .ref (ad 30 0))]) hx hb dX5_spoiled_65 hl (k := 1) rfl (nI_inc _) (by decide) rfl (fun ls hl => ?_)
          refine lv_goto (tgt := 22) hx hb dX5_spoiled_68 (by decide) ?_
          exact ih2 (x + 1) (show T 12 q - (x + 1) < T 12 q - x by omega) _ _ _ ⟨(show x + 1 ≤ T 12 q by omega), hS, lv_sub hl [0, 1, 2, 3, 4] rfl⟩
        · -- F
          refine lv_iconst (v := nI 1) hx hb dX5_spoiled_59 (by decide) ?_
          refine lv_goto (tgt := 64) hx hb dX5_spoiled_60 (by decide) ?_
          refine r_top (y := bI ((List.range (x + 1)).any (fun x => !tru T (T 13 (4 * q + x) % 1000)))) (by rw [any_s, q34, q56]; rfl) ?_
          refine lv_istore_n (lv' := [(3, .int (bI ((List.range (x + 1)).any (fun x => !tru T (T 13 (4 * q + x) % 1000))))), (4, .int (nI x)), (2, .int (nI q)), (1, .int (nI (cntB (falsS T) q))), (0, .ref (ad 30 0))]) hx hb dX5_spoiled_64 rfl hl (by decide) rfl (fun ls hl => ?_)
          refine lv_iinc (v := nI (x + 1)) (lv' := [(4, .int (nI (x + 1))), (3, .int (bI ((List.range (x + 1)).any (fun x => !tru T (T 13 (4 * q + x) % 1000))))), (2, .int (nI q)), (1, .int (nI (cntB (falsS T) q))), (0, .ref (ad 30 0))]) hx hb dX5_spoiled_65 hl (k := 1) rfl (nI_inc _) (by decide) rfl (fun ls hl => ?_)
          refine lv_goto (tgt := 22) hx hb dX5_spoiled_68 (by decide) ?_
          exact ih2 (x + 1) (show T 12 q - (x + 1) < T 12 q - x by omega) _ _ _ ⟨(show x + 1 ≤ T 12 q by omega), hS, lv_sub hl [0, 1, 2, 3, 4] rfl⟩

set_option maxHeartbeats 4000000 in
set_option maxRecDepth 100000 in
theorem c_X5_coinAt {G : rG} {l : Launch} {T : rTab} {th : Int32} {rg : Nat → Int32} {C : rC} {ad : rA} (hN : mNu T) (a b : Int32) : rMet G l yX5_coinAt cX5_coinAt 7 (some .int) (rmP 6) [.ref (ad 30 0), .int a, .int b] (mC G T th rg C ad) ad (mP G (qS T (coinQ T a b)) rg C ad) := by
  refine rMet.of (by decide) ?_
  intro p e s m below meth c hx hb hml hr hlocks hown hname hK hZ hS
  have hown : s.vm.findClass RX5 = some m.cls := hown
  have hA : ∀ q : Nat, s.heap.size ≤ q → (rF (mC G T th rg C ad) ad s.heap.size) q := rF.new
  refine r_entry _ (Nat.le_of_ble_eq_true rfl) (fun ls hl => ?_)
  have hl : lv_has ls 7 [(0, .ref (ad 30 0)), (1, .int a), (2, .int b)] := hl
  have hnD := hN.hD
  have hnC := hN.hC
  have hnS := hN.hS
  refine lv_aload_n hx hb dX5_coinAt_0 rfl (lv_at hl 0 rfl) ?_
  refine lv_iload_n hx hb dX5_coinAt_1 rfl (lv_at hl 1 rfl) ?_
  refine cl_X5_99 hx hb hml hown hK hZ hS hA (c_X5_isCollector a) rfl hl.1 (Nat.le_of_ble_eq_true rfl) ⟨Nat.le_of_ble_eq_true rfl, Nat.le_of_ble_eq_true rfl⟩ ⟨Nat.zero_le _, Nat.zero_le _⟩ rfl dX5_coinAt_2 (r_kp (fun H locs hS => ?_))
  refine r_ifb_eq (b := ((ixO a 8).isSome)) (tgt := 12) hx hb dX5_coinAt_5 (by decide) (fun q5 => ?_) (fun q5 => ?_)
  · -- T
    have hix := ix_no q5
    refine lv_iconst (v := nI 1) hx hb dX5_coinAt_12 (by decide) ?_
    refine pf_X5_52 hx hb hown hK hS mC_30 rfl rfl (fs' := [.int (nI (nD T)), .ref (ad 31 0), .ref (ad 32 0), .ref (ad 33 0), .ref (ad 34 0), .int (nI (nC T)), .ref (ad 35 0), .ref (ad 36 0), .ref (ad 37 0), .ref (ad 38 0), .ref (ad 39 0), .ref (ad 40 0), .ref (ad 41 0), .int (nI (nS T)), .ref (ad 42 0), .ref (ad 43 0), .ref (ad 44 0), .int (nI 1)]) (Nat.le_of_ble_eq_true rfl) rfl dX5_coinAt_13 (fun H locs hS => ?_)
    rw [mC_pth] at hS
    refine lv_iconst (v := nI 0) hx hb dX5_coinAt_16 (by decide) ?_
    refine lv_istore_n (lv' := [(3, .int (nI 0)), (0, .ref (ad 30 0)), (1, .int a), (2, .int b)]) hx hb dX5_coinAt_17 rfl hl (by decide) rfl (fun ls hl => ?_)
    refine lv_iload_n hx hb dX5_coinAt_18 rfl (lv_at hl 0 rfl) ?_
    refine lv_aload_n hx hb dX5_coinAt_19 rfl (lv_at hl 1 rfl) ?_
    refine gf_X5_63 hx hb hown hK hS mC_30 (v := .int (nI (nC T))) rfl dX5_coinAt_20 ?_
    refine r_icmp_ge (a := 0) (b := nC T) (tgt := 149) hx hb (by omega) (by omega) dX5_coinAt_23 (by decide) (fun q23 => ?_) (fun q23 => ?_)
    · -- T
      refine lv_aload_n hx hb dX5_coinAt_149 rfl (lv_at hl 1 rfl) ?_
      refine lv_iconst (v := nI 1) hx hb dX5_coinAt_150 (by decide) ?_
      refine pf_X5_52 hx hb hown hK hS mC_30 rfl rfl (fs' := [.int (nI (nD T)), .ref (ad 31 0), .ref (ad 32 0), .ref (ad 33 0), .ref (ad 34 0), .int (nI (nC T)), .ref (ad 35 0), .ref (ad 36 0), .ref (ad 37 0), .ref (ad 38 0), .ref (ad 39 0), .ref (ad 40 0), .ref (ad 41 0), .int (nI (nS T)), .ref (ad 42 0), .ref (ad 43 0), .ref (ad 44 0), .int (nI 1)]) (Nat.le_of_ble_eq_true rfl) rfl dX5_coinAt_151 (fun H locs hS => ?_)
      rw [mC_pth] at hS
      refine lv_iconst (v := nI 0) hx hb dX5_coinAt_154 (by decide) ?_
      exact r_iret hx hb hr hlocks hS (mP.mkE (n := 0) (congrArg (qS T) (coinQ_n hix))) (Nat.zero_le _) (Nat.zero_le _) dX5_coinAt_155
    · -- F
      refine lv_aload_n hx hb dX5_coinAt_26 rfl (lv_at hl 1 rfl) ?_
      refine gf_X5_52 hx hb hown hK hS mC_30 rfl dX5_coinAt_27 ?_
      refine r_if_ne (a := 1) (tgt := 149) hx hb (by decide) dX5_coinAt_30 (by decide) (fun q30 => ?_) (fun q30 => ?_)
      · -- T
        refine lv_aload_n hx hb dX5_coinAt_149 rfl (lv_at hl 1 rfl) ?_
        refine lv_iconst (v := nI 1) hx hb dX5_coinAt_150 (by decide) ?_
        refine pf_X5_52 hx hb hown hK hS mC_30 rfl rfl (fs' := [.int (nI (nD T)), .ref (ad 31 0), .ref (ad 32 0), .ref (ad 33 0), .ref (ad 34 0), .int (nI (nC T)), .ref (ad 35 0), .ref (ad 36 0), .ref (ad 37 0), .ref (ad 38 0), .ref (ad 39 0), .ref (ad 40 0), .ref (ad 41 0), .int (nI (nS T)), .ref (ad 42 0), .ref (ad 43 0), .ref (ad 44 0), .int (nI 1)]) (Nat.le_of_ble_eq_true rfl) rfl dX5_coinAt_151 (fun H locs hS => ?_)
        rw [mC_pth] at hS
        refine lv_iconst (v := nI 0) hx hb dX5_coinAt_154 (by decide) ?_
        exact r_iret hx hb hr hlocks hS (mP.mkE (n := 0) (congrArg (qS T) (coinQ_n hix))) (Nat.zero_le _) (Nat.zero_le _) dX5_coinAt_155
      · -- F
        exact absurd q30 (by decide)
  · -- F
    obtain ⟨k, hk, hix, rfl⟩ := ix_get q5
    refine lv_iconst (v := nI 0) hx hb dX5_coinAt_8 (by decide) ?_
    refine lv_goto (tgt := 13) hx hb dX5_coinAt_9 (by decide) ?_
    refine pf_X5_52 hx hb hown hK hS mC_30 rfl rfl (fs' := [.int (nI (nD T)), .ref (ad 31 0), .ref (ad 32 0), .ref (ad 33 0), .ref (ad 34 0), .int (nI (nC T)), .ref (ad 35 0), .ref (ad 36 0), .ref (ad 37 0), .ref (ad 38 0), .ref (ad 39 0), .ref (ad 40 0), .ref (ad 41 0), .int (nI (nS T)), .ref (ad 42 0), .ref (ad 43 0), .ref (ad 44 0), .int (nI 0)]) (Nat.le_of_ble_eq_true rfl) rfl dX5_coinAt_13 (fun H locs hS => ?_)
    rw [mC_pth] at hS
    refine lv_iconst (v := nI 0) hx hb dX5_coinAt_16 (by decide) ?_
    refine lv_istore_n (lv' := [(3, .int (nI 0)), (0, .ref (ad 30 0)), (1, .int (nI k)), (2, .int b)]) hx hb dX5_coinAt_17 rfl hl (by decide) rfl (fun ls hl => ?_)
    refine r_loop (σ := Nat) (fun i => nC T - i) (fun i H locs ls => (i ≤ nC T) ∧ (∀ j, j < i → T 8 j = k + 1 → ¬ nI (aheadN T k j) = b) ∧ rS G.1 (rF (mC G T th rg C ad) ad s.heap.size) s.heap (mC G T (nI 0) rg C ad) ad H locs ∧ lv_has ls 7 [(3, .int (nI i)), (0, .ref (ad 30 0)), (1, .int (nI k)), (2, .int b)]) (fun _ => 0) (fun _ => 0) (fun z ih H locs ls hI => ?_) 0 (Nat.zero_le _) (Nat.zero_le _) ⟨Nat.zero_le _, (fun j hj => absurd hj (Nat.not_lt_zero _)), hS, lv_sub hl [0, 1, 2, 3] rfl⟩
    obtain ⟨i, rfl⟩ : ∃ y, y = z := ⟨_, rfl⟩
    obtain ⟨hil, hz, hS, hl⟩ := hI
    try dsimp only at hil hz hS hl ih ⊢
    refine lv_iload_n hx hb dX5_coinAt_18 rfl (lv_at hl 0 rfl) ?_
    refine lv_aload_n hx hb dX5_coinAt_19 rfl (lv_at hl 1 rfl) ?_
    refine gf_X5_63 hx hb hown hK hS mC_30 (v := .int (nI (nC T))) rfl dX5_coinAt_20 ?_
    refine r_icmp_ge (a := i) (b := nC T) (tgt := 149) hx hb (by omega) (by omega) dX5_coinAt_23 (by decide) (fun q23 => ?_) (fun q23 => ?_)
    · -- T
      have hno : coinQ T (nI k) b = (1, 0) := (coinQ_s hix).trans (atQ_n (fun j hj => hz j (by omega)))
      refine lv_aload_n hx hb dX5_coinAt_149 rfl (lv_at hl 1 rfl) ?_
      refine lv_iconst (v := nI 1) hx hb dX5_coinAt_150 (by decide) ?_
      refine pf_X5_52 hx hb hown hK hS mC_30 rfl rfl (fs' := [.int (nI (nD T)), .ref (ad 31 0), .ref (ad 32 0), .ref (ad 33 0), .ref (ad 34 0), .int (nI (nC T)), .ref (ad 35 0), .ref (ad 36 0), .ref (ad 37 0), .ref (ad 38 0), .ref (ad 39 0), .ref (ad 40 0), .ref (ad 41 0), .int (nI (nS T)), .ref (ad 42 0), .ref (ad 43 0), .ref (ad 44 0), .int (nI 1)]) (Nat.le_of_ble_eq_true rfl) rfl dX5_coinAt_151 (fun H locs hS => ?_)
      rw [mC_pth] at hS
      refine lv_iconst (v := nI 0) hx hb dX5_coinAt_154 (by decide) ?_
      exact r_iret hx hb hr hlocks hS (mP.mkE (n := 0) (congrArg (qS T) hno)) (Nat.zero_le _) (Nat.zero_le _) dX5_coinAt_155
    · -- F
      have hi : i < nC T := by omega
      have hcn := hN.cn hi
      refine lv_aload_n hx hb dX5_coinAt_26 rfl (lv_at hl 1 rfl) ?_
      refine gf_X5_52 hx hb hown hK hS mC_30 rfl dX5_coinAt_27 ?_
      refine r_if_ne (a := 0) (tgt := 149) hx hb (by decide) dX5_coinAt_30 (by decide) (fun q30 => ?_) (fun q30 => ?_)
      · -- T
        exact absurd q30 (by decide)
      · -- F
        by_cases h8 : T 8 i = k + 1
        · -- own
          refine lv_iconst (v := nI 0) hx hb dX5_coinAt_33 (by decide) ?_
          refine lv_istore (lv' := [(4, .int (nI 0)), (3, .int (nI i)), (0, .ref (ad 30 0)), (1, .int (nI k)), (2, .int b)]) hx hb dX5_coinAt_34 hl (by decide) rfl (fun ls hl => ?_)
          refine lv_iconst (v := nI 0) hx hb dX5_coinAt_36 (by decide) ?_
          refine lv_istore (lv' := [(5, .int (nI 0)), (4, .int (nI 0)), (3, .int (nI i)), (0, .ref (ad 30 0)), (1, .int (nI k)), (2, .int b)]) hx hb dX5_coinAt_37 hl (by decide) rfl (fun ls hl => ?_)
          refine r_loop (σ := Nat) (fun o => nC T - o) (fun o H locs ls => (o ≤ nC T) ∧ rS G.1 (rF (mC G T th rg C ad) ad s.heap.size) s.heap (mC G T (nI 0) rg C ad) ad H locs ∧ lv_has ls 7 [(5, .int (nI o)), (4, .int (nI (cntB (aheadOf T k i) o))), (3, .int (nI i)), (0, .ref (ad 30 0)), (1, .int (nI k)), (2, .int b)]) (fun _ => 0) (fun _ => 0) (fun z ih2 H locs ls hI => ?_) 0 (Nat.zero_le _) (Nat.zero_le _) ⟨Nat.zero_le _, hS, lv_sub hl [0, 1, 2, 3, 4, 5] rfl⟩
          obtain ⟨o, rfl⟩ : ∃ y, y = z := ⟨_, rfl⟩
          obtain ⟨hol, hS, hl⟩ := hI
          try dsimp only at hol hS hl ih2 ⊢
          refine lv_iload hx hb dX5_coinAt_39 (lv_at hl 0 rfl) ?_
          refine lv_aload_n hx hb dX5_coinAt_41 rfl (lv_at hl 3 rfl) ?_
          refine gf_X5_63 hx hb hown hK hS mC_30 (v := .int (nI (nC T))) rfl dX5_coinAt_42 ?_
          refine r_icmp_ge (a := o) (b := nC T) (tgt := 123) hx hb (by omega) (by omega) dX5_coinAt_45 (by decide) (fun q45 => ?_) (fun q45 => ?_)
          · -- T
            obtain rfl : o = nC T := by omega
            refine lv_aload_n hx hb dX5_coinAt_123 rfl (lv_at hl 3 rfl) ?_
            refine gf_X5_31 hx hb hown hK hS mC_30 rfl dX5_coinAt_124 ?_
            refine lv_iload_n hx hb dX5_coinAt_127 rfl (lv_at hl 2 rfl) ?_
            refine r_iald hx hb hK.1 hS 0 mC_38 rfl (nI_in0 (by omega) (by omega)) (v := nI (T 8 i)) (tA_at (by omega)) dX5_coinAt_128 ?_
            refine lv_iload_n hx hb dX5_coinAt_129 rfl (lv_at hl 4 rfl) ?_
            refine lv_iconst (v := nI 1) hx hb dX5_coinAt_130 (by decide) ?_
            refine lv_iadd hx hb dX5_coinAt_131 ?_
            refine r_top (nI_add _ _) ?_
            refine r_icmp_ne (a := T 8 i) (b := k + 1) (tgt := 143) hx hb (by omega) (by omega) dX5_coinAt_132 (by decide) (fun q132 => ?_) (fun q132 => ?_)
            · -- T
              exact absurd h8 q132
            · -- F
              refine lv_iload hx hb dX5_coinAt_135 (lv_at hl 1 rfl) ?_
              refine lv_iload_n hx hb dX5_coinAt_137 rfl (lv_at hl 5 rfl) ?_
              refine lv_icmp_ne (tgt := 143) hx hb dX5_coinAt_138 (by decide) (fun q138 => ?_) (fun q138 => ?_)
              · -- T
                refine lv_iinc (v := nI (i + 1)) (lv' := [(3, .int (nI (i + 1))), (5, .int (nI (nC T))), (4, .int (nI (aheadN T k i))), (0, .ref (ad 30 0)), (1, .int (nI k)), (2, .int b)]) hx hb dX5_coinAt_143 hl (k := 2) rfl (nI_inc _) (by decide) rfl (fun ls hl => ?_)
                refine lv_goto (tgt := 18) hx hb dX5_coinAt_146 (by decide) ?_
                exact ih (i + 1) (show nC T - (i + 1) < nC T - i by omega) _ _ _ ⟨(show i + 1 ≤ nC T by omega), (lt_ext hz (fun _ => q138)), hS, lv_sub hl [0, 3, 4, 5] rfl⟩
              · -- F
                refine lv_iload_n hx hb dX5_coinAt_141 rfl (lv_at hl 2 rfl) ?_
                exact r_iret hx hb hr hlocks hS (mP.mk0 (congrArg (qS T) ((coinQ_s hix).trans (atQ_s hnC hi h8 q138))) rfl mEq.rf) (Nat.zero_le _) (Nat.zero_le _) dX5_coinAt_142
          · -- F
            have ho : o < nC T := by omega
            have hon := hN.cn ho
            refine lv_aload_n hx hb dX5_coinAt_48 rfl (lv_at hl 3 rfl) ?_
            refine gf_X5_31 hx hb hown hK hS mC_30 rfl dX5_coinAt_49 ?_
            refine lv_iload_n hx hb dX5_coinAt_52 rfl (lv_at hl 2 rfl) ?_
            refine r_iald hx hb hK.1 hS 0 mC_38 rfl (nI_in0 (by omega) (by omega)) (v := nI (T 8 i)) (tA_at (by omega)) dX5_coinAt_53 ?_
            refine lv_iload_n hx hb dX5_coinAt_54 rfl (lv_at hl 4 rfl) ?_
            refine lv_iconst (v := nI 1) hx hb dX5_coinAt_55 (by decide) ?_
            refine lv_iadd hx hb dX5_coinAt_56 ?_
            refine r_top (nI_add _ _) ?_
            refine r_icmp_ne (a := T 8 i) (b := k + 1) (tgt := 123) hx hb (by omega) (by omega) dX5_coinAt_57 (by decide) (fun q57 => ?_) (fun q57 => ?_)
            · -- T
              exact absurd h8 q57
            · -- F
              refine lv_aload_n hx hb dX5_coinAt_60 rfl (lv_at hl 3 rfl) ?_
              refine gf_X5_31 hx hb hown hK hS mC_30 rfl dX5_coinAt_61 ?_
              refine lv_iload hx hb dX5_coinAt_64 (lv_at hl 0 rfl) ?_
              refine r_iald hx hb hK.1 hS 0 mC_38 rfl (nI_in0 (by omega) (by omega)) (v := nI (T 8 o)) (tA_at (by omega)) dX5_coinAt_66 ?_
              refine lv_iload_n hx hb dX5_coinAt_67 rfl (lv_at hl 4 rfl) ?_
              refine lv_iconst (v := nI 1) hx hb dX5_coinAt_68 (by decide) ?_
              refine lv_iadd hx hb dX5_coinAt_69 ?_
              refine r_top (nI_add _ _) ?_
              refine r_icmp_ne (a := T 8 o) (b := k + 1) (tgt := 88) hx hb (by omega) (by omega) dX5_coinAt_70 (by decide) (fun q70 => ?_) (fun q70 => ?_)
              · -- T
                refine lv_iconst (v := (-1)) hx hb dX5_coinAt_88 (by decide) ?_
                refine lv_istore (lv' := [(6, .int (-1)), (5, .int (nI o)), (4, .int (nI (cntB (aheadOf T k i) o))), (3, .int (nI i)), (0, .ref (ad 30 0)), (1, .int (nI k)), (2, .int b)]) hx hb dX5_coinAt_89 hl (by decide) rfl (fun ls hl => ?_)
                refine lv_iload hx hb dX5_coinAt_91 (lv_at hl 2 rfl) ?_
                refine lv_iload hx hb dX5_coinAt_93 (lv_at hl 0 rfl) ?_
                refine lv_if_gt (tgt := 109) hx hb dX5_coinAt_95 (by decide) (fun q95 => ?_) (fun q95 => ?_)
                · -- T
                  exact absurd q95 (by decide)
                · -- F
                  refine lv_iload hx hb dX5_coinAt_98 (lv_at hl 0 rfl) ?_
                  refine lv_if_ne (tgt := 113) hx hb dX5_coinAt_100 (by decide) (fun q100 => ?_) (fun q100 => ?_)
                  · -- T
                    refine lv_iconst (v := nI 0) hx hb dX5_coinAt_113 (by decide) ?_
                    refine lv_iadd hx hb dX5_coinAt_114 ?_
                    refine r_top (y := nI (cntB (aheadOf T k i) (o + 1))) ((nI_add _ _).trans (by rw [cntB_f (ah_a q70), Nat.add_zero])) ?_
                    refine lv_istore (lv' := [(4, .int (nI (cntB (aheadOf T k i) (o + 1)))), (6, .int (-1)), (5, .int (nI o)), (3, .int (nI i)), (0, .ref (ad 30 0)), (1, .int (nI k)), (2, .int b)]) hx hb dX5_coinAt_115 hl (by decide) rfl (fun ls hl => ?_)
                    refine lv_iinc (v := nI (o + 1)) (lv' := [(5, .int (nI (o + 1))), (4, .int (nI (cntB (aheadOf T k i) (o + 1)))), (6, .int (-1)), (3, .int (nI i)), (0, .ref (ad 30 0)), (1, .int (nI k)), (2, .int b)]) hx hb dX5_coinAt_117 hl (k := 2) rfl (nI_inc _) (by decide) rfl (fun ls hl => ?_)
                    refine lv_goto (tgt := 39) hx hb dX5_coinAt_120 (by decide) ?_
                    exact ih2 (o + 1) (show nC T - (o + 1) < nC T - o by omega) _ _ _ ⟨(show o + 1 ≤ nC T by omega), hS, lv_sub hl [0, 1, 3, 4, 5, 6] rfl⟩
                  · -- F
                    exact absurd q100 (by decide)
              · -- F
                refine lv_aload_n hx hb dX5_coinAt_73 rfl (lv_at hl 3 rfl) ?_
                refine lv_iload hx hb dX5_coinAt_74 (lv_at hl 0 rfl) ?_
                have hp1 := priceN_le T o
                have hp2 := priceN_le T i
                refine cl_X5_96 hx hb hml hown hK hZ hS hA (c_X5_priceOf hN ho) mC_30 rfl hl.1 (Nat.le_of_ble_eq_true rfl) ⟨Nat.le_of_ble_eq_true rfl, Nat.le_of_ble_eq_true rfl⟩ ⟨Nat.zero_le _, Nat.zero_le _⟩ rfl dX5_coinAt_76 (r_kp (fun H locs hS => ?_))
                refine lv_aload_n hx hb dX5_coinAt_79 rfl (lv_at hl 3 rfl) ?_
                refine lv_iload_n hx hb dX5_coinAt_80 rfl (lv_at hl 2 rfl) ?_
                refine cl_X5_96 hx hb hml hown hK hZ hS hA (c_X5_priceOf hN hi) mC_30 rfl hl.1 (Nat.le_of_ble_eq_true rfl) ⟨Nat.le_of_ble_eq_true rfl, Nat.le_of_ble_eq_true rfl⟩ ⟨Nat.zero_le _, Nat.zero_le _⟩ rfl dX5_coinAt_81 (r_kp (fun H locs hS => ?_))
                refine lv_isub hx hb dX5_coinAt_84 ?_
                refine lv_goto (tgt := 89) hx hb dX5_coinAt_85 (by decide) ?_
                refine lv_istore (lv' := [(6, .int ((nI (priceN T o)) - (nI (priceN T i)))), (5, .int (nI o)), (4, .int (nI (cntB (aheadOf T k i) o))), (3, .int (nI i)), (0, .ref (ad 30 0)), (1, .int (nI k)), (2, .int b)]) hx hb dX5_coinAt_89 hl (by decide) rfl (fun ls hl => ?_)
                refine lv_iload hx hb dX5_coinAt_91 (lv_at hl 2 rfl) ?_
                refine lv_iload hx hb dX5_coinAt_93 (lv_at hl 0 rfl) ?_
                refine lv_if_gt (tgt := 109) hx hb dX5_coinAt_95 (by decide) (fun q95 => ?_) (fun q95 => ?_)
                · -- T
                  refine lv_iconst (v := nI 1) hx hb dX5_coinAt_109 (by decide) ?_
                  refine lv_goto (tgt := 114) hx hb dX5_coinAt_110 (by decide) ?_
                  refine lv_iadd hx hb dX5_coinAt_114 ?_
                  refine r_top (y := nI (cntB (aheadOf T k i) (o + 1))) ((nI_add _ _).trans (by rw [cntB_t (ah_b q70 ((sub_gt (by omega) (by omega)).mp q95))])) ?_
                  refine lv_istore (lv' := [(4, .int (nI (cntB (aheadOf T k i) (o + 1)))), (6, .int ((nI (priceN T o)) - (nI (priceN T i)))), (5, .int (nI o)), (3, .int (nI i)), (0, .ref (ad 30 0)), (1, .int (nI k)), (2, .int b)]) hx hb dX5_coinAt_115 hl (by decide) rfl (fun ls hl => ?_)
                  refine lv_iinc (v := nI (o + 1)) (lv' := [(5, .int (nI (o + 1))), (4, .int (nI (cntB (aheadOf T k i) (o + 1)))), (6, .int ((nI (priceN T o)) - (nI (priceN T i)))), (3, .int (nI i)), (0, .ref (ad 30 0)), (1, .int (nI k)), (2, .int b)]) hx hb dX5_coinAt_117 hl (k := 2) rfl (nI_inc _) (by decide) rfl (fun ls hl => ?_)
                  refine lv_goto (tgt := 39) hx hb dX5_coinAt_120 (by decide) ?_
                  exact ih2 (o + 1) (show nC T - (o + 1) < nC T - o by omega) _ _ _ ⟨(show o + 1 ≤ nC T by omega), hS, lv_sub hl [0, 1, 3, 4, 5, 6] rfl⟩
                · -- F
                  refine lv_iload hx hb dX5_coinAt_98 (lv_at hl 0 rfl) ?_
                  refine lv_if_ne (tgt := 113) hx hb dX5_coinAt_100 (by decide) (fun q100 => ?_) (fun q100 => ?_)
                  · -- T
                    refine lv_iconst (v := nI 0) hx hb dX5_coinAt_113 (by decide) ?_
                    refine lv_iadd hx hb dX5_coinAt_114 ?_
                    refine r_top (y := nI (cntB (aheadOf T k i) (o + 1))) ((nI_add _ _).trans (by rw [cntB_f (ah_e (fun z => q95 ((sub_gt (by omega) (by omega)).mpr z)) (fun z => q100 ((sub_z (by omega) (by omega)).mpr z))), Nat.add_zero])) ?_
                    refine lv_istore (lv' := [(4, .int (nI (cntB (aheadOf T k i) (o + 1)))), (6, .int ((nI (priceN T o)) - (nI (priceN T i)))), (5, .int (nI o)), (3, .int (nI i)), (0, .ref (ad 30 0)), (1, .int (nI k)), (2, .int b)]) hx hb dX5_coinAt_115 hl (by decide) rfl (fun ls hl => ?_)
                    refine lv_iinc (v := nI (o + 1)) (lv' := [(5, .int (nI (o + 1))), (4, .int (nI (cntB (aheadOf T k i) (o + 1)))), (6, .int ((nI (priceN T o)) - (nI (priceN T i)))), (3, .int (nI i)), (0, .ref (ad 30 0)), (1, .int (nI k)), (2, .int b)]) hx hb dX5_coinAt_117 hl (k := 2) rfl (nI_inc _) (by decide) rfl (fun ls hl => ?_)
                    refine lv_goto (tgt := 39) hx hb dX5_coinAt_120 (by decide) ?_
                    exact ih2 (o + 1) (show nC T - (o + 1) < nC T - o by omega) _ _ _ ⟨(show o + 1 ≤ nC T by omega), hS, lv_sub hl [0, 1, 3, 4, 5, 6] rfl⟩
                  · -- F
                    refine lv_iload hx hb dX5_coinAt_103 (lv_at hl 1 rfl) ?_
                    refine lv_iload_n hx hb dX5_coinAt_105 rfl (lv_at hl 3 rfl) ?_
                    refine r_icmp_ge (a := o) (b := i) (tgt := 113) hx hb (by omega) (by omega) dX5_coinAt_106 (by decide) (fun q106 => ?_) (fun q106 => ?_)
                    · -- T
                      refine lv_iconst (v := nI 0) hx hb dX5_coinAt_113 (by decide) ?_
                      refine lv_iadd hx hb dX5_coinAt_114 ?_
                      refine r_top (y := nI (cntB (aheadOf T k i) (o + 1))) ((nI_add _ _).trans (by rw [cntB_f (ah_d ((sub_z (by omega) (by omega)).mp q100) (by omega)), Nat.add_zero])) ?_
                      refine lv_istore (lv' := [(4, .int (nI (cntB (aheadOf T k i) (o + 1)))), (6, .int ((nI (priceN T o)) - (nI (priceN T i)))), (5, .int (nI o)), (3, .int (nI i)), (0, .ref (ad 30 0)), (1, .int (nI k)), (2, .int b)]) hx hb dX5_coinAt_115 hl (by decide) rfl (fun ls hl => ?_)
                      refine lv_iinc (v := nI (o + 1)) (lv' := [(5, .int (nI (o + 1))), (4, .int (nI (cntB (aheadOf T k i) (o + 1)))), (6, .int ((nI (priceN T o)) - (nI (priceN T i)))), (3, .int (nI i)), (0, .ref (ad 30 0)), (1, .int (nI k)), (2, .int b)]) hx hb dX5_coinAt_117 hl (k := 2) rfl (nI_inc _) (by decide) rfl (fun ls hl => ?_)
                      refine lv_goto (tgt := 39) hx hb dX5_coinAt_120 (by decide) ?_
                      exact ih2 (o + 1) (show nC T - (o + 1) < nC T - o by omega) _ _ _ ⟨(show o + 1 ≤ nC T by omega), hS, lv_sub hl [0, 1, 3, 4, 5, 6] rfl⟩
                    · -- F
                      refine lv_iconst (v := nI 1) hx hb dX5_coinAt_109 (by decide) ?_
                      refine lv_goto (tgt := 114) hx hb dX5_coinAt_110 (by decide) ?_
                      refine lv_iadd hx hb dX5_coinAt_114 ?_
                      refine r_top (y := nI (cntB (aheadOf T k i) (o + 1))) ((nI_add _ _).trans (by rw [cntB_t (ah_c q70 ((sub_z (by omega) (by omega)).mp q100) (by omega))])) ?_
                      refine lv_istore (lv' := [(4, .int (nI (cntB (aheadOf T k i) (o + 1)))), (6, .int ((nI (priceN T o)) - (nI (priceN T i)))), (5, .int (nI o)), (3, .int (nI i)), (0, .ref (ad 30 0)), (1, .int (nI k)), (2, .int b)]) hx hb dX5_coinAt_115 hl (by decide) rfl (fun ls hl => ?_)
                      refine lv_iinc (v := nI (o + 1)) (lv' := [(5, .int (nI (o + 1))), (4, .int (nI (cntB (aheadOf T k i) (o + 1)))), (6, .int ((nI (priceN T o)) - (nI (priceN T i)))), (3, .int (nI i)), (0, .ref (ad 30 0)), (1, .int (nI k)), (2, .int b)]) hx hb dX5_coinAt_117 hl (k := 2) rfl (nI_inc _) (by decide) rfl (fun ls hl => ?_)
                      refine lv_goto (tgt := 39) hx hb dX5_coinAt_120 (by decide) ?_
                      exact ih2 (o + 1) (show nC T - (o + 1) < nC T - o by omega) _ _ _ ⟨(show o + 1 ≤ nC T by omega), hS, lv_sub hl [0, 1, 3, 4, 5, 6] rfl⟩
        · -- not
          refine lv_iconst (v := nI 0) hx hb dX5_coinAt_33 (by decide) ?_
          refine lv_istore (lv' := [(4, .int (nI 0)), (3, .int (nI i)), (0, .ref (ad 30 0)), (1, .int (nI k)), (2, .int b)]) hx hb dX5_coinAt_34 hl (by decide) rfl (fun ls hl => ?_)
          refine lv_iconst (v := nI 0) hx hb dX5_coinAt_36 (by decide) ?_
          refine lv_istore (lv' := [(5, .int (nI 0)), (4, .int (nI 0)), (3, .int (nI i)), (0, .ref (ad 30 0)), (1, .int (nI k)), (2, .int b)]) hx hb dX5_coinAt_37 hl (by decide) rfl (fun ls hl => ?_)
          refine lv_iload hx hb dX5_coinAt_39 (lv_at hl 0 rfl) ?_
          refine lv_aload_n hx hb dX5_coinAt_41 rfl (lv_at hl 3 rfl) ?_
          refine gf_X5_63 hx hb hown hK hS mC_30 (v := .int (nI (nC T))) rfl dX5_coinAt_42 ?_
          refine r_icmp_ge (a := 0) (b := nC T) (tgt := 123) hx hb (by omega) (by omega) dX5_coinAt_45 (by decide) (fun q45 => ?_) (fun q45 => ?_)
          · -- T
            exact absurd q45 (by omega)
          · -- F
            refine lv_aload_n hx hb dX5_coinAt_48 rfl (lv_at hl 3 rfl) ?_
            refine gf_X5_31 hx hb hown hK hS mC_30 rfl dX5_coinAt_49 ?_
            refine lv_iload_n hx hb dX5_coinAt_52 rfl (lv_at hl 2 rfl) ?_
            refine r_iald hx hb hK.1 hS 0 mC_38 rfl (nI_in0 (by omega) (by omega)) (v := nI (T 8 i)) (tA_at (by omega)) dX5_coinAt_53 ?_
            refine lv_iload_n hx hb dX5_coinAt_54 rfl (lv_at hl 4 rfl) ?_
            refine lv_iconst (v := nI 1) hx hb dX5_coinAt_55 (by decide) ?_
            refine lv_iadd hx hb dX5_coinAt_56 ?_
            refine r_top (nI_add _ _) ?_
            refine r_icmp_ne (a := T 8 i) (b := k + 1) (tgt := 123) hx hb (by omega) (by omega) dX5_coinAt_57 (by decide) (fun q57 => ?_) (fun q57 => ?_)
            · -- T
              refine lv_aload_n hx hb dX5_coinAt_123 rfl (lv_at hl 3 rfl) ?_
              refine gf_X5_31 hx hb hown hK hS mC_30 rfl dX5_coinAt_124 ?_
              refine lv_iload_n hx hb dX5_coinAt_127 rfl (lv_at hl 2 rfl) ?_
              refine r_iald hx hb hK.1 hS 0 mC_38 rfl (nI_in0 (by omega) (by omega)) (v := nI (T 8 i)) (tA_at (by omega)) dX5_coinAt_128 ?_
              refine lv_iload_n hx hb dX5_coinAt_129 rfl (lv_at hl 4 rfl) ?_
              refine lv_iconst (v := nI 1) hx hb dX5_coinAt_130 (by decide) ?_
              refine lv_iadd hx hb dX5_coinAt_131 ?_
              refine r_top (nI_add _ _) ?_
              refine r_icmp_ne (a := T 8 i) (b := k + 1) (tgt := 143) hx hb (by omega) (by omega) dX5_coinAt_132 (by decide) (fun q132 => ?_) (fun q132 => ?_)
              · -- T
                refine lv_iinc (v := nI (i + 1)) (lv' := [(3, .int (nI (i + 1))), (5, .int (nI 0)), (4, .int (nI 0)), (0, .ref (ad 30 0)), (1, .int (nI k)), (2, .int b)]) hx hb dX5_coinAt_143 hl (k := 2) rfl (nI_inc _) (by decide) rfl (fun ls hl => ?_)
                refine lv_goto (tgt := 18) hx hb dX5_coinAt_146 (by decide) ?_
                exact ih (i + 1) (show nC T - (i + 1) < nC T - i by omega) _ _ _ ⟨(show i + 1 ≤ nC T by omega), (lt_ext hz (fun z => absurd z h8)), hS, lv_sub hl [0, 3, 4, 5] rfl⟩
              · -- F
                exact absurd q132 h8
            · -- F
              exact absurd q57 h8

