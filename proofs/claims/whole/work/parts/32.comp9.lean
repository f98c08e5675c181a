/-! give, melt (printed by wip/whole/gen/comp9.py) -/
section ME
variable {G : rG} {T T' : rTab} {L : rL} {C C' : rC} {ad ad' : rA}
theorem up_tc (hI : cInvW G T L C ad) {d v : Nat} (hd : d < nD T) : cInvW G (ru T 20 d v) L (ru C 1 d (some (diO (ru T 20 d v) ad d))) ad := by
  have hk : ∀ a, a ≠ 20 → ru T 20 d v a = T a := fun a h => ruK h
  exact hI.up (hk 0 (by decide)) (hk 5 (by decide)) (hk 8 (by decide)) (hk 12 (by decide)) (hk 13 (by decide)) (ru_ge (by decide)) (hI.1.die1 (hk 0 (by decide)) hd rfl (fun i hi => diO_eq (congrFun (hk 1 (by decide)) i) (congrFun (hk 2 (by decide)) i) (congrFun (hk 4 (by decide)) i) (wS hi 20)) (fun j => rfl) (fun k => rfl)) hI.2.2.1
theorem up_melt (hI : cInvW G T L C ad) {j : Nat} (hj : j < nC T) (h8 : T 8 j = 0) : cInvW G (ru T 7 j 1) L (ru C 4 j (some (coO (ru T 7 j 1) ad j))) ad := by
  have hk : ∀ a, a ≠ 7 → ru T 7 j 1 a = T a := fun a h => ruK h
  refine hI.up (hk 0 (by decide)) (hk 5 (by decide)) (hk 8 (by decide)) (hk 12 (by decide)) (hk 13 (by decide)) (ru_ge (by decide)) (hI.1.coin1 (hk 0 (by decide)) hj rfl (fun j => rfl) (fun i hi => coO_eq (congrFun (hk 5 (by decide)) i) (congrFun (hk 6 (by decide)) i) (wS hi 7) (congrFun (hk 8 (by decide)) i) (congrFun (hk 21 (by decide)) i)) (fun k => rfl)) ?_
  refine cNu.mk _ hI.hD hI.hC hI.hS (fun i hi => hI.dn hi) (fun i hi => ?_) (fun i hi => hI.kn hi)
  have hc := hI.cn hi
  by_cases e : i = j
  · subst e
    exact ⟨hc.1, hc.2.1, by rw [ru_e]; decide, hc.2.2.2.1, hc.2.2.2.2.1, fun _ => h8, hc.2.2.2.2.2.2⟩
  · rw [show ru T 7 j 1 7 i = T 7 i from ru_i e]
    exact hc
theorem melt_t {j a b : Nat} (ht : tru T j = true) (h9 : a ≠ 9) : meltT T j a b = ru (ru (ru T 20 (T 5 j) (T 20 (T 5 j) - 1)) 8 j 0) 7 j 1 a b := by
  unfold meltT
  rw [if_pos ht]
  by_cases h20 : a = 20
  · subst h20
    rw [ru_k (k := 7) (by decide), ru_k (k := 8) (by decide)]
    unfold ru
    by_cases hb : b = T 5 j
    · rw [if_pos ⟨rfl, hb⟩, if_pos ⟨rfl, hb⟩]
    · rw [if_neg (fun z => hb z.2), if_neg (fun z => absurd z.1 (by decide)), if_neg (fun z => absurd z.1 (by decide)), if_neg (fun z => absurd z.1 (by decide)), if_neg (fun z => hb z.2)]
  · rw [ru_k (k := 20) h20, ru_k (k := 9) h9, ru_cm (k := 7) (a := 8) (fun z => absurd z.1 (by decide))]
    unfold ru
    by_cases h7 : a = 7 ∧ b = j
    · rw [if_pos h7, if_pos h7]
    · rw [if_neg h7, if_neg h7]
      by_cases h8 : a = 8 ∧ b = j
      · rw [if_pos h8, if_pos h8]
      · rw [if_neg h8, if_neg h8, if_neg (fun z => h20 z.1)]
theorem melt_f {j a b : Nat} (ht : tru T j = false) (h9 : a ≠ 9) : meltT T j a b = ru (ru T 8 j 0) 7 j 1 a b := by
  unfold meltT
  rw [if_neg (by rw [ht]; exact Bool.false_ne_true)]
  by_cases h20 : a = 20
  · subst h20
    rw [ru_k (k := 7) (by decide), ru_k (k := 8) (by decide)]
    unfold ru
    by_cases hb : b = T 5 j
    · rw [if_pos ⟨rfl, hb⟩, hb]
    · rw [if_neg (fun z => hb z.2), if_neg (fun z => absurd z.1 (by decide)), if_neg (fun z => absurd z.1 (by decide)), if_neg (fun z => absurd z.1 (by decide))]
  · rw [ru_k (k := 20) h20, ru_k (k := 9) h9, ru_cm (k := 7) (a := 8) (fun z => absurd z.1 (by decide))]
theorem meltT_k {j a : Nat} (h7 : a ≠ 7) (h8 : a ≠ 8) (h9 : a ≠ 9) (h20 : a ≠ 20) : meltT T j a = T a := (ruK h20).trans ((ruK h9).trans ((ruK h8).trans (ruK h7)))
theorem melt_rr (h : cInv G T L C ad) {j : Nat} (hj : j < nC T) (h7 : T 7 j = 0) : cRr (meltT T j) := by
  intro i hi
  have hi : i < nD T := by
    have := congrFun (meltT_k (T := T) (j := j) (a := 0) (by decide) (by decide) (by decide) (by decide)) 0
    rw [show nD (meltT T j) = nD T from this] at hi
    exact hi
  have k5 := meltT_k (T := T) (j := j) (a := 5) (by decide) (by decide) (by decide) (by decide)
  have k4 := meltT_k (T := T) (j := j) (a := 4) (by decide) (by decide) (by decide) (by decide)
  have kC : nC (meltT T j) = nC T := congrFun (meltT_k (T := T) (j := j) (a := 0) (by decide) (by decide) (by decide) (by decide)) 1
  have tj : tru (meltT T j) j = false := tru_a (by rw [show meltT T j 7 j = 1 from (ru_k (by decide)).trans ((ru_k (by decide)).trans ((ru_k (by decide)).trans ru_e))]; decide)
  have to : ∀ o, o ≠ j → tru (meltT T j) o = tru T o := fun o ho => tru_congr ((ru_k (by decide)).trans ((ru_k (by decide)).trans ((ru_k (by decide)).trans (ru_i ho)))) (congrFun k5 o) (congrFun k4 _)
  have ro : ∀ o, o ≠ j → rarAt (meltT T j) i o = rarAt T i o := fun o ho => by
    unfold rarAt
    rw [to o ho, k5]
  have rj : rarAt (meltT T j) i j = false := by
    unfold rarAt
    rw [tj]
    exact Bool.and_false _
  unfold rar
  rw [kC]
  by_cases e : i = T 5 j
  · subst e
    rw [show meltT T j 20 (T 5 j) = (if tru T j = true then T 20 (T 5 j) - 1 else T 20 (T 5 j)) from ru_e, h.2 _ hi]
    cases ht : tru T j with
    | true =>
      rw [if_pos rfl]
      exact (cntB_pt hj (by unfold rarAt; rw [ht, decide_eq_true rfl]; rfl) rj ro).symm
    | false =>
      rw [if_neg Bool.false_ne_true]
      refine (cntB_congr fun o _ => ?_).symm
      by_cases eo : o = j
      · rw [eo, rj]
        unfold rarAt
        rw [ht, Bool.and_false]
      · exact ro o eo
  · rw [show meltT T j 20 i = T 20 i from (ru_i e).trans ((ru_k (by decide)).trans ((ru_k (by decide)).trans (ru_k (by decide)))), h.2 i hi]
    refine (cntB_congr fun o _ => ?_).symm
    by_cases eo : o = j
    · rw [eo, rj]
      unfold rarAt
      rw [decide_eq_false (fun z => e z.symm)]
      rfl
    · exact ro o eo
end ME

set_option maxHeartbeats 4000000 in
set_option maxRecDepth 100000 in
theorem c_X4_give {G : rG} {l : Launch} {T : rTab} {L : rL} {C : rC} {ad : rA} (hlt : l.stackTraces = false) (hI : cInv G T L C ad) (a b : Int32) : rMetX G l yX4_give cX4_give 5 (some .int) (rmM 11 4 44) [.ref (ad 0 0), .int a, .int b] C ad (pM G C ad (sGive T a b)) (xM G C ad (sGive T a b) ec2) := by
  refine rMetX.of (by decide) ?_
  intro p e s m below meth c hx hb hml hr hlocks hown hname hK hZ hS hex
  have hown : s.vm.findClass RX4 = some m.cls := hown
  have hA : ∀ q : Nat, s.heap.size ≤ q → (rF C ad s.heap.size) q := rF.new
  refine r_entry _ (Nat.le_of_ble_eq_true rfl) (fun ls hl => ?_)
  have hl : lv_has ls 5 [(0, .ref (ad 0 0)), (1, .int a), (2, .int b)] := hl
  refine lv_aload_n hx hb dX4_give_0 rfl (lv_at hl 0 rfl) ?_
  refine lv_iload_n hx hb dX4_give_1 rfl (lv_at hl 1 rfl) ?_
  refine cl_X4_100 hx hb hml hown hK hZ hS hA (c_X4_theCoin hlt hI a) hI.reg rfl hl.1 (Nat.le_of_ble_eq_true rfl) ⟨Nat.le_of_ble_eq_true rfl, Nat.le_of_ble_eq_true rfl⟩ ⟨Nat.le_of_ble_eq_true rfl, Nat.le_of_ble_eq_true rfl⟩ rfl dX4_give_2 ?_ (r_kr (fun r C' ad' H locs hQ hS => ?_))
  · -- thrown
    intro E ce q9 C9 ad9 H locs hX9 hS hce hcv hcl
    obtain ⟨⟨rfl, hno⟩, rfl, rfl⟩ := hX9
    exact r_out hex hlocks hS hce hcv hcl (xM.mk (n := 1) (sGive_1 hno) (by decide) hI) (Nat.le_of_ble_eq_true rfl) (Nat.le_of_ble_eq_true rfl)
  obtain ⟨⟨j, hixj, rfl⟩, rfl, rfl⟩ := hQ
  have hj : j < (nC T) := ixO_lt hixj
  refine lv_astore_n (lv' := [(3, .ref (ad 4 j)), (0, .ref (ad 0 0)), (1, .int a), (2, .int b)]) hx hb dX4_give_5 rfl hl (by decide) rfl (fun ls hl => ?_)
  refine lv_aload_n hx hb dX4_give_6 rfl (lv_at hl 1 rfl) ?_
  refine lv_iload_n hx hb dX4_give_7 rfl (lv_at hl 3 rfl) ?_
  refine cl_X4_157 hx hb hml hown hK hZ hS hA (c_X4_theCollector hlt hI b) hI.reg rfl hl.1 (Nat.le_of_ble_eq_true rfl) ⟨Nat.le_of_ble_eq_true rfl, Nat.le_of_ble_eq_true rfl⟩ ⟨Nat.le_of_ble_eq_true rfl, Nat.le_of_ble_eq_true rfl⟩ rfl dX4_give_8 ?_ (r_kr (fun r C' ad' H locs hQ hS => ?_))
  · -- thrown
    intro E ce q9 C9 ad9 H locs hX9 hS hce hcv hcl
    obtain ⟨⟨rfl, hno⟩, rfl, rfl⟩ := hX9
    exact r_out hex hlocks hS hce hcv hcl (xM.mk (n := 1) (sGive_2 hixj hno) (by decide) hI) (Nat.le_of_ble_eq_true rfl) (Nat.le_of_ble_eq_true rfl)
  obtain ⟨⟨k, hixk, rfl⟩, rfl, rfl⟩ := hQ
  have hk : k < 8 := ixO_lt hixk
  have hjn := hI.cn hj
  have hC := hI.hC
  have how := ownedN_le T k
  have hs0 := sGive_0 hixj hixk
  refine lv_astore (lv' := [(4, .ref (ad 5 k)), (3, .ref (ad 4 j)), (0, .ref (ad 0 0)), (1, .int a), (2, .int b)]) hx hb dX4_give_11 hl (by decide) rfl (fun ls hl => ?_)
  refine lv_aload_n hx hb dX4_give_13 rfl (lv_at hl 1 rfl) ?_
  refine gf_X4_104 hx hb hown hK hS (hI.coin hj) rfl dX4_give_14 ?_
  refine r_if_ne (a := T 7 j) (tgt := 40) hx hb (by omega) dX4_give_17 (by decide) (fun q17 => ?_) (fun q17 => ?_)
  · -- T
    have hs := hs0.trans (if_pos (Or.inl (by omega)))
    exact th_X4_68_164 hx hb hlt hown hK hZ hS (by rw [hml]; exact hl.1) dX4_give_40 dX4_give_43 dX4_give_44 dX4_give_46 dX4_give_49 hex (Nat.le_of_ble_eq_true rfl) (Nat.le_of_ble_eq_true rfl) (Nat.le_of_ble_eq_true rfl) (Nat.le_of_ble_eq_true rfl) hlocks (xM.mk (n := 2) hs (by decide) hI) (Nat.le_of_ble_eq_true rfl) (Nat.le_of_ble_eq_true rfl)
  · -- F
    refine lv_aload_n hx hb dX4_give_20 rfl (lv_at hl 1 rfl) ?_
    refine gf_X4_124 hx hb hown hK hS (hI.coin hj) rfl dX4_give_21 ?_
    refine r_ifnonnullq (tgt := 40) hx hb dX4_give_24 (by decide) (fun x24 q24 => ?_) (fun q24 => ?_)
    · -- T
      have hs := hs0.trans (if_pos (Or.inr (Or.inl (fun e => by rw [if_pos e] at q24; cases q24))))
      exact th_X4_68_164 hx hb hlt hown hK hZ hS (by rw [hml]; exact hl.1) dX4_give_40 dX4_give_43 dX4_give_44 dX4_give_46 dX4_give_49 hex (Nat.le_of_ble_eq_true rfl) (Nat.le_of_ble_eq_true rfl) (Nat.le_of_ble_eq_true rfl) (Nat.le_of_ble_eq_true rfl) hlocks (xM.mk (n := 2) hs (by decide) hI) (Nat.le_of_ble_eq_true rfl) (Nat.le_of_ble_eq_true rfl)
    · -- F
      have h8 : T 8 j = 0 := by
        by_cases e : T 8 j = 0
        · exact e
        · rw [if_neg e] at q24; cases q24
      refine lv_aload hx hb dX4_give_27 (lv_at hl 0 rfl) ?_
      refine gf_X4_161 hx hb hown hK hS (hI.col hk) rfl dX4_give_29 ?_
      refine cl_X4_81 hx hb hml hown hK hZ hS hA (l_size (hI.owned hk)) ((hI.owned hk).1) rfl hl.1 (Nat.le_of_ble_eq_true rfl) ⟨Nat.le_of_ble_eq_true rfl, Nat.le_of_ble_eq_true rfl⟩ ⟨Nat.le_of_ble_eq_true rfl, Nat.le_of_ble_eq_true rfl⟩ rfl dX4_give_32 (r_kp (fun H locs hS => ?_))
      refine r_top (y := nI (ownedN T k)) (by rw [ow_len hI.1 hk]) ?_
      refine lv_bipush (v := nI 10) hx hb dX4_give_35 (by decide) ?_
      refine r_icmp_lt (a := ownedN T k) (b := 10) (tgt := 50) hx hb (by omega) (by omega) dX4_give_37 (by decide) (fun q37 => ?_) (fun q37 => ?_)
      · -- T
        have hs := hs0.trans (if_neg (fun z => by omega))
        refine lv_aload hx hb dX4_give_50 (lv_at hl 0 rfl) ?_
        refine lv_aload_n hx hb dX4_give_52 rfl (lv_at hl 1 rfl) ?_
        refine cl_X4_166 hx hb hml hown hK hZ hS hA (c_X1_gain hI.1 hk hj h8 q17 (by rw [ow_len hI.1 hk]; omega)) (hI.col hk) rfl hl.1 (Nat.le_of_ble_eq_true rfl) ⟨Nat.le_of_ble_eq_true rfl, Nat.le_of_ble_eq_true rfl⟩ ⟨Nat.le_of_ble_eq_true rfl, Nat.le_of_ble_eq_true rfl⟩ rfl dX4_give_53 (r_kv (fun C5 ad5 H locs hQ hS => ?_))
        obtain ⟨⟨L5, hw5, hn5⟩, hF5, hE5⟩ := hQ
        have ead50 : ad 5 k = ad5 5 k := (congrFun (hE5 5 (by decide)) k).symm
        try rw [ead50] at hl
        try rw [ead50]
        have ead51 : ad 4 j = ad5 4 j := (congrFun (hE5 4 (by decide)) j).symm
        try rw [ead51] at hl
        try rw [ead51]
        have ead52 : ad 0 0 = ad5 0 0 := (congrFun (hE5 0 (by decide)) 0).symm
        try rw [ead52] at hl
        try rw [ead52]
        refine lv_aload hx hb dX4_give_56 (lv_at hl 0 rfl) ?_
        refine gf_X4_161 hx hb hown hK hS (hw5.col hk) rfl dX4_give_58 ?_
        refine cl_X4_81 hx hb hml hown hK hZ hS hA (l_size (hw5.owned hk)) ((hw5.owned hk).1) rfl hl.1 (Nat.le_of_ble_eq_true rfl) ⟨Nat.le_of_ble_eq_true rfl, Nat.le_of_ble_eq_true rfl⟩ ⟨Nat.le_of_ble_eq_true rfl, Nat.le_of_ble_eq_true rfl⟩ rfl dX4_give_61 (r_kp (fun H locs hS => ?_))
        refine r_top (y := nI (ownedN (gainT T k j) k)) (by rw [ow_len hw5 hk]) ?_
        refine vx_ret ?_
        exact r_iret hx hb hr hlocks hS (pM.mk hs ⟨hw5, gainT_rr hI.2⟩ hF5) (Nat.le_of_ble_eq_true rfl) (Nat.le_of_ble_eq_true rfl) dX4_give_64
      · -- F
        have hs := hs0.trans (if_pos (Or.inr (Or.inr (by omega))))
        exact th_X4_68_164 hx hb hlt hown hK hZ hS (by rw [hml]; exact hl.1) dX4_give_40 dX4_give_43 dX4_give_44 dX4_give_46 dX4_give_49 hex (Nat.le_of_ble_eq_true rfl) (Nat.le_of_ble_eq_true rfl) (Nat.le_of_ble_eq_true rfl) (Nat.le_of_ble_eq_true rfl) hlocks (xM.mk (n := 2) hs (by decide) hI) (Nat.le_of_ble_eq_true rfl) (Nat.le_of_ble_eq_true rfl)

set_option maxHeartbeats 4000000 in
set_option maxRecDepth 100000 in
theorem c_X4_melt {G : rG} {l : Launch} {T : rTab} {L : rL} {C : rC} {ad : rA} (hlt : l.stackTraces = false) (hI : cInv G T L C ad) (a : Int32) : rMetX G l yX4_melt cX4_melt 4 (some .int) (rmM 8 2 12) [.ref (ad 0 0), .int a] C ad (pM G C ad (sMelt T a)) (xM G C ad (sMelt T a) ec2) := by
  refine rMetX.of (by decide) ?_
  intro p e s m below meth c hx hb hml hr hlocks hown hname hK hZ hS hex
  have hown : s.vm.findClass RX4 = some m.cls := hown
  have hA : ∀ q : Nat, s.heap.size ≤ q → (rF C ad s.heap.size) q := rF.new
  refine r_entry _ (Nat.le_of_ble_eq_true rfl) (fun ls hl => ?_)
  have hl : lv_has ls 4 [(0, .ref (ad 0 0)), (1, .int a)] := hl
  refine lv_aload_n hx hb dX4_melt_0 rfl (lv_at hl 0 rfl) ?_
  refine lv_iload_n hx hb dX4_melt_1 rfl (lv_at hl 1 rfl) ?_
  refine cl_X4_100 hx hb hml hown hK hZ hS hA (c_X4_theCoin hlt hI a) hI.reg rfl hl.1 (Nat.le_of_ble_eq_true rfl) ⟨Nat.le_of_ble_eq_true rfl, Nat.le_of_ble_eq_true rfl⟩ ⟨Nat.le_of_ble_eq_true rfl, Nat.le_of_ble_eq_true rfl⟩ rfl dX4_melt_2 ?_ (r_kr (fun r C' ad' H locs hQ hS => ?_))
  · -- thrown
    intro E ce q9 C9 ad9 H locs hX9 hS hce hcv hcl
    obtain ⟨⟨rfl, hno⟩, rfl, rfl⟩ := hX9
    exact r_out hex hlocks hS hce hcv hcl (xM.mk (n := 1) (sMelt_1 hno) (by decide) hI) (Nat.le_of_ble_eq_true rfl) (Nat.le_of_ble_eq_true rfl)
  obtain ⟨⟨j, hixj, rfl⟩, rfl, rfl⟩ := hQ
  have hj : j < (nC T) := ixO_lt hixj
  have hjn := hI.cn hj
  have hC := hI.hC
  have hs0 := sMelt_0 hixj
  refine lv_astore_n (lv' := [(2, .ref (ad 4 j)), (0, .ref (ad 0 0)), (1, .int a)]) hx hb dX4_melt_5 rfl hl (by decide) rfl (fun ls hl => ?_)
  refine lv_aload_n hx hb dX4_melt_6 rfl (lv_at hl 0 rfl) ?_
  refine gf_X4_104 hx hb hown hK hS (hI.coin hj) rfl dX4_melt_7 ?_
  refine r_if_eq (a := T 7 j) (tgt := 23) hx hb (by omega) dX4_melt_10 (by decide) (fun q10 => ?_) (fun q10 => ?_)
  · -- T
    have hs := hs0.trans (if_neg (fun z => by omega))
    refine lv_aload_n hx hb dX4_melt_23 rfl (lv_at hl 0 rfl) ?_
    refine cl_X4_117 hx hb hml hown hK hZ hS hA (c_X0_isGenuine hI hj) (hI.coin hj) rfl hl.1 (Nat.le_of_ble_eq_true rfl) ⟨Nat.le_of_ble_eq_true rfl, Nat.le_of_ble_eq_true rfl⟩ ⟨Nat.le_of_ble_eq_true rfl, Nat.le_of_ble_eq_true rfl⟩ rfl dX4_melt_24 (r_kp (fun H locs hS => ?_))
    refine r_ifb_eq (b := (tru T j)) (tgt := 43) hx hb dX4_melt_27 (by decide) (fun q27 => ?_) (fun q27 => ?_)
    · -- T
      obtain ⟨T1, hT1⟩ : ∃ z, z = T := ⟨_, rfl⟩
      obtain ⟨C4, hC4⟩ : ∃ z, z = C := ⟨_, rfl⟩
      have hw : cInvW G T1 L C4 ad := by rw [hT1, hC4]; exact hI.1
      have hS : rS G.1 (rF C ad s.heap.size) s.heap C4 ad H locs := by rw [hC4]; exact hS
      have hF4 : cFr C ad C4 ad := by rw [hC4]; exact cFr.rf
      have hme : ∀ a b, a ≠ 9 → meltT T j a b = ru (ru T1 8 j 0) 7 j 1 a b := fun a b h9 => by rw [hT1]; exact melt_f q27 h9
      have hme9 : ∀ i, i ≠ j → meltT T j 9 i = ru (ru T1 8 j 0) 7 j 1 9 i := fun i e => by rw [hT1]; exact (ru_k (by decide)).trans ((ru_i e).trans rfl)
      have t8 : T1 8 j = T 8 j := by rw [hT1]
      have hj1 : j < nC T1 := by rw [hT1]; exact hj
      have hj8 : T1 8 j ≤ 8 := (hw.cn hj1).2.2.2.1
      refine lv_aload_n hx hb dX4_melt_43 rfl (lv_at hl 0 rfl) ?_
      refine cl_X4_121 hx hb hml hown hK hZ hS hA (c_ownerW hw hj1) (hw.coin hj1) rfl hl.1 (Nat.le_of_ble_eq_true rfl) ⟨Nat.le_of_ble_eq_true rfl, Nat.le_of_ble_eq_true rfl⟩ ⟨Nat.le_of_ble_eq_true rfl, Nat.le_of_ble_eq_true rfl⟩ rfl dX4_melt_44 (r_kp (fun H locs hS => ?_))
      refine lv_istore_n (lv' := [(3, .int (nI (T1 8 j) - nI 1)), (2, .ref (ad 4 j)), (0, .ref (ad 0 0)), (1, .int a)]) hx hb dX4_melt_47 rfl hl (by decide) rfl (fun ls hl => ?_)
      refine lv_aload_n hx hb dX4_melt_48 rfl (lv_at hl 1 rfl) ?_
      refine gf_X4_124 hx hb hown hK hS (hw.coin hj1) rfl dX4_melt_49 ?_
      refine r_ifnullq (tgt := 63) hx hb dX4_melt_52 (by decide) (fun q52 => ?_) (fun x52 q52 => ?_)
      · -- T
        have h8 : T1 8 j = 0 := by
          by_cases e : T1 8 j = 0
          · exact e
          · rw [if_neg e] at q52; cases q52
        have hw5 : cInvW G (ru T1 8 j 0) L C4 ad := by rw [ru_id h8]; exact hw
        obtain ⟨L5, hL5⟩ : ∃ z, z = L := ⟨_, rfl⟩
        rw [← hL5] at hw5
        obtain ⟨C5, hC5⟩ : ∃ z, z = C4 := ⟨_, rfl⟩
        rw [← hC5] at hw5 hS
        have hF5 : cFr C4 ad C5 ad := by rw [hC5]; exact cFr.rf
        have hum := up_melt hw5 hj1 ru_e
        refine lv_aload_n hx hb dX4_melt_63 rfl (lv_at hl 1 rfl) ?_
        refine lv_iconst (v := nI 1) hx hb dX4_melt_64 (by decide) ?_
        refine pf_X4_104 hx hb hown hK hS (hw5.coin hj1) rfl rfl (fs' := [.int (nI j), .ref (ad 1 ((ru T1 8 j 0) 5 j)), .int (nI ((ru T1 8 j 0) 6 j)), va_rf (if (ru T1 8 j 0) 8 j = 0 then none else some (ad 5 ((ru T1 8 j 0) 8 j - 1))), .int (nI 1), .int (nI ((ru T1 8 j 0) 21 j))]) (Nat.le_of_ble_eq_true rfl) rfl dX4_melt_65 (fun H locs hS => ?_)
        refine lv_iload_n hx hb dX4_melt_68 rfl (lv_at hl 0 rfl) ?_
        refine vx_ret ?_
        exact r_iret hx hb hr hlocks hS (pM.mk (hs.trans (by rw [t8])) ⟨(show cInvW G (ru (ru T1 8 j 0) 7 j 1) L5 _ ad by unfold coO at hum; rw [show ru (ru T1 8 j 0) 7 j 1 7 j = 1 from ru_e] at hum; exact hum).ext hme (fun i hi h8i => by
              by_cases e : i = j
              · rw [e] at h8i
                exact absurd ((ru_k (by decide)).trans ru_e) h8i
              · exact hme9 i e), melt_rr hI hj q10⟩ (hF4.tr (hF5.tr (cFr.ru1 (by decide))))) (Nat.le_of_ble_eq_true rfl) (Nat.le_of_ble_eq_true rfl) dX4_melt_69
      · -- F
        have h8 : ¬ T1 8 j = 0 := fun e => by rw [if_pos e] at q52; cases q52
        refine lv_aload_n hx hb dX4_melt_55 rfl (lv_at hl 1 rfl) ?_
        refine gf_X4_124 hx hb hown hK hS (hw.coin hj1) rfl dX4_melt_56 ?_
        refine r_topv (y := .ref (ad 5 (T1 8 j - 1))) (by rw [if_neg h8]; rfl) ?_
        refine lv_aload_n hx hb dX4_melt_59 rfl (lv_at hl 1 rfl) ?_
        refine cl_X4_128 hx hb hml hown hK hZ hS hA (c_X1_lose hw (show T1 8 j - 1 < 8 by omega) hj1 (by omega)) (hw.col (show T1 8 j - 1 < 8 by omega)) rfl hl.1 (Nat.le_of_ble_eq_true rfl) ⟨Nat.le_of_ble_eq_true rfl, Nat.le_of_ble_eq_true rfl⟩ ⟨Nat.le_of_ble_eq_true rfl, Nat.le_of_ble_eq_true rfl⟩ rfl dX4_melt_60 (r_kv (fun C5 ad5 H locs hQ hS => ?_))
        obtain ⟨⟨L5, hw5, hn5⟩, hF5, rfl⟩ := hQ
        have hum := up_melt hw5 hj1 ru_e
        refine lv_aload_n hx hb dX4_melt_63 rfl (lv_at hl 1 rfl) ?_
        refine lv_iconst (v := nI 1) hx hb dX4_melt_64 (by decide) ?_
        refine pf_X4_104 hx hb hown hK hS (hw5.coin hj1) rfl rfl (fs' := [.int (nI j), .ref (ad 1 ((ru T1 8 j 0) 5 j)), .int (nI ((ru T1 8 j 0) 6 j)), va_rf (if (ru T1 8 j 0) 8 j = 0 then none else some (ad 5 ((ru T1 8 j 0) 8 j - 1))), .int (nI 1), .int (nI ((ru T1 8 j 0) 21 j))]) (Nat.le_of_ble_eq_true rfl) rfl dX4_melt_65 (fun H locs hS => ?_)
        refine lv_iload_n hx hb dX4_melt_68 rfl (lv_at hl 0 rfl) ?_
        refine vx_ret ?_
        exact r_iret hx hb hr hlocks hS (pM.mk (hs.trans (by rw [t8])) ⟨(show cInvW G (ru (ru T1 8 j 0) 7 j 1) L5 _ ad by unfold coO at hum; rw [show ru (ru T1 8 j 0) 7 j 1 7 j = 1 from ru_e] at hum; exact hum).ext hme (fun i hi h8i => by
              by_cases e : i = j
              · rw [e] at h8i
                exact absurd ((ru_k (by decide)).trans ru_e) h8i
              · exact hme9 i e), melt_rr hI hj q10⟩ (hF4.tr (hF5.tr (cFr.ru1 (by decide))))) (Nat.le_of_ble_eq_true rfl) (Nat.le_of_ble_eq_true rfl) dX4_melt_69
    · -- F
      have hrp := rar_pos hj q27
      have hdr := (hI.dn (hI.odie hj)).2.2.2
      refine lv_aload_n hx hb dX4_melt_30 rfl (lv_at hl 0 rfl) ?_
      refine gf_X4_109 hx hb hown hK hS (hI.coin hj) rfl dX4_melt_31 ?_
      refine lv_dup hx hb dX4_melt_34 rfl ?_
      refine gf_X4_97 hx hb hown hK hS (hI.die (hI.odie hj)) rfl dX4_melt_35 ?_
      refine lv_iconst (v := nI 1) hx hb dX4_melt_38 (by decide) ?_
      refine lv_isub hx hb dX4_melt_39 ?_
      refine r_top (y := nI (T 20 (T 5 j) - 1)) (pk_sub (by omega)) ?_
      refine pf_X4_97 hx hb hown hK hS (hI.die (hI.odie hj)) rfl rfl (fs' := [.int (nI (T 5 j)), .int (nI (T 1 (T 5 j))), .int (nI (valOf (T 1 (T 5 j)))), .int (nI (T 2 (T 5 j))), .int (nI (T 4 (T 5 j))), .int (nI (T 20 (T 5 j) - 1)), .ref (ad 11 (T 5 j))]) (Nat.le_of_ble_eq_true rfl) rfl dX4_melt_40 (fun H locs hS => ?_)
      have hu := up_tc hI.1 (d := T 5 j) (v := T 20 (T 5 j) - 1) (hI.odie hj)
      unfold diO at hu
      rw [show ru T 20 (T 5 j) (T 20 (T 5 j) - 1) 20 (T 5 j) = T 20 (T 5 j) - 1 from ru_e] at hu
      obtain ⟨C4, hC4⟩ : ∃ z, z = ru C 1 (T 5 j) (some (.inr (3, [.int (nI (T 5 j)), .int (nI (T 1 (T 5 j))), .int (nI (valOf (T 1 (T 5 j)))), .int (nI (T 2 (T 5 j))), .int (nI (T 4 (T 5 j))), .int (nI (T 20 (T 5 j) - 1)), .ref (ad 11 (T 5 j))]))) := ⟨_, rfl⟩
      obtain ⟨T1, hT1⟩ : ∃ z, z = ru T 20 (T 5 j) (T 20 (T 5 j) - 1) := ⟨_, rfl⟩
      have hw : cInvW G T1 L C4 ad := by rw [hT1, hC4]; exact hu
      rw [← hC4] at hS
      have hF4 : cFr C ad C4 ad := by rw [hC4]; exact cFr.ru1 (by decide)
      have hme : ∀ a b, a ≠ 9 → meltT T j a b = ru (ru T1 8 j 0) 7 j 1 a b := fun a b h9 => by rw [hT1]; exact melt_t q27 h9
      have hme9 : ∀ i, i ≠ j → meltT T j 9 i = ru (ru T1 8 j 0) 7 j 1 9 i := fun i e => by rw [hT1]; exact (ru_k (by decide)).trans ((ru_i e).trans rfl)
      have t8 : T1 8 j = T 8 j := by rw [hT1]; exact ru_k (by decide)
      have hj1 : j < nC T1 := by rw [hT1]; exact hj
      have hj8 : T1 8 j ≤ 8 := (hw.cn hj1).2.2.2.1
      refine lv_aload_n hx hb dX4_melt_43 rfl (lv_at hl 0 rfl) ?_
      refine cl_X4_121 hx hb hml hown hK hZ hS hA (c_ownerW hw hj1) (hw.coin hj1) rfl hl.1 (Nat.le_of_ble_eq_true rfl) ⟨Nat.le_of_ble_eq_true rfl, Nat.le_of_ble_eq_true rfl⟩ ⟨Nat.le_of_ble_eq_true rfl, Nat.le_of_ble_eq_true rfl⟩ rfl dX4_melt_44 (r_kp (fun H locs hS => ?_))
      refine lv_istore_n (lv' := [(3, .int (nI (T1 8 j) - nI 1)), (2, .ref (ad 4 j)), (0, .ref (ad 0 0)), (1, .int a)]) hx hb dX4_melt_47 rfl hl (by decide) rfl (fun ls hl => ?_)
      refine lv_aload_n hx hb dX4_melt_48 rfl (lv_at hl 1 rfl) ?_
      refine gf_X4_124 hx hb hown hK hS (hw.coin hj1) rfl dX4_melt_49 ?_
      refine r_ifnullq (tgt := 63) hx hb dX4_melt_52 (by decide) (fun q52 => ?_) (fun x52 q52 => ?_)
      · -- T
        have h8 : T1 8 j = 0 := by
          by_cases e : T1 8 j = 0
          · exact e
          · rw [if_neg e] at q52; cases q52
        have hw5 : cInvW G (ru T1 8 j 0) L C4 ad := by rw [ru_id h8]; exact hw
        obtain ⟨L5, hL5⟩ : ∃ z, z = L := ⟨_, rfl⟩
        rw [← hL5] at hw5
        obtain ⟨C5, hC5⟩ : ∃ z, z = C4 := ⟨_, rfl⟩
        rw [← hC5] at hw5 hS
        have hF5 : cFr C4 ad C5 ad := by rw [hC5]; exact cFr.rf
        have hum := up_melt hw5 hj1 ru_e
        refine lv_aload_n hx hb dX4_melt_63 rfl (lv_at hl 1 rfl) ?_
        refine lv_iconst (v := nI 1) hx hb dX4_melt_64 (by decide) ?_
        refine pf_X4_104 hx hb hown hK hS (hw5.coin hj1) rfl rfl (fs' := [.int (nI j), .ref (ad 1 ((ru T1 8 j 0) 5 j)), .int (nI ((ru T1 8 j 0) 6 j)), va_rf (if (ru T1 8 j 0) 8 j = 0 then none else some (ad 5 ((ru T1 8 j 0) 8 j - 1))), .int (nI 1), .int (nI ((ru T1 8 j 0) 21 j))]) (Nat.le_of_ble_eq_true rfl) rfl dX4_melt_65 (fun H locs hS => ?_)
        refine lv_iload_n hx hb dX4_melt_68 rfl (lv_at hl 0 rfl) ?_
        refine vx_ret ?_
        exact r_iret hx hb hr hlocks hS (pM.mk (hs.trans (by rw [t8])) ⟨(show cInvW G (ru (ru T1 8 j 0) 7 j 1) L5 _ ad by unfold coO at hum; rw [show ru (ru T1 8 j 0) 7 j 1 7 j = 1 from ru_e] at hum; exact hum).ext hme (fun i hi h8i => by
              by_cases e : i = j
              · rw [e] at h8i
                exact absurd ((ru_k (by decide)).trans ru_e) h8i
              · exact hme9 i e), melt_rr hI hj q10⟩ (hF4.tr (hF5.tr (cFr.ru1 (by decide))))) (Nat.le_of_ble_eq_true rfl) (Nat.le_of_ble_eq_true rfl) dX4_melt_69
      · -- F
        have h8 : ¬ T1 8 j = 0 := fun e => by rw [if_pos e] at q52; cases q52
        refine lv_aload_n hx hb dX4_melt_55 rfl (lv_at hl 1 rfl) ?_
        refine gf_X4_124 hx hb hown hK hS (hw.coin hj1) rfl dX4_melt_56 ?_
        refine r_topv (y := .ref (ad 5 (T1 8 j - 1))) (by rw [if_neg h8]; rfl) ?_
        refine lv_aload_n hx hb dX4_melt_59 rfl (lv_at hl 1 rfl) ?_
        refine cl_X4_128 hx hb hml hown hK hZ hS hA (c_X1_lose hw (show T1 8 j - 1 < 8 by omega) hj1 (by omega)) (hw.col (show T1 8 j - 1 < 8 by omega)) rfl hl.1 (Nat.le_of_ble_eq_true rfl) ⟨Nat.le_of_ble_eq_true rfl, Nat.le_of_ble_eq_true rfl⟩ ⟨Nat.le_of_ble_eq_true rfl, Nat.le_of_ble_eq_true rfl⟩ rfl dX4_melt_60 (r_kv (fun C5 ad5 H locs hQ hS => ?_))
        obtain ⟨⟨L5, hw5, hn5⟩, hF5, rfl⟩ := hQ
        have hum := up_melt hw5 hj1 ru_e
        refine lv_aload_n hx hb dX4_melt_63 rfl (lv_at hl 1 rfl) ?_
        refine lv_iconst (v := nI 1) hx hb dX4_melt_64 (by decide) ?_
        refine pf_X4_104 hx hb hown hK hS (hw5.coin hj1) rfl rfl (fs' := [.int (nI j), .ref (ad 1 ((ru T1 8 j 0) 5 j)), .int (nI ((ru T1 8 j 0) 6 j)), va_rf (if (ru T1 8 j 0) 8 j = 0 then none else some (ad 5 ((ru T1 8 j 0) 8 j - 1))), .int (nI 1), .int (nI ((ru T1 8 j 0) 21 j))]) (Nat.le_of_ble_eq_true rfl) rfl dX4_melt_65 (fun H locs hS => ?_)
        refine lv_iload_n hx hb dX4_melt_68 rfl (lv_at hl 0 rfl) ?_
        refine vx_ret ?_
        exact r_iret hx hb hr hlocks hS (pM.mk (hs.trans (by rw [t8])) ⟨(show cInvW G (ru (ru T1 8 j 0) 7 j 1) L5 _ ad by unfold coO at hum; rw [show ru (ru T1 8 j 0) 7 j 1 7 j = 1 from ru_e] at hum; exact hum).ext hme (fun i hi h8i => by
              by_cases e : i = j
              · rw [e] at h8i
                exact absurd ((ru_k (by decide)).trans ru_e) h8i
              · exact hme9 i e), melt_rr hI hj q10⟩ (hF4.tr (hF5.tr (cFr.ru1 (by decide))))) (Nat.le_of_ble_eq_true rfl) (Nat.le_of_ble_eq_true rfl) dX4_melt_69
  · -- F
    have hs := hs0.trans (if_pos (by omega))
    exact th_X4_68_107 hx hb hlt hown hK hZ hS (by rw [hml]; exact hl.1) dX4_melt_13 dX4_melt_16 dX4_melt_17 dX4_melt_19 dX4_melt_22 hex (Nat.le_of_ble_eq_true rfl) (Nat.le_of_ble_eq_true rfl) (Nat.le_of_ble_eq_true rfl) (Nat.le_of_ble_eq_true rfl) hlocks (xM.mk (n := 2) hs (by decide) hI) (Nat.le_of_ble_eq_true rfl) (Nat.le_of_ble_eq_true rfl)
