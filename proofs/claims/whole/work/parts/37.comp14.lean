/-! the ring that is ready (printed by wip/whole/gen/comp14.py) -/
def ringO (T : rTab) : Option (List Nat × List Nat) := match lenF T 2 [] [] with
  | some v => some v
  | none => match lenF T 3 [] [] with
    | some v => some v
    | none => lenF T 4 [] []
def ringL (T : rTab) : List Nat × List Nat := (ringO T).getD ([], [])
theorem ringO_s {T : rTab} {n : Nat} {v : List Nat × List Nat} (h2 : 2 ≤ n) (h4 : n ≤ 4) (hz : ∀ m, 2 ≤ m → m < n → lenF T m [] [] = none) (hv : lenF T n [] [] = some v) : ringO T = some v := by
  rcases (show n = 2 ∨ n = 3 ∨ n = 4 by omega) with rfl | rfl | rfl
  · unfold ringO
    rw [hv]
  · unfold ringO
    rw [hz 2 (by omega) (by omega)]
    show (match lenF T 3 [] [] with | some v => some v | none => lenF T 4 [] []) = some v
    rw [hv]
  · unfold ringO
    rw [hz 2 (by omega) (by omega)]
    show (match lenF T 3 [] [] with | some v => some v | none => lenF T 4 [] []) = some v
    rw [hz 3 (by omega) (by omega)]
    exact hv
theorem ringO_n {T : rTab} (hz : ∀ m, 2 ≤ m → m < 5 → lenF T m [] [] = none) : ringO T = none := by
  unfold ringO
  rw [hz 2 (by omega) (by omega)]
  show (match lenF T 3 [] [] with | some v => some v | none => lenF T 4 [] []) = none
  rw [hz 3 (by omega) (by omega)]
  exact hz 4 (by omega) (by omega)
theorem bu_le (L : rL) (q : Nat) : bu L q ≤ 2 := by
  have h : ∀ c, bd c ≤ 1 := fun c => by unfold bd; split <;> omega
  have h1 := h (L.2.1 16 q)
  have h2 := h (L.2.1 17 q)
  unfold bu
  omega
def fndP (G : rG) (T : rTab) (C : rC) (ad : rA) : rC → rA → Prop := fun C' ad' => (∃ L', cInv G T L' C' ad' ∧ L'.1 16 (nS T) = (ringL T).1 ∧ L'.1 17 (nS T) = (ringL T).2) ∧ cFr C ad C' ad' ∧ ∀ a, a < 20 → ad' a = ad a
theorem xM.mk2 {G : rG} {C C' : rC} {ad ad' : rA} {S : sR} {ec : Nat → String} {n : Nat} {T : rTab} {L : rL} {v : Int32} (h : S = (n, v, T)) (hn : n ≠ 0) (hI : cInv G T L C' ad') (hF : cFr C ad C' ad') : xM G C ad S ec (ec n) C' ad' := by
  subst h
  exact ⟨⟨hn, rfl⟩, L, hI, hF⟩
def sRingAt (T : rTab) (b : Int32) : sR := match tellO (ringL T).1 (ringL T).2 b with
  | none => (1, 0, T)
  | some n => (0, nI n, T)
theorem sRingAt_n {T : rTab} {b : Int32} (h : tellO (ringL T).1 (ringL T).2 b = none) : sRingAt T b = (1, 0, T) := by
  unfold sRingAt
  rw [h]
theorem sRingAt_s {T : rTab} {b : Int32} {n : Nat} (h : tellO (ringL T).1 (ringL T).2 b = some n) : sRingAt T b = (0, nI n, T) := by
  unfold sRingAt
  rw [h]

set_option maxHeartbeats 4000000 in
set_option maxRecDepth 100000 in
theorem c_X4_findRing {G : rG} {l : Launch} {T : rTab} {L : rL} {C : rC} {ad : rA} (hI : cInv G T L C ad) : rMet G l yX4_findRing cX4_findRing 5 none (rmM 16 136 4420) [.ref (ad 0 0)] C ad (rVoid (fndP G T C ad)) := by
  refine rMet.of (by decide) ?_
  intro p e s m below meth c hx hb hml hr hlocks hown hname hK hZ hS
  have hown : s.vm.findClass RX4 = some m.cls := hown
  have hA : ∀ q : Nat, s.heap.size ≤ q → (rF C ad s.heap.size) q := rF.new
  refine r_entry _ (Nat.le_of_ble_eq_true rfl) (fun ls hl => ?_)
  have hl : lv_has ls 5 [(0, .ref (ad 0 0))] := hl
  refine lv_aload_n hx hb dX4_findRing_0 rfl (lv_at hl 0 rfl) ?_
  refine gf_X4_21 hx hb hown hK hS hI.reg rfl dX4_findRing_1 ?_
  refine lv_astore_n (lv' := [(1, .ref (ad 7 0)), (0, .ref (ad 0 0))]) hx hb dX4_findRing_4 rfl hl (by decide) rfl (fun ls hl => ?_)
  refine lv_aload_n hx hb dX4_findRing_5 rfl (lv_at hl 0 rfl) ?_
  refine r_alen hx hb hK.1 hS 3 hI.arr rfl (v := nI 8) rfl dX4_findRing_6 ?_
  refine lv_istore_n (lv' := [(2, .int (nI 8)), (1, .ref (ad 7 0)), (0, .ref (ad 0 0))]) hx hb dX4_findRing_7 rfl hl (by decide) rfl (fun ls hl => ?_)
  refine lv_iconst (v := nI 0) hx hb dX4_findRing_8 (by decide) ?_
  refine lv_istore_n (lv' := [(3, .int (nI 0)), (2, .int (nI 8)), (1, .ref (ad 7 0)), (0, .ref (ad 0 0))]) hx hb dX4_findRing_9 rfl hl (by decide) rfl (fun ls hl => ?_)
  refine r_loop (σ := Nat × rL × rC × rA) (fun ⟨i, L2, C2, ad2⟩ => 8 - i) (fun ⟨i, L2, C2, ad2⟩ H locs ls => (i ≤ 8) ∧ (cInv G T L2 C2 ad2) ∧ (∀ k, k < i → L2.1 15 k = offL T k (nD T)) ∧ (cFr C ad C2 ad2) ∧ (∀ a, a < 20 → ad2 a = ad a) ∧ rS G.1 (rF C ad s.heap.size) s.heap C2 ad2 H locs ∧ lv_has ls 5 [(3, .int (nI i)), (2, .int (nI 8)), (1, .ref (ad2 7 0)), (0, .ref (ad2 0 0))]) (fun ⟨i, _, _, _⟩ => 16 * i) (fun ⟨i, _, _, _⟩ => 544 * i) (fun z ih H locs ls hI => ?_) (0, L, C, ad) (Nat.zero_le _) (Nat.zero_le _) ⟨Nat.zero_le _, hI, fun k hk => absurd hk (Nat.not_lt_zero _), cFr.rf, fun _ _ => rfl, hS, lv_sub hl [0, 1, 2, 3] rfl⟩
  obtain ⟨i, L2, C2, ad2⟩ := z
  obtain ⟨hil, hI2, ho2, hF2, hE2, hS, hl⟩ := hI
  try dsimp only at hil hI2 ho2 hF2 hE2 hS hl ih ⊢
  refine lv_iload_n hx hb dX4_findRing_10 rfl (lv_at hl 0 rfl) ?_
  refine lv_iload_n hx hb dX4_findRing_11 rfl (lv_at hl 1 rfl) ?_
  refine r_icmp_ge (a := i) (b := 8) (tgt := 35) hx hb (by omega) (by omega) dX4_findRing_12 (by decide) (fun q12 => ?_) (fun q12 => ?_)
  · -- T
    have hi8 : i = 8 := by omega
    refine lv_aload_n hx hb dX4_findRing_35 rfl (lv_at hl 3 rfl) ?_
    refine gf_X4_31 hx hb hown hK hS hI2.reg rfl dX4_findRing_36 ?_
    refine cl_X4_232 hx hb hml hown hK hZ hS hA (c_X3_empty hI2 rfl) (hI2.ring (Nat.le_refl _)) rfl hl.1 (Nat.le_of_ble_eq_true rfl) ⟨Nat.le_of_ble_eq_true rfl, Nat.le_of_ble_eq_true rfl⟩ ⟨(by dsimp only [rmM, rmP]; omega), (by dsimp only [rmM, rmP]; omega)⟩ rfl dX4_findRing_39 (r_kv (fun C4 ad4 H locs hQ hS => ?_))
    obtain ⟨⟨L4, hI4, hx4, hy4, hc4a, hc4b, hs4⟩, hF4, hE4⟩ := hQ
    have ead40 : ad2 7 0 = ad4 7 0 := (congrFun (hE4 7 (by decide)) 0).symm
    try rw [ead40] at hl
    try rw [ead40]
    have ead41 : ad2 0 0 = ad4 0 0 := (congrFun (hE4 0 (by decide)) 0).symm
    try rw [ead41] at hl
    try rw [ead41]
    have ho4 : offOK T L4 := offOK.r (q := nS T) (fun k hk => ho2 k (by omega)) hs4
    have hF4 : cFr C ad C4 ad4 := hF2.tr hF4
    have hE4 : ∀ a, a < 20 → ad4 a = ad a := fun a ha => (hE4 a ha).trans (hE2 a ha)
    refine lv_iconst (v := nI 2) hx hb dX4_findRing_42 (by decide) ?_
    refine lv_istore_n (lv' := [(1, .int (nI 2)), (3, .int (nI i)), (2, .int (nI 8)), (0, .ref (ad4 0 0))]) hx hb dX4_findRing_43 rfl hl (by decide) rfl (fun ls hl => ?_)
    refine r_loop (σ := Nat × rL × rC × rA) (fun ⟨n, L5, C5, ad5⟩ => 5 - n) (fun ⟨n, L5, C5, ad5⟩ H locs ls => (2 ≤ n) ∧ (n ≤ 5) ∧ (cInv G T L5 C5 ad5) ∧ (L5.1 16 (nS T) = []) ∧ (L5.1 17 (nS T) = []) ∧ (offOK T L5) ∧ (∀ m, 2 ≤ m → m < n → lenF T m [] [] = none) ∧ (cFr C ad C5 ad5) ∧ (∀ a, a < 20 → ad5 a = ad a) ∧ rS G.1 (rF C ad s.heap.size) s.heap C5 ad5 H locs ∧ lv_has ls 5 [(1, .int (nI n)), (0, .ref (ad5 0 0))]) (fun ⟨n, _, _, _⟩ => 128 + 2 * (n - 2)) (fun ⟨n, _, _, _⟩ => 4352 + 20 * (n - 2)) (fun z ih H locs ls hI => ?_) (2, L4, C4, ad4) (by dsimp only [rmM, rmP]; omega) (by dsimp only [rmM, rmP]; omega) ⟨(Nat.le_refl 2), (show 2 ≤ 5 by omega), hI4, hx4, hy4, ho4, (fun m h1 h2 => absurd h2 (Nat.not_lt.mpr h1)), hF4, hE4, hS, lv_sub hl [0, 3] rfl⟩
    obtain ⟨n, L5, C5, ad5⟩ := z
    obtain ⟨hn2, hn5, hI5, hx5, hy5, ho5, hz5, hF5, hE5, hS, hl⟩ := hI
    try dsimp only at hn2 hn5 hI5 hx5 hy5 ho5 hz5 hF5 hE5 hS hl ih ⊢
    refine lv_iload_n hx hb dX4_findRing_44 rfl (lv_at hl 0 rfl) ?_
    refine lv_iconst (v := nI 4) hx hb dX4_findRing_45 (by decide) ?_
    refine r_icmp_gt (a := n) (b := 4) (tgt := 72) hx hb (by omega) (by omega) dX4_findRing_46 (by decide) (fun q46 => ?_) (fun q46 => ?_)
    · -- T
      have hbl := bu_le L5 (nS T)
      have hrn : ringL T = ([], []) := by unfold ringL; rw [ringO_n (fun m h1 h2 => hz5 m h1 (by omega))]; rfl
      exact r_vret hx hb hr hlocks hS (⟨rfl, ⟨L5, hI5, by rw [hrn]; exact hx5, by rw [hrn]; exact hy5⟩, hF5, hE5⟩) (by dsimp only [rmM, rmP]; omega) (by dsimp only [rmM, rmP]; omega) dX4_findRing_72
    · -- F
      have hbl := bu_le L5 (nS T)
      refine lv_aload_n hx hb dX4_findRing_49 rfl (lv_at hl 1 rfl) ?_
      refine gf_X4_21 hx hb hown hK hS hI5.reg rfl dX4_findRing_50 ?_
      refine lv_aload_n hx hb dX4_findRing_53 rfl (lv_at hl 1 rfl) ?_
      refine gf_X4_31 hx hb hown hK hS hI5.reg rfl dX4_findRing_54 ?_
      refine lv_iload_n hx hb dX4_findRing_57 rfl (lv_at hl 0 rfl) ?_
      refine lv_iconst (v := nI 0) hx hb dX4_findRing_58 (by decide) ?_
      refine cl_X4_235 hx hb hml hown hK hZ hS hA (len_ok rfl n L5 C5 ad5 n 0 hI5 ho5 (by omega) (by omega) (by rw [hx5]; rfl)) rfl hl.1 (Nat.le_of_ble_eq_true rfl) ⟨(by dsimp only [rmM, rmP]; omega), (by dsimp only [rmM, rmP]; omega)⟩ ⟨(by dsimp only [rmM, rmP]; omega), (by dsimp only [rmM, rmP]; omega)⟩ rfl dX4_findRing_59 (r_kr (fun r9 C6 ad6 H locs hQ hS => ?_))
      obtain ⟨rfl, ⟨L6, hI6, hp6, hb6, hs6⟩, hF6, hE6⟩ := hQ
      have ead60 : ad5 0 0 = ad6 0 0 := (congrFun (hE6 0 (by decide)) 0).symm
      try rw [ead60] at hl
      try rw [ead60]
      rw [hx5, hy5] at hp6
      refine r_ifb_eq (b := ((lenF T n (L5.1 16 (nS T)) (L5.1 17 (nS T))).isSome)) (tgt := 66) hx hb dX4_findRing_62 (by decide) (fun q62 => ?_) (fun q62 => ?_)
      · -- T
        have hn6 : lenF T n [] [] = none := by rw [hx5, hy5] at q62; cases ho : lenF T n [] [] with | none => rfl | some v => rw [ho] at q62; cases q62
        rw [hn6] at hp6
        have hp6 := Prod.mk.inj hp6
        refine lv_iinc (v := nI (n + 1)) (lv' := [(1, .int (nI (n + 1))), (0, .ref (ad6 0 0))]) hx hb dX4_findRing_66 hl (k := 0) rfl (nI_inc _) (by decide) rfl (fun ls hl => ?_)
        refine lv_goto (tgt := 44) hx hb dX4_findRing_69 (by decide) ?_
        refine W.widen (by dsimp only [rmM, rmP]; omega) (by dsimp only [rmM, rmP]; omega) (ih (n + 1, L6, C6, ad6) (show 5 - (n + 1) < 5 - n by omega) _ _ _ ⟨(show 2 ≤ n + 1 by omega), (show n + 1 ≤ 5 by omega), hI6, hp6.1, hp6.2, (ho5.r hs6), (fun m h1 h2 => by
              by_cases e : m = n
              · rw [e]
                exact hn6
              · exact hz5 m h1 (by omega)), (hF5.tr hF6), (fun a ha => (hE6 a ha).trans (hE5 a ha)), hS, lv_sub hl [0, 1] rfl⟩)
      · -- F
        obtain ⟨v, hv⟩ : ∃ v, lenF T n [] [] = some v := by rw [hx5, hy5] at q62; cases ho : lenF T n [] [] with | none => rw [ho] at q62; cases q62 | some v => exact ⟨v, rfl⟩
        rw [hv] at hp6
        have hrl : ringL T = v := by unfold ringL; rw [ringO_s hn2 (by omega) hz5 hv]; rfl
        have hp6 : (L6.1 16 (nS T), L6.1 17 (nS T)) = v := hp6
        have hp61 : L6.1 16 (nS T) = v.1 := congrArg Prod.fst hp6
        have hp62 : L6.1 17 (nS T) = v.2 := congrArg Prod.snd hp6
        exact r_vret hx hb hr hlocks hS (⟨rfl, ⟨L6, hI6, by rw [hrl]; exact hp61, by rw [hrl]; exact hp62⟩, hF5.tr hF6, fun a ha => (hE6 a ha).trans (hE5 a ha)⟩) (by dsimp only [rmM, rmP]; omega) (by dsimp only [rmM, rmP]; omega) dX4_findRing_65
  · -- F
    have hi := q12
    refine lv_aload_n hx hb dX4_findRing_15 rfl (lv_at hl 2 rfl) ?_
    refine lv_iload_n hx hb dX4_findRing_16 rfl (lv_at hl 0 rfl) ?_
    refine r_aald hx hb hK.1 hS 3 hI2.arr rfl (nI_in0 (by omega) (by omega)) (v := .ref (ad2 5 i)) (by rw [nI_clamp (by omega), if_pos hi]; rfl) dX4_findRing_17 ?_
    refine lv_astore (lv' := [(4, .ref (ad2 5 i)), (3, .int (nI i)), (2, .int (nI 8)), (1, .ref (ad2 7 0)), (0, .ref (ad2 0 0))]) hx hb dX4_findRing_18 hl (by decide) rfl (fun ls hl => ?_)
    refine lv_aload hx hb dX4_findRing_20 (lv_at hl 0 rfl) ?_
    refine lv_aload_n hx hb dX4_findRing_22 rfl (lv_at hl 4 rfl) ?_
    refine gf_X4_10 hx hb hown hK hS hI2.reg rfl dX4_findRing_23 ?_
    refine cl_X4_181 hx hb hml hown hK hZ hS hA (c_X1_listOffers hI2 hi) (hI2.col hi) rfl hl.1 (Nat.le_of_ble_eq_true rfl) ⟨Nat.le_of_ble_eq_true rfl, Nat.le_of_ble_eq_true rfl⟩ ⟨(by dsimp only [rmM, rmP]; omega), (by dsimp only [rmM, rmP]; omega)⟩ rfl dX4_findRing_26 (r_kv (fun C3 ad3 H locs hQ hS => ?_))
    obtain ⟨⟨L3, hI3, hx3, hs3⟩, hF3, hE3⟩ := hQ
    have ead30 : ad2 5 i = ad3 5 i := (congrFun (hE3 5 (by decide)) i).symm
    try rw [ead30] at hl
    try rw [ead30]
    have ead31 : ad2 7 0 = ad3 7 0 := (congrFun (hE3 7 (by decide)) 0).symm
    try rw [ead31] at hl
    try rw [ead31]
    have ead32 : ad2 0 0 = ad3 0 0 := (congrFun (hE3 0 (by decide)) 0).symm
    try rw [ead32] at hl
    try rw [ead32]
    have hF3 : cFr C ad C3 ad3 := hF2.tr hF3
    have hE3 : ∀ a, a < 20 → ad3 a = ad a := fun a ha => (hE3 a ha).trans (hE2 a ha)
    refine lv_iinc (v := nI (i + 1)) (lv' := [(3, .int (nI (i + 1))), (4, .ref (ad3 5 i)), (2, .int (nI 8)), (1, .ref (ad3 7 0)), (0, .ref (ad3 0 0))]) hx hb dX4_findRing_29 hl (k := 1) rfl (nI_inc _) (by decide) rfl (fun ls hl => ?_)
    refine lv_goto (tgt := 10) hx hb dX4_findRing_32 (by decide) ?_
    refine W.widen (by dsimp only [rmM, rmP]; omega) (by dsimp only [rmM, rmP]; omega) (ih (i + 1, L3, C3, ad3) (show 8 - (i + 1) < 8 - i by omega) _ _ _ ⟨(show i + 1 ≤ 8 by omega), hI3, (fun k hk => by
          by_cases e : k = i
          · rw [e]
            exact hx3
          · rw [(hs3 15 k (fun z => e z.2)).1]
            exact ho2 k (by omega)), hF3, hE3, hS, lv_sub hl [0, 2, 3, 4] rfl⟩)

set_option maxHeartbeats 4000000 in
set_option maxRecDepth 100000 in
theorem c_X4_ring {G : rG} {l : Launch} {T : rTab} {L : rL} {C : rC} {ad : rA} (hI : cInv G T L C ad) : rMet G l yX4_ring cX4_ring 1 (some .int) (rmM 18 136 4420) [.ref (ad 0 0)] C ad (pM G C ad (0, nI (ringL T).1.length, T)) := by
  refine rMet.of (by decide) ?_
  intro p e s m below meth c hx hb hml hr hlocks hown hname hK hZ hS
  have hown : s.vm.findClass RX4 = some m.cls := hown
  have hA : ∀ q : Nat, s.heap.size ≤ q → (rF C ad s.heap.size) q := rF.new
  refine r_entry _ (Nat.le_of_ble_eq_true rfl) (fun ls hl => ?_)
  have hl : lv_has ls 1 [(0, .ref (ad 0 0))] := hl
  refine lv_aload_n hx hb dX4_ring_0 rfl (lv_at hl 0 rfl) ?_
  refine cl_X4_197 hx hb hml hown hK hZ hS hA (c_X4_findRing hI) hI.reg rfl hl.1 (Nat.le_of_ble_eq_true rfl) ⟨Nat.le_of_ble_eq_true rfl, Nat.le_of_ble_eq_true rfl⟩ ⟨Nat.le_of_ble_eq_true rfl, Nat.le_of_ble_eq_true rfl⟩ rfl dX4_ring_1 (r_kv (fun C1 ad1 H locs hQ hS => ?_))
  obtain ⟨⟨L1, hI1, hx1, hy1⟩, hF1, hE1⟩ := hQ
  have ead10 : ad 0 0 = ad1 0 0 := (congrFun (hE1 0 (by decide)) 0).symm
  try rw [ead10] at hl
  try rw [ead10]
  refine lv_aload_n hx hb dX4_ring_4 rfl (lv_at hl 0 rfl) ?_
  refine gf_X4_31 hx hb hown hK hS hI1.reg rfl dX4_ring_5 ?_
  refine cl_X4_200 hx hb hml hown hK hZ hS hA (c_X3_length hI1 (Nat.le_refl _)) (hI1.ring (Nat.le_refl _)) rfl hl.1 (Nat.le_of_ble_eq_true rfl) ⟨Nat.le_of_ble_eq_true rfl, Nat.le_of_ble_eq_true rfl⟩ ⟨Nat.le_of_ble_eq_true rfl, Nat.le_of_ble_eq_true rfl⟩ rfl dX4_ring_8 (r_kp (fun H locs hS => ?_))
  exact r_iret hx hb hr hlocks hS (pM.mk (by rw [hx1]) hI1 hF1) (Nat.le_of_ble_eq_true rfl) (Nat.le_of_ble_eq_true rfl) dX4_ring_11

set_option maxHeartbeats 4000000 in
set_option maxRecDepth 100000 in
theorem c_X4_ringAt {G : rG} {l : Launch} {T : rTab} {L : rL} {C : rC} {ad : rA} (hlt : l.stackTraces = false) (hI : cInv G T L C ad) (b : Int32) : rMetX G l yX4_ringAt cX4_ringAt 2 (some .int) (rmM 18 137 4430) [.ref (ad 0 0), .int b] C ad (pM G C ad (sRingAt T b)) (xM G C ad (sRingAt T b) ec2) := by
  refine rMetX.of (by decide) ?_
  intro p e s m below meth c hx hb hml hr hlocks hown hname hK hZ hS hex
  have hown : s.vm.findClass RX4 = some m.cls := hown
  have hA : ∀ q : Nat, s.heap.size ≤ q → (rF C ad s.heap.size) q := rF.new
  refine r_entry _ (Nat.le_of_ble_eq_true rfl) (fun ls hl => ?_)
  have hl : lv_has ls 2 [(0, .ref (ad 0 0)), (1, .int b)] := hl
  refine lv_aload_n hx hb dX4_ringAt_0 rfl (lv_at hl 0 rfl) ?_
  refine cl_X4_197 hx hb hml hown hK hZ hS hA (c_X4_findRing hI) hI.reg rfl hl.1 (Nat.le_of_ble_eq_true rfl) ⟨Nat.le_of_ble_eq_true rfl, Nat.le_of_ble_eq_true rfl⟩ ⟨Nat.le_of_ble_eq_true rfl, Nat.le_of_ble_eq_true rfl⟩ rfl dX4_ringAt_1 (r_kv (fun C1 ad1 H locs hQ hS => ?_))
  obtain ⟨⟨L1, hI1, hx1, hy1⟩, hF1, hE1⟩ := hQ
  have ead10 : ad 0 0 = ad1 0 0 := (congrFun (hE1 0 (by decide)) 0).symm
  try rw [ead10] at hl
  try rw [ead10]
  refine lv_aload_n hx hb dX4_ringAt_4 rfl (lv_at hl 0 rfl) ?_
  refine gf_X4_31 hx hb hown hK hS hI1.reg rfl dX4_ringAt_5 ?_
  refine lv_iload_n hx hb dX4_ringAt_8 rfl (lv_at hl 1 rfl) ?_
  refine cl_X4_203 hx hb hml hown hK hZ hS hA (c_X3_tell hlt hI1 (Nat.le_refl _) b) (hI1.ring (Nat.le_refl _)) rfl hl.1 (Nat.le_of_ble_eq_true rfl) ⟨Nat.le_of_ble_eq_true rfl, Nat.le_of_ble_eq_true rfl⟩ ⟨Nat.le_of_ble_eq_true rfl, Nat.le_of_ble_eq_true rfl⟩ rfl dX4_ringAt_9 ?_ (r_kr (fun r C' ad' H locs hQ hS => ?_))
  · -- thrown
    intro E ce q9 C9 ad9 H locs hX9 hS hce hcv hcl
    obtain ⟨⟨rfl, hno⟩, rfl, rfl⟩ := hX9
    rw [hx1, hy1] at hno
    exact r_out hex hlocks hS hce hcv hcl (xM.mk2 (n := 1) (sRingAt_n hno) (by decide) hI1 hF1) (Nat.le_of_ble_eq_true rfl) (Nat.le_of_ble_eq_true rfl)
  obtain ⟨⟨n, hn, rfl⟩, rfl, rfl⟩ := hQ
  rw [hx1, hy1] at hn
  refine vx_ret ?_
  exact r_iret hx hb hr hlocks hS (pM.mk (sRingAt_s hn) hI1 hF1) (Nat.le_of_ble_eq_true rfl) (Nat.le_of_ble_eq_true rfl) dX4_ringAt_12
