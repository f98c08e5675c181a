/-! the ring hands over (printed by wip/whole/gen/comp16.py) -/
theorem tru_7 {T : rTab} {j : Nat} (h : tru T j = true) : T 7 j = 0 := by
  unfold tru at h
  rw [Bool.and_eq_true] at h
  exact of_decide_eq_true h.1
theorem handI_rr {T : rTab} {xs ys : List Nat} {p : Nat} (h : cRr T) : cRr (handI T xs ys p) := by
  intro i hi
  have k0 := handI_k (T := T) (xs := xs) (ys := ys) (a := 0) (by decide) (by decide) (by decide) (by decide) p
  rw [show nD (handI T xs ys p) = nD T from congrFun k0 0] at hi
  rw [rar_eq (T := T) (T' := handI T xs ys p) (congrFun k0 1) (handI_k (by decide) (by decide) (by decide) (by decide) p) (handI_k (by decide) (by decide) (by decide) (by decide) p) (handI_k (by decide) (by decide) (by decide) (by decide) p) i, handI_k (a := 20) (by decide) (by decide) (by decide) (by decide) p]
  exact h i hi
theorem nxt_lt {n p : Nat} (h : p < n) : nxt n p < n := by
  unfold nxt
  split <;> omega

set_option maxHeartbeats 4000000 in
set_option maxRecDepth 100000 in
theorem c_X3_handOver {G : rG} {l : Launch} {T : rTab} {L : rL} {C : rC} {ad : rA} (hI : cInv G T L C ad) {q : Nat} (hq : q = nS T) (hrow : rowOK T (L.1 16 q) (L.1 17 q)) (how10 : ∀ k, k < 8 → ownedN T k ≤ 10) : rMet G l yX3_handOver cX3_handOver 5 none (rmM 10 4 104) [.ref (ad 6 q)] C ad (rVoid fun C' ad' => (∃ L', cInv G (handI T (L.1 16 q) (L.1 17 q) (L.1 16 q).length) L' C' ad' ∧ L'.1 16 q = (L.1 16 q) ∧ L'.1 17 q = (L.1 17 q)) ∧ cFr C ad C' ad' ∧ ∀ a, a < 20 → ad' a = ad a) := by
  refine rMet.of (by decide) ?_
  intro p e s m below meth c hx hb hml hr hlocks hown hname hK hZ hS
  have hown : s.vm.findClass RX3 = some m.cls := hown
  have hA : ∀ q : Nat, s.heap.size ≤ q → (rF C ad s.heap.size) q := rF.new
  refine r_entry _ (Nat.le_of_ble_eq_true rfl) (fun ls hl => ?_)
  have hl : lv_has ls 5 [(0, .ref (ad 6 q))] := hl
  have hql : q ≤ nS T := by omega
  have hlen := (hI.hrg hql).2.2.2.1
  refine lv_aload_n hx hb dX3_handOver_0 rfl (lv_at hl 0 rfl) ?_
  refine cl_X3_38 hx hb hml hown hK hZ hS hA (c_X3_length hI hql) (hI.ring hql) rfl hl.1 (Nat.le_of_ble_eq_true rfl) ⟨Nat.le_of_ble_eq_true rfl, Nat.le_of_ble_eq_true rfl⟩ ⟨Nat.zero_le _, Nat.zero_le _⟩ rfl dX3_handOver_1 (r_kp (fun H locs hS => ?_))
  refine lv_istore_n (lv' := [(1, .int (nI (L.1 16 q).length)), (0, .ref (ad 6 q))]) hx hb dX3_handOver_4 rfl hl (by decide) rfl (fun ls hl => ?_)
  refine lv_iconst (v := nI 0) hx hb dX3_handOver_5 (by decide) ?_
  refine lv_istore_n (lv' := [(2, .int (nI 0)), (1, .int (nI (L.1 16 q).length)), (0, .ref (ad 6 q))]) hx hb dX3_handOver_6 rfl hl (by decide) rfl (fun ls hl => ?_)
  refine r_loop (σ := Nat × rL × rC × rA) (fun ⟨p0, L2, C2, ad2⟩ => (L.1 16 q).length - p0) (fun ⟨p0, L2, C2, ad2⟩ H locs ls => (p0 ≤ (L.1 16 q).length) ∧ (cInvW G (handI T (L.1 16 q) (L.1 17 q) p0) L2 C2 ad2) ∧ (L2.1 16 q = (L.1 16 q)) ∧ (L2.1 17 q = (L.1 17 q)) ∧ (p0 < (L.1 16 q).length → ∀ k, k < 8 → ownedN (handI T (L.1 16 q) (L.1 17 q) p0) k ≤ 10 ∨ ((L.1 16 q)[p0]? = some k ∧ ownedN (handI T (L.1 16 q) (L.1 17 q) p0) k ≤ 11)) ∧ (cFr C ad C2 ad2) ∧ (∀ a, a < 20 → ad2 a = ad a) ∧ rS G.1 (rF C ad s.heap.size) s.heap C2 ad2 H locs ∧ lv_has ls 5 [(2, .int (nI p0)), (1, .int (nI (L.1 16 q).length)), (0, .ref (ad2 6 q))]) (fun ⟨p0, _, _, _⟩ => p0) (fun ⟨p0, _, _, _⟩ => 26 * p0) (fun z ih H locs ls hI => ?_) (0, L, C, ad) (Nat.zero_le _) (Nat.zero_le _) ⟨Nat.zero_le _, hI.1, rfl, rfl, (fun _ k hk => Or.inl (how10 k hk)), cFr.rf, (fun _ _ => rfl), hS, lv_sub hl [0, 1, 2] rfl⟩
  obtain ⟨p0, L2, C2, ad2⟩ := z
  obtain ⟨hil, hI2, hx2, hy2, ho2, hF2, hE2, hS, hl⟩ := hI
  try dsimp only at hil hI2 hx2 hy2 ho2 hF2 hE2 hS hl ih ⊢
  refine lv_iload_n hx hb dX3_handOver_7 rfl (lv_at hl 0 rfl) ?_
  refine lv_iload_n hx hb dX3_handOver_8 rfl (lv_at hl 1 rfl) ?_
  refine r_icmp_ge (a := p0) (b := (L.1 16 q).length) (tgt := 78) hx hb (by omega) (by omega) dX3_handOver_9 (by decide) (fun q9 => ?_) (fun q9 => ?_)
  · -- T
    obtain ⟨n0, hn0⟩ : ∃ z, z = (L.1 16 q).length := ⟨_, rfl⟩
    have hpe : p0 = (L.1 16 q).length := by omega
    rw [hpe] at hI2
    exact r_vret hx hb hr hlocks hS (⟨rfl, ⟨L2, ⟨hI2, handI_rr hI.2⟩, hx2, hy2⟩, hF2, hE2⟩) (by dsimp only [rmM, rmP]; omega) (by dsimp only [rmM, rmP]; omega) dX3_handOver_78
  · -- F
    obtain ⟨c, hcx⟩ : ∃ z, (L.1 16 q)[p0]? = some z := ⟨_, List.getElem?_eq_getElem q9⟩
    obtain ⟨j, hjx⟩ : ∃ z, (L.1 17 q)[p0]? = some z := ⟨_, List.getElem?_eq_getElem (by rw [← hrow.1]; exact q9)⟩
    obtain ⟨d, hdx⟩ : ∃ z, (L.1 16 q)[nxt (L.1 16 q).length p0]? = some z := ⟨_, List.getElem?_eq_getElem (nxt_lt q9)⟩
    have hc8 : c < 8 := hrow.2.2.1 c (List.mem_of_getElem? hcx)
    have hd8 : d < 8 := hrow.2.2.1 d (List.mem_of_getElem? hdx)
    have hro := hrow.2.2.2 p0 c j hcx hjx
    have h8i := handI_8 (T := T) (xs := (L.1 16 q)) (ys := (L.1 17 q)) (y := j) p0 (fun x z hxp hz e => by
      rw [e] at hz
      have := hrow.inj hz hjx
      omega)
    have k0 := handI_k (T := T) (xs := (L.1 16 q)) (ys := (L.1 17 q)) (a := 0) (by decide) (by decide) (by decide) (by decide) p0
    have k7 := handI_k (T := T) (xs := (L.1 16 q)) (ys := (L.1 17 q)) (a := 7) (by decide) (by decide) (by decide) (by decide) p0
    obtain ⟨T2, hT2⟩ : ∃ z, handI T (L.1 16 q) (L.1 17 q) p0 = z := ⟨_, rfl⟩
    rw [hT2] at hI2 ho2 h8i k0 k7
    have hq2 : q ≤ nS T2 := by rw [show nS T2 = nS T from congrFun k0 2]; exact hql
    have hj2 : j < nC T2 := by rw [show nC T2 = nC T from congrFun k0 1]; exact hro.1
    have h82 : T2 8 j = c + 1 := h8i.trans hro.2.1
    have h72 : T2 7 j = 0 := (congrFun k7 j).trans (tru_7 hro.2.2)
    refine lv_iload_n hx hb dX3_handOver_12 rfl (lv_at hl 0 rfl) ?_
    refine lv_iconst (v := nI 1) hx hb dX3_handOver_13 (by decide) ?_
    refine lv_iadd hx hb dX3_handOver_14 ?_
    refine r_top (nI_add _ _) ?_
    refine lv_iload_n hx hb dX3_handOver_15 rfl (lv_at hl 1 rfl) ?_
    refine r_icmp_ge (a := p0 + 1) (b := (L.1 16 q).length) (tgt := 25) hx hb (by omega) (by omega) dX3_handOver_16 (by decide) (fun q16 => ?_) (fun q16 => ?_)
    · -- T
      refine lv_iconst (v := nI 0) hx hb dX3_handOver_25 (by decide) ?_
      refine r_top (y := nI (nxt (L.1 16 q).length p0)) (by unfold nxt; rw [if_neg (by omega)]) ?_
      refine lv_istore_n (lv' := [(3, .int (nI (nxt (L.1 16 q).length p0))), (2, .int (nI p0)), (1, .int (nI (L.1 16 q).length)), (0, .ref (ad2 6 q))]) hx hb dX3_handOver_26 rfl hl (by decide) rfl (fun ls hl => ?_)
      refine lv_aload_n hx hb dX3_handOver_27 rfl (lv_at hl 3 rfl) ?_
      refine gf_X3_18 hx hb hown hK hS (hI2.ring hq2) rfl dX3_handOver_28 ?_
      refine lv_iload_n hx hb dX3_handOver_31 rfl (lv_at hl 1 rfl) ?_
      refine cl_X3_51 hx hb hml hown hK hZ hS hA (l_get (hI2.gifts hq2) (by rw [hy2]; exact hjx)) ((hI2.gifts hq2).1) rfl hl.1 (Nat.le_of_ble_eq_true rfl) ⟨Nat.le_of_ble_eq_true rfl, Nat.le_of_ble_eq_true rfl⟩ ⟨(by dsimp only [rmM, rmP]; omega), (by dsimp only [rmM, rmP]; omega)⟩ rfl dX3_handOver_32 (r_kp (fun H locs hS => ?_))
      refine ck_X3_54 hx hb hown hK hS (hI2.coin hj2) dX3_handOver_35 ?_
      refine lv_astore (lv' := [(4, .ref (ad2 4 j)), (3, .int (nI (nxt (L.1 16 q).length p0))), (2, .int (nI p0)), (1, .int (nI (L.1 16 q).length)), (0, .ref (ad2 6 q))]) hx hb dX3_handOver_38 hl (by decide) rfl (fun ls hl => ?_)
      refine lv_aload_n hx hb dX3_handOver_40 rfl (lv_at hl 4 rfl) ?_
      refine gf_X3_12 hx hb hown hK hS (hI2.ring hq2) rfl dX3_handOver_41 ?_
      refine lv_iload_n hx hb dX3_handOver_44 rfl (lv_at hl 2 rfl) ?_
      refine cl_X3_51 hx hb hml hown hK hZ hS hA (l_get (hI2.givers hq2) (by rw [hx2]; exact hcx)) ((hI2.givers hq2).1) rfl hl.1 (Nat.le_of_ble_eq_true rfl) ⟨Nat.le_of_ble_eq_true rfl, Nat.le_of_ble_eq_true rfl⟩ ⟨(by dsimp only [rmM, rmP]; omega), (by dsimp only [rmM, rmP]; omega)⟩ rfl dX3_handOver_45 (r_kp (fun H locs hS => ?_))
      refine ck_X3_46 hx hb hown hK hS (hI2.col hc8) dX3_handOver_48 ?_
      refine lv_aload hx hb dX3_handOver_51 (lv_at hl 0 rfl) ?_
      refine cl_X3_68 hx hb hml hown hK hZ hS hA (c_X1_lose hI2 hc8 hj2 h82) (hI2.col hc8) rfl hl.1 (Nat.le_of_ble_eq_true rfl) ⟨Nat.le_of_ble_eq_true rfl, Nat.le_of_ble_eq_true rfl⟩ ⟨(by dsimp only [rmM, rmP]; omega), (by dsimp only [rmM, rmP]; omega)⟩ rfl dX3_handOver_53 (r_kv (fun C3 ad3 H locs hQ hS => ?_))
      obtain ⟨⟨L3, hI3, hn3⟩, hF3, rfl⟩ := hQ
      have hol : ∀ k, k < 8 → ownedN (ru T2 8 j 0) k ≤ 10 := fun k hk => by
        rw [owned_lose hj2 h82]
        have := ho2 q9 k hk
        by_cases e : k = c
        · rw [if_pos e]
          omega
        · rw [if_neg e]
          rcases this with z | z
          · exact z
          · rw [hcx] at z
            exact absurd (Option.some.inj z.1).symm e
      refine lv_aload_n hx hb dX3_handOver_56 rfl (lv_at hl 4 rfl) ?_
      refine gf_X3_12 hx hb hown hK hS (hI3.ring hq2) rfl dX3_handOver_57 ?_
      refine lv_iload_n hx hb dX3_handOver_60 rfl (lv_at hl 1 rfl) ?_
      refine cl_X3_51 hx hb hml hown hK hZ hS hA (l_get (hI3.givers hq2) (by rw [hn3 16 q (by decide), hx2]; exact hdx)) ((hI3.givers hq2).1) rfl hl.1 (Nat.le_of_ble_eq_true rfl) ⟨Nat.le_of_ble_eq_true rfl, Nat.le_of_ble_eq_true rfl⟩ ⟨(by dsimp only [rmM, rmP]; omega), (by dsimp only [rmM, rmP]; omega)⟩ rfl dX3_handOver_61 (r_kp (fun H locs hS => ?_))
      refine ck_X3_46 hx hb hown hK hS (hI3.col hd8) dX3_handOver_64 ?_
      refine lv_aload hx hb dX3_handOver_67 (lv_at hl 0 rfl) ?_
      refine cl_X3_72 hx hb hml hown hK hZ hS hA (c_X1_gain hI3 hd8 hj2 ru_e h72 (by rw [ow_len hI3 hd8]; have := hol d hd8; omega)) (hI3.col hd8) rfl hl.1 (Nat.le_of_ble_eq_true rfl) ⟨Nat.le_of_ble_eq_true rfl, Nat.le_of_ble_eq_true rfl⟩ ⟨(by dsimp only [rmM, rmP]; omega), (by dsimp only [rmM, rmP]; omega)⟩ rfl dX3_handOver_69 (r_kv (fun C4 ad4 H locs hQ hS => ?_))
      obtain ⟨⟨L4, hI4, hn4⟩, hF4, hE4⟩ := hQ
      have ead40 : ad2 4 j = ad4 4 j := (congrFun (hE4 4 (by decide)) j).symm
      try rw [ead40] at hl
      try rw [ead40]
      have ead41 : ad2 6 q = ad4 6 q := (congrFun (hE4 6 (by decide)) q).symm
      try rw [ead41] at hl
      try rw [ead41]
      have hs5 := handI_s (T := T) (xs := (L.1 16 q)) (ys := (L.1 17 q)) hdx hjx
      rw [hT2] at hs5
      have hI5 : cInvW G (handI T (L.1 16 q) (L.1 17 q) (p0 + 1)) L4 C4 ad4 := by rw [hs5]; exact hI4
      have hx4 : L4.1 16 q = L.1 16 q := (hn4 16 q (by decide)).trans ((hn3 16 q (by decide)).trans hx2)
      have hy4 : L4.1 17 q = L.1 17 q := (hn4 17 q (by decide)).trans ((hn3 17 q (by decide)).trans hy2)
      have ho5 : p0 + 1 < (L.1 16 q).length → ∀ k, k < 8 → ownedN (handI T (L.1 16 q) (L.1 17 q) (p0 + 1)) k ≤ 10 ∨ ((L.1 16 q)[p0 + 1]? = some k ∧ ownedN (handI T (L.1 16 q) (L.1 17 q) (p0 + 1)) k ≤ 11) := fun hp k hk => by
        rw [hs5, owned_gain (T := ru T2 8 j 0) hj2 ru_e]
        have hk10 := hol k hk
        by_cases e : k = d
        · rw [if_pos e]
          refine Or.inr ⟨?_, by omega⟩
          rw [e, ← hdx]
          unfold nxt
          rw [if_pos hp]
        · rw [if_neg e]
          exact Or.inl hk10
      refine lv_iinc (v := nI (p0 + 1)) (lv' := [(2, .int (nI (p0 + 1))), (4, .ref (ad4 4 j)), (3, .int (nI (nxt (L.1 16 q).length p0))), (1, .int (nI (L.1 16 q).length)), (0, .ref (ad4 6 q))]) hx hb dX3_handOver_72 hl (k := 2) rfl (nI_inc _) (by decide) rfl (fun ls hl => ?_)
      refine lv_goto (tgt := 7) hx hb dX3_handOver_75 (by decide) ?_
      refine W.widen (by dsimp only [rmM, rmP]; omega) (by dsimp only [rmM, rmP]; omega) (ih (p0 + 1, L4, C4, ad4) (show (L.1 16 q).length - (p0 + 1) < (L.1 16 q).length - p0 by omega) _ _ _ ⟨(show p0 + 1 ≤ (L.1 16 q).length by omega), hI5, hx4, hy4, ho5, (hF2.tr (hF3.tr hF4)), (fun a ha => (hE4 a ha).trans (hE2 a ha)), hS, lv_sub hl [0, 3, 4] rfl⟩)
    · -- F
      have q16 : p0 + 1 < (L.1 16 q).length := by omega
      refine lv_iload_n hx hb dX3_handOver_19 rfl (lv_at hl 0 rfl) ?_
      refine lv_iconst (v := nI 1) hx hb dX3_handOver_20 (by decide) ?_
      refine lv_iadd hx hb dX3_handOver_21 ?_
      refine r_top (nI_add _ _) ?_
      refine lv_goto (tgt := 26) hx hb dX3_handOver_22 (by decide) ?_
      refine r_top (y := nI (nxt (L.1 16 q).length p0)) (by unfold nxt; rw [if_pos q16]) ?_
      refine lv_istore_n (lv' := [(3, .int (nI (nxt (L.1 16 q).length p0))), (2, .int (nI p0)), (1, .int (nI (L.1 16 q).length)), (0, .ref (ad2 6 q))]) hx hb dX3_handOver_26 rfl hl (by decide) rfl (fun ls hl => ?_)
      refine lv_aload_n hx hb dX3_handOver_27 rfl (lv_at hl 3 rfl) ?_
      refine gf_X3_18 hx hb hown hK hS (hI2.ring hq2) rfl dX3_handOver_28 ?_
      refine lv_iload_n hx hb dX3_handOver_31 rfl (lv_at hl 1 rfl) ?_
      refine cl_X3_51 hx hb hml hown hK hZ hS hA (l_get (hI2.gifts hq2) (by rw [hy2]; exact hjx)) ((hI2.gifts hq2).1) rfl hl.1 (Nat.le_of_ble_eq_true rfl) ⟨Nat.le_of_ble_eq_true rfl, Nat.le_of_ble_eq_true rfl⟩ ⟨(by dsimp only [rmM, rmP]; omega), (by dsimp only [rmM, rmP]; omega)⟩ rfl dX3_handOver_32 (r_kp (fun H locs hS => ?_))
      refine ck_X3_54 hx hb hown hK hS (hI2.coin hj2) dX3_handOver_35 ?_
      refine lv_astore (lv' := [(4, .ref (ad2 4 j)), (3, .int (nI (nxt (L.1 16 q).length p0))), (2, .int (nI p0)), (1, .int (nI (L.1 16 q).length)), (0, .ref (ad2 6 q))]) hx hb dX3_handOver_38 hl (by decide) rfl (fun ls hl => ?_)
      refine lv_aload_n hx hb dX3_handOver_40 rfl (lv_at hl 4 rfl) ?_
      refine gf_X3_12 hx hb hown hK hS (hI2.ring hq2) rfl dX3_handOver_41 ?_
      refine lv_iload_n hx hb dX3_handOver_44 rfl (lv_at hl 2 rfl) ?_
      refine cl_X3_51 hx hb hml hown hK hZ hS hA (l_get (hI2.givers hq2) (by rw [hx2]; exact hcx)) ((hI2.givers hq2).1) rfl hl.1 (Nat.le_of_ble_eq_true rfl) ⟨Nat.le_of_ble_eq_true rfl, Nat.le_of_ble_eq_true rfl⟩ ⟨(by dsimp only [rmM, rmP]; omega), (by dsimp only [rmM, rmP]; omega)⟩ rfl dX3_handOver_45 (r_kp (fun H locs hS => ?_))
      refine ck_X3_46 hx hb hown hK hS (hI2.col hc8) dX3_handOver_48 ?_
      refine lv_aload hx hb dX3_handOver_51 (lv_at hl 0 rfl) ?_
      refine cl_X3_68 hx hb hml hown hK hZ hS hA (c_X1_lose hI2 hc8 hj2 h82) (hI2.col hc8) rfl hl.1 (Nat.le_of_ble_eq_true rfl) ⟨Nat.le_of_ble_eq_true rfl, Nat.le_of_ble_eq_true rfl⟩ ⟨(by dsimp only [rmM, rmP]; omega), (by dsimp only [rmM, rmP]; omega)⟩ rfl dX3_handOver_53 (r_kv (fun C3 ad3 H locs hQ hS => ?_))
      obtain ⟨⟨L3, hI3, hn3⟩, hF3, rfl⟩ := hQ
      have hol : ∀ k, k < 8 → ownedN (ru T2 8 j 0) k ≤ 10 := fun k hk => by
        rw [owned_lose hj2 h82]
        have := ho2 q9 k hk
        by_cases e : k = c
        · rw [if_pos e]
          omega
        · rw [if_neg e]
          rcases this with z | z
          · exact z
          · rw [hcx] at z
            exact absurd (Option.some.inj z.1).symm e
      refine lv_aload_n hx hb dX3_handOver_56 rfl (lv_at hl 4 rfl) ?_
      refine gf_X3_12 hx hb hown hK hS (hI3.ring hq2) rfl dX3_handOver_57 ?_
      refine lv_iload_n hx hb dX3_handOver_60 rfl (lv_at hl 1 rfl) ?_
      refine cl_X3_51 hx hb hml hown hK hZ hS hA (l_get (hI3.givers hq2) (by rw [hn3 16 q (by decide), hx2]; exact hdx)) ((hI3.givers hq2).1) rfl hl.1 (Nat.le_of_ble_eq_true rfl) ⟨Nat.le_of_ble_eq_true rfl, Nat.le_of_ble_eq_true rfl⟩ ⟨(by dsimp only [rmM, rmP]; omega), (by dsimp only [rmM, rmP]; omega)⟩ rfl dX3_handOver_61 (r_kp (fun H locs hS => ?_))
      refine ck_X3_46 hx hb hown hK hS (hI3.col hd8) dX3_handOver_64 ?_
      refine lv_aload hx hb dX3_handOver_67 (lv_at hl 0 rfl) ?_
      refine cl_X3_72 hx hb hml hown hK hZ hS hA (c_X1_gain hI3 hd8 hj2 ru_e h72 (by rw [ow_len hI3 hd8]; have := hol d hd8; omega)) (hI3.col hd8) rfl hl.1 (Nat.le_of_ble_eq_true rfl) ⟨Nat.le_of_ble_eq_true rfl, Nat.le_of_ble_eq_true rfl⟩ ⟨(by dsimp only [rmM, rmP]; omega), (by dsimp only [rmM, rmP]; omega)⟩ rfl dX3_handOver_69 (r_kv (fun C4 ad4 H locs hQ hS => ?_))
      obtain ⟨⟨L4, hI4, hn4⟩, hF4, hE4⟩ := hQ
      have ead40 : ad2 4 j = ad4 4 j := (congrFun (hE4 4 (by decide)) j).symm
      try rw [ead40] at hl
      try rw [ead40]
      have ead41 : ad2 6 q = ad4 6 q := (congrFun (hE4 6 (by decide)) q).symm
      try rw [ead41] at hl
      try rw [ead41]
      have hs5 := handI_s (T := T) (xs := (L.1 16 q)) (ys := (L.1 17 q)) hdx hjx
      rw [hT2] at hs5
      have hI5 : cInvW G (handI T (L.1 16 q) (L.1 17 q) (p0 + 1)) L4 C4 ad4 := by rw [hs5]; exact hI4
      have hx4 : L4.1 16 q = L.1 16 q := (hn4 16 q (by decide)).trans ((hn3 16 q (by decide)).trans hx2)
      have hy4 : L4.1 17 q = L.1 17 q := (hn4 17 q (by decide)).trans ((hn3 17 q (by decide)).trans hy2)
      have ho5 : p0 + 1 < (L.1 16 q).length → ∀ k, k < 8 → ownedN (handI T (L.1 16 q) (L.1 17 q) (p0 + 1)) k ≤ 10 ∨ ((L.1 16 q)[p0 + 1]? = some k ∧ ownedN (handI T (L.1 16 q) (L.1 17 q) (p0 + 1)) k ≤ 11) := fun hp k hk => by
        rw [hs5, owned_gain (T := ru T2 8 j 0) hj2 ru_e]
        have hk10 := hol k hk
        by_cases e : k = d
        · rw [if_pos e]
          refine Or.inr ⟨?_, by omega⟩
          rw [e, ← hdx]
          unfold nxt
          rw [if_pos hp]
        · rw [if_neg e]
          exact Or.inl hk10
      refine lv_iinc (v := nI (p0 + 1)) (lv' := [(2, .int (nI (p0 + 1))), (4, .ref (ad4 4 j)), (3, .int (nI (nxt (L.1 16 q).length p0))), (1, .int (nI (L.1 16 q).length)), (0, .ref (ad4 6 q))]) hx hb dX3_handOver_72 hl (k := 2) rfl (nI_inc _) (by decide) rfl (fun ls hl => ?_)
      refine lv_goto (tgt := 7) hx hb dX3_handOver_75 (by decide) ?_
      refine W.widen (by dsimp only [rmM, rmP]; omega) (by dsimp only [rmM, rmP]; omega) (ih (p0 + 1, L4, C4, ad4) (show (L.1 16 q).length - (p0 + 1) < (L.1 16 q).length - p0 by omega) _ _ _ ⟨(show p0 + 1 ≤ (L.1 16 q).length by omega), hI5, hx4, hy4, ho5, (hF2.tr (hF3.tr hF4)), (fun a ha => (hE4 a ha).trans (hE2 a ha)), hS, lv_sub hl [0, 3, 4] rfl⟩)
