/-! rings and collectors made (printed by wip/whole/gen/comp15.py) -/
set_option maxHeartbeats 4000000 in
set_option maxRecDepth 100000 in
theorem c_X3_init {G : rG} {l : Launch} {C : rC} {ad : rA} {q : Nat} {v0 v1 : Value} (hr6 : C 6 q = some (.inr (4, [v0, v1]))) (h16 : C 16 q = none) (h17 : C 17 q = none) : rMet G l yX3_init cX3_init 1 none (rmM 5 2 6) [.ref (ad 6 q)] C ad (rVoid fun C' ad' => ru (ru (ru C 16 q (some (alO (nI 0) G.2.2 0))) 17 q (some (alO (nI 0) G.2.2 0))) 6 q (some (.inr (4, [.ref (ad' 16 q), .ref (ad' 17 q)]))) = C' ∧ ∃ a b, ad' = ru (ru ad 16 q a) 17 q b) := by
  refine rMet.of (by decide) ?_
  intro p e s m below meth c hx hb hml hr hlocks hown hname hK hZ hS
  have hown : s.vm.findClass RX3 = some m.cls := hown
  have hA : ∀ q : Nat, s.heap.size ≤ q → (rF C ad s.heap.size) q := rF.new
  refine r_entry _ (Nat.le_of_ble_eq_true rfl) (fun ls hl => ?_)
  have hl : lv_has ls 1 [(0, .ref (ad 6 q))] := hl
  refine lv_aload_n hx hb dX3_init_0 rfl (lv_at hl 0 rfl) ?_
  refine oi_X3_3 hx hb hown hK (by rw [hml]; exact hl.1) dX3_init_1 (Nat.le_of_ble_eq_true rfl) (Nat.le_of_ble_eq_true rfl) ?_
  refine lv_aload_n hx hb dX3_init_4 rfl (lv_at hl 0 rfl) ?_
  refine nw_X3_9 hx hb hown hK hS hA 16 q h16 (Nat.le_of_ble_eq_true rfl) (Nat.le_of_ble_eq_true rfl) dX3_init_5 (fun q3 H hS => ?_)
  obtain ⟨ad3, had3⟩ : ∃ z, z = ru ad 16 q q3 := ⟨_, rfl⟩
  rw [← had3] at hS
  have ead30 : ad 6 q = ad3 6 q := by rw [had3]; exact (ru_n (fun z => absurd z.1 (by decide))).symm
  try rw [ead30] at hl
  try rw [ead30]
  have qad3 : q3 = ad3 16 q := by rw [had3, ru_e]
  try rw [qad3]
  refine lv_dup hx hb dX3_init_8 rfl ?_
  refine cl_X3_11 hx hb hml hown hK hZ hS hA (c_Jx4a65c_init_da8c8 ru_e) rfl hl.1 (Nat.le_of_ble_eq_true rfl) ⟨Nat.le_of_ble_eq_true rfl, Nat.le_of_ble_eq_true rfl⟩ ⟨Nat.le_of_ble_eq_true rfl, Nat.le_of_ble_eq_true rfl⟩ rfl dX3_init_9 (r_kv (fun C' ad' H locs hQ hS => ?_))
  obtain ⟨rfl, rfl⟩ := hQ
  rw [ru_ru] at hS
  refine pf_X3_12 hx hb hown hK hS hname ((ru_k (by decide)).trans hr6) rfl rfl (fs' := [.ref (ad3 16 q), v1]) (Nat.le_of_ble_eq_true rfl) rfl dX3_init_12 (fun H locs hS => ?_)
  refine lv_aload_n hx hb dX3_init_15 rfl (lv_at hl 0 rfl) ?_
  refine nw_X3_9 hx hb hown hK hS hA 17 q ((ru_k (by decide)).trans ((ru_k (by decide)).trans h17)) (Nat.le_of_ble_eq_true rfl) (Nat.le_of_ble_eq_true rfl) dX3_init_16 (fun q4 H hS => ?_)
  obtain ⟨ad4, had4⟩ : ∃ z, z = ru ad3 17 q q4 := ⟨_, rfl⟩
  rw [← had4] at hS
  have ead40 : ad3 6 q = ad4 6 q := by rw [had4]; exact (ru_n (fun z => absurd z.1 (by decide))).symm
  try rw [ead40] at hl
  try rw [ead40]
  have qad4 : q4 = ad4 17 q := by rw [had4, ru_e]
  try rw [qad4]
  refine lv_dup hx hb dX3_init_19 rfl ?_
  refine cl_X3_11 hx hb hml hown hK hZ hS hA (c_Jx4a65c_init_da8c8 ru_e) rfl hl.1 (Nat.le_of_ble_eq_true rfl) ⟨Nat.le_of_ble_eq_true rfl, Nat.le_of_ble_eq_true rfl⟩ ⟨Nat.le_of_ble_eq_true rfl, Nat.le_of_ble_eq_true rfl⟩ rfl dX3_init_20 (r_kv (fun C' ad' H locs hQ hS => ?_))
  obtain ⟨rfl, rfl⟩ := hQ
  rw [ru_ru] at hS
  refine pf_X3_18 hx hb hown hK hS hname ((ru_k (by decide)).trans ru_e) rfl rfl (fs' := [.ref (ad3 16 q), .ref (ad4 17 q)]) (Nat.le_of_ble_eq_true rfl) rfl dX3_init_23 (fun H locs hS => ?_)
  have e16 : ad3 16 q = ad4 16 q := by rw [had4]; exact (ru_k (by decide)).symm
  rw [ru_cm (fun z => absurd z.1 (by decide)), ru_ru, ru_cm (fun z => absurd z.1 (by decide)), e16] at hS
  exact r_vret hx hb hr hlocks hS (⟨rfl, rfl, q3, q4, by rw [had4, had3]⟩) (Nat.le_of_ble_eq_true rfl) (Nat.le_of_ble_eq_true rfl) dX3_init_26

set_option maxHeartbeats 4000000 in
set_option maxRecDepth 100000 in
theorem c_X1_init {G : rG} {l : Launch} {C : rC} {ad : rA} {k : Nat} {n : Int32} {v0 v1 v2 v3 v4 : Value} (hr5 : C 5 k = some (.inr (2, [v0, v1, v2, v3, v4]))) (h14 : C 14 k = none) (h15 : C 15 k = none) : rMet G l yX1_init cX1_init 2 none (rmM 5 2 6) [.ref (ad 5 k), .int n] C ad (rVoid fun C' ad' => ru (ru (ru C 14 k (some (alO (nI 0) G.2.2 0))) 15 k (some (alO (nI 0) G.2.2 0))) 5 k (some (.inr (2, [.int n, v1, .int (nI 50), .ref (ad' 14 k), .ref (ad' 15 k)]))) = C' ∧ ∃ a b, ad' = ru (ru ad 14 k a) 15 k b) := by
  refine rMet.of (by decide) ?_
  intro p e s m below meth c hx hb hml hr hlocks hown hname hK hZ hS
  have hown : s.vm.findClass RX1 = some m.cls := hown
  have hA : ∀ q : Nat, s.heap.size ≤ q → (rF C ad s.heap.size) q := rF.new
  refine r_entry _ (Nat.le_of_ble_eq_true rfl) (fun ls hl => ?_)
  have hl : lv_has ls 2 [(0, .ref (ad 5 k)), (1, .int n)] := hl
  refine lv_aload_n hx hb dX1_init_0 rfl (lv_at hl 0 rfl) ?_
  refine oi_X1_3 hx hb hown hK (by rw [hml]; exact hl.1) dX1_init_1 (Nat.le_of_ble_eq_true rfl) (Nat.le_of_ble_eq_true rfl) ?_
  refine lv_aload_n hx hb dX1_init_4 rfl (lv_at hl 0 rfl) ?_
  refine lv_bipush (v := nI 50) hx hb dX1_init_5 (by decide) ?_
  refine pf_X1_9 hx hb hown hK hS hr5 rfl rfl (fs' := [v0, v1, .int (nI 50), v3, v4]) (Nat.le_of_ble_eq_true rfl) rfl dX1_init_7 (fun H locs hS => ?_)
  refine lv_aload_n hx hb dX1_init_10 rfl (lv_at hl 0 rfl) ?_
  refine nw_X1_15 hx hb hown hK hS hA 14 k ((ru_k (by decide)).trans h14) (Nat.le_of_ble_eq_true rfl) (Nat.le_of_ble_eq_true rfl) dX1_init_11 (fun q3 H hS => ?_)
  obtain ⟨ad3, had3⟩ : ∃ z, z = ru ad 14 k q3 := ⟨_, rfl⟩
  rw [← had3] at hS
  have ead30 : ad 5 k = ad3 5 k := by rw [had3]; exact (ru_n (fun z => absurd z.1 (by decide))).symm
  try rw [ead30] at hl
  try rw [ead30]
  have qad3 : q3 = ad3 14 k := by rw [had3, ru_e]
  try rw [qad3]
  refine lv_dup hx hb dX1_init_14 rfl ?_
  refine cl_X1_17 hx hb hml hown hK hZ hS hA (c_Jx4a65c_init_da8c8 ru_e) rfl hl.1 (Nat.le_of_ble_eq_true rfl) ⟨Nat.le_of_ble_eq_true rfl, Nat.le_of_ble_eq_true rfl⟩ ⟨Nat.le_of_ble_eq_true rfl, Nat.le_of_ble_eq_true rfl⟩ rfl dX1_init_15 (r_kv (fun C' ad' H locs hQ hS => ?_))
  obtain ⟨rfl, rfl⟩ := hQ
  rw [ru_ru] at hS
  refine pf_X1_18 hx hb hown hK hS hname ((ru_k (by decide)).trans ru_e) rfl rfl (fs' := [v0, v1, .int (nI 50), .ref (ad3 14 k), v4]) (Nat.le_of_ble_eq_true rfl) rfl dX1_init_18 (fun H locs hS => ?_)
  rw [ru_cm (fun z => absurd z.1 (by decide)), ru_ru, ru_cm (fun z => absurd z.1 (by decide))] at hS
  refine lv_aload_n hx hb dX1_init_21 rfl (lv_at hl 0 rfl) ?_
  refine nw_X1_15 hx hb hown hK hS hA 15 k ((ru_k (by decide)).trans ((ru_k (by decide)).trans h15)) (Nat.le_of_ble_eq_true rfl) (Nat.le_of_ble_eq_true rfl) dX1_init_22 (fun q4 H hS => ?_)
  obtain ⟨ad4, had4⟩ : ∃ z, z = ru ad3 15 k q4 := ⟨_, rfl⟩
  rw [← had4] at hS
  have ead40 : ad3 5 k = ad4 5 k := by rw [had4]; exact (ru_n (fun z => absurd z.1 (by decide))).symm
  try rw [ead40] at hl
  try rw [ead40]
  have qad4 : q4 = ad4 15 k := by rw [had4, ru_e]
  try rw [qad4]
  refine lv_dup hx hb dX1_init_25 rfl ?_
  refine cl_X1_17 hx hb hml hown hK hZ hS hA (c_Jx4a65c_init_da8c8 ru_e) rfl hl.1 (Nat.le_of_ble_eq_true rfl) ⟨Nat.le_of_ble_eq_true rfl, Nat.le_of_ble_eq_true rfl⟩ ⟨Nat.le_of_ble_eq_true rfl, Nat.le_of_ble_eq_true rfl⟩ rfl dX1_init_26 (r_kv (fun C' ad' H locs hQ hS => ?_))
  obtain ⟨rfl, rfl⟩ := hQ
  rw [ru_ru] at hS
  refine pf_X1_22 hx hb hown hK hS hname ((ru_k (by decide)).trans ru_e) rfl rfl (fs' := [v0, v1, .int (nI 50), .ref (ad3 14 k), .ref (ad4 15 k)]) (Nat.le_of_ble_eq_true rfl) rfl dX1_init_29 (fun H locs hS => ?_)
  have e14 : ad3 14 k = ad4 14 k := by rw [had4]; exact (ru_k (by decide)).symm
  rw [ru_cm (fun z => absurd z.1 (by decide)), ru_ru, ru_cm (fun z => absurd z.1 (by decide))] at hS
  refine lv_aload_n hx hb dX1_init_32 rfl (lv_at hl 0 rfl) ?_
  refine lv_iload_n hx hb dX1_init_33 rfl (lv_at hl 1 rfl) ?_
  refine pf_X1_25 hx hb hown hK hS hname ru_e rfl rfl (fs' := [.int n, v1, .int (nI 50), .ref (ad3 14 k), .ref (ad4 15 k)]) (Nat.le_of_ble_eq_true rfl) rfl dX1_init_34 (fun H locs hS => ?_)
  rw [ru_ru, e14] at hS
  exact r_vret hx hb hr hlocks hS (⟨rfl, rfl, q3, q4, by rw [had4, had3]⟩) (Nat.le_of_ble_eq_true rfl) (Nat.le_of_ble_eq_true rfl) dX1_init_37
