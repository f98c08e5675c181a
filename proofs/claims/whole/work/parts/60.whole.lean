/-! THE LAW FROM ITS ENTRY (printed by wip/whole/gen/start.py) -/
theorem mC_o45 {G : rG} {T : rTab} {th : Int32} {rg : Nat → Int32} {C C1 : rC} {ad ad1 : rA} (hM : mC G T th rg C ad = C) (hC : ∀ k, 30 ≤ k → k < 45 → C1 k 0 = C k 0) (hA : ∀ k, 30 ≤ k → k < 45 → ad1 k 0 = ad k 0) : mC G T th rg C1 ad1 = C1 := by
  have hc : ∀ k, 30 ≤ k → k < 45 → C1 k 0 = mC G T th rg C ad k 0 := fun k h1 h2 => by
    rw [hM]
    exact hC k h1 h2
  refine (mC_ext ?_ ?_ ?_ ?_ ?_ ?_ ?_ ?_ ?_ ?_ ?_ ?_ ?_ ?_ ?_ (fun k i _ => rfl)).symm
  · rw [hc 30 (by decide) (by decide), mC_30]
    unfold mO
    rw [hA 31 (by decide) (by decide), hA 32 (by decide) (by decide), hA 33 (by decide) (by decide), hA 34 (by decide) (by decide), hA 35 (by decide) (by decide), hA 36 (by decide) (by decide), hA 37 (by decide) (by decide), hA 38 (by decide) (by decide), hA 39 (by decide) (by decide), hA 40 (by decide) (by decide), hA 41 (by decide) (by decide), hA 42 (by decide) (by decide), hA 43 (by decide) (by decide), hA 44 (by decide) (by decide)]
  · rw [hc 31 (by decide) (by decide), mC_31]
  · rw [hc 32 (by decide) (by decide), mC_32]
  · rw [hc 33 (by decide) (by decide), mC_33]
  · rw [hc 34 (by decide) (by decide), mC_34]
  · rw [hc 35 (by decide) (by decide), mC_35]
  · rw [hc 36 (by decide) (by decide), mC_36]
  · rw [hc 37 (by decide) (by decide), mC_37]
  · rw [hc 38 (by decide) (by decide), mC_38]
  · rw [hc 39 (by decide) (by decide), mC_39]
  · rw [hc 40 (by decide) (by decide), mC_40]
  · rw [hc 41 (by decide) (by decide), mC_41]
  · rw [hc 42 (by decide) (by decide), mC_42]
  · rw [hc 43 (by decide) (by decide), mC_43]
  · rw [hc 44 (by decide) (by decide), mC_44]
set_option maxHeartbeats 4000000 in
set_option maxRecDepth 100000 in
/-- THE LAW, from its entry -/
theorem whole_start {p : Program} {e : Env} {s : State} {m : MethodId} {below : List Frame} {meth : Method} {c : Code} (l : Launch) (hflags : l.flags = flags0) {b L : Nat} {xs : Nat → Int32} (hL : L ≤ 2048) (C0 : lw_At p s m meth c b L xs) : W p l e room_1 s m #[Value.ref b] below meth c s.heap [] 0 0 (lw_Z below #[Value.ref b] s) (entryFrame m ([Value.ref b] : List Value).toArray 7) := by
  obtain ⟨hx, hb, hr, hml, hown, hts, hX, hbl, hlocks, hgv⟩ := id C0
  obtain ⟨G, hK, hZ⟩ := sw_KZ hts hgv
  have hlt : l.stackTraces = false := by
    unfold Launch.stackTraces
    rw [hflags]
    decide +kernel
  have hA : ∀ q : Nat, s.heap.size ≤ q → (fun q => s.heap.size ≤ q) q := fun _ h => h
  have hS : rS G.1 (fun q => s.heap.size ≤ q) s.heap (fun _ _ => none) (fun _ _ => 0) s.heap [] := ⟨⟨fun k i e h => (by cases h), fun k i k' i' e e' h => (by cases h)⟩, fun k i e h => (by cases h), va_S.rf⟩
  have hl := lv_entry ([.ref b]) (n := 7) (Nat.le_of_ble_eq_true rfl)
  rw [lg_entry_eq]
  generalize (lg_sl ([.ref b]) ++ List.replicate (7 - (lg_sl ([.ref b])).length) Slot.unset).toArray = ls at hl ⊢
  have hl : lv_has ls 7 [(0, .ref b)] := hl
  -- new DieRegister()
  refine nw_L_8 hx hb hown hK hS hA 0 0 rfl (Nat.le_of_ble_eq_true rfl) (Nat.le_of_ble_eq_true rfl) dL_law_0 (fun q0 H hS => ?_)
  obtain ⟨C1, hC1⟩ : ∃ z : rC, z = ru (fun _ _ => none) 0 0 (some (.inr (5, [.null, .null, .null, .null, .null]))) := ⟨_, rfl⟩
  obtain ⟨ad1, had1⟩ : ∃ z : rA, z = ru (fun _ _ => 0) 0 0 q0 := ⟨_, rfl⟩
  rw [← hC1, ← had1] at hS
  have hq0 : q0 = ad1 0 0 := by rw [had1, ru_e]
  rw [hq0]
  have n1 : ∀ k i, ¬ (k = 0 ∧ i = 0) → C1 k i = none := fun k i h => by rw [hC1, ru_n h]
  refine lv_dup hx hb dL_law_3 rfl ?_
  refine cl_L_102 hx hb hml hown hK hZ hS hA (c_X4_init (by rw [hC1, ru_e]) (fun k i _ h => n1 k i h)) rfl hl.1 (Nat.le_of_ble_eq_true rfl) ⟨Nat.le_of_ble_eq_true rfl, Nat.le_of_ble_eq_true rfl⟩ ⟨Nat.le_of_ble_eq_true rfl, Nat.le_of_ble_eq_true rfl⟩ rfl dL_law_4 (r_kv (fun C2 ad2 H locs hQ hS => ?_))
  obtain ⟨⟨L', hI2⟩, hF2⟩ := hQ
  refine lv_astore_n (lv' := [(1, .ref (ad1 0 0)), (0, .ref b)]) hx hb dL_law_7 rfl hl (by decide) rfl (fun ls hl => ?_)
  -- new DieRegisterModel()
  have n2 : ∀ k i, 30 ≤ k → C2 k i = none := fun k i h => ((hF2.1 k i h).1).trans (n1 k i (by omega))
  refine nw_L_103 hx hb hown hK hS hA 30 0 (n2 30 0 (by decide)) (Nat.le_of_ble_eq_true rfl) (Nat.le_of_ble_eq_true rfl) dL_law_8 (fun q3 H hS => ?_)
  obtain ⟨C3, hC3⟩ : ∃ z : rC, z = ru C2 30 0 (some (.inr (6, [.int 0, .null, .null, .null, .null, .int 0, .null, .null, .null, .null, .null, .null, .null, .int 0, .null, .null, .null, .int 0]))) := ⟨_, rfl⟩
  obtain ⟨ad3, had3⟩ : ∃ z : rA, z = ru ad2 30 0 q3 := ⟨_, rfl⟩
  rw [← hC3, ← had3] at hS
  have hq3 : q3 = ad3 30 0 := by rw [had3, ru_e]
  rw [hq3]
  have n3 : ∀ k i, ¬ (k = 30 ∧ i = 0) → C3 k i = C2 k i := fun k i h => by rw [hC3, ru_n h]
  have m3 : ∀ k i, ¬ (k = 30 ∧ i = 0) → ad3 k i = ad2 k i := fun k i h => by rw [had3, ru_n h]
  refine lv_dup hx hb dL_law_11 rfl ?_
  refine cl_L_105 hx hb hml hown hK hZ hS hA (c_X5_init (by rw [hC3, ru_e]) (fun k h1 h2 => (n3 k 0 (by omega)).trans (n2 k 0 (by omega)))) rfl hl.1 (Nat.le_of_ble_eq_true rfl) ⟨Nat.le_of_ble_eq_true rfl, Nat.le_of_ble_eq_true rfl⟩ ⟨Nat.le_of_ble_eq_true rfl, Nat.le_of_ble_eq_true rfl⟩ rfl dL_law_12 (r_kv (fun C4 ad4 H locs hQ hS => ?_))
  obtain ⟨⟨rg, hM4⟩, hF4⟩ := hQ
  refine lv_astore_n (lv' := [(2, .ref (ad3 30 0)), (1, .ref (ad1 0 0)), (0, .ref b)]) hx hb dL_law_15 rfl hl (by decide) rfl (fun ls hl => ?_)
  have n4 : ∀ k i, k < 30 ∨ 45 ≤ k ∨ i ≠ 0 → C4 k i = C3 k i := fun k i h => by rw [← hM4, mC_n h]
  have hMM : mC G T00 (nI 0) rg C4 ad4 = C4 := by rw [← hM4, mC_id]
  -- new long[1]
  refine lv_iconst (v := nI 1) hx hb dL_law_16 (by decide) ?_
  refine r_newa (atype := .long) (t0 := 1) (ty := .long) hx hb (arr_l hK) rfl hK.1 rfl hS hA 46 0 (((n4 46 0 (Or.inr (Or.inl (by decide)))).trans (n3 46 0 (by decide))).trans (n2 46 0 (by decide))) (N' := 1) (a0 := (1, .inr (.inl (fun _ => 0)))) (fun _ => rfl) (by decide) rfl (by decide) (Nat.le_of_ble_eq_true rfl) (Nat.le_of_ble_eq_true rfl) dL_law_17 (fun q5 H hS => ?_)
  obtain ⟨C5, hC5⟩ : ∃ z : rC, z = ru C4 46 0 (some (oA G (fun _ => 0))) := ⟨_, rfl⟩
  obtain ⟨ad5, had5⟩ : ∃ z : rA, z = ru ad4 46 0 q5 := ⟨_, rfl⟩
  have hS : rS G.1 (fun q => s.heap.size ≤ q) s.heap (ru C4 46 0 (some (oA G (fun _ => 0)))) (ru ad4 46 0 q5) H locs := hS
  rw [← hC5, ← had5] at hS
  have hq5 : q5 = ad5 46 0 := by rw [had5, ru_e]
  rw [hq5]
  have n5 : ∀ k i, ¬ (k = 46 ∧ i = 0) → C5 k i = C4 k i := fun k i h => by rw [hC5, ru_n h]
  have m5 : ∀ k i, ¬ (k = 46 ∧ i = 0) → ad5 k i = ad4 k i := fun k i h => by rw [had5, ru_n h]
  refine lv_astore_n (lv' := [(3, .ref (ad5 46 0)), (2, .ref (ad3 30 0)), (1, .ref (ad1 0 0)), (0, .ref b)]) hx hb dL_law_19 rfl hl (by decide) rfl (fun ls hl => ?_)
  refine lv_iconst (v := nI 0) hx hb dL_law_20 (by decide) ?_
  refine lv_istore (lv' := [(4, .int (nI 0)), (3, .ref (ad5 46 0)), (2, .ref (ad3 30 0)), (1, .ref (ad1 0 0)), (0, .ref b)]) hx hb dL_law_21 hl (by decide) rfl (fun ls hl => ?_)
  have z30 : ad3 30 0 = ad5 30 0 := ((m5 30 0 (by decide)).trans (hF4 30 0 (Or.inl (by decide)))).symm
  have z00 : ad1 0 0 = ad5 0 0 := ((((m5 0 0 (by decide)).trans (hF4 0 0 (Or.inl (by decide)))).trans (m3 0 0 (by decide))).trans hF2.2).symm
  rw [z30, z00] at hl
  have hI5 : cInv G T00 L' C5 ad5 := hI2.fr (fun k i hk => ⟨((n5 k i (by omega)).trans (n4 k i (Or.inl hk))).trans (n3 k i (by omega)), ((m5 k i (by omega)).trans (hF4 k i (Or.inl (by omega)))).trans (m3 k i (by omega))⟩)
  have hM5 : mC G T00 (nI 0) rg C5 ad5 = C5 := mC_o45 hMM (fun k h1 h2 => n5 k 0 (by omega)) (fun k h1 h2 => m5 k 0 (by omega))
  refine law_loop (G := G) (T := T00) (C := C5) (ad := ad5) (L := L) (xs := xs) ⟨hx, hb, hml, hown, hK, hZ, hX, hbl, hlt, hL⟩ ⟨⟨L', hI5⟩, rst_0, ⟨_, rg, hM5⟩, ⟨fun _ => 0, by rw [hC5, ru_e]⟩, hS, hl⟩ (Nat.le_of_ble_eq_true rfl) (Nat.le_of_ble_eq_true rfl) (fun C' ad' H' locs' ls' hS' => ?_)
  refine lv_iconst (v := 1) hx hb dL_law_1895 (by decide) ?_
  refine va_forget (fun q hq => hS'.2.2.2.2 q hq) ?_
  exact lw_ret hx hb hr hlocks dL_law_1896
