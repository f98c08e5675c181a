/-! add with growth, remove (printed by wip/whole/gen/jdk4.py) -/
theorem cpy0 {f : Nat → Option Nat} {x n : Nat} (h : n ≤ x + 1) : va_cpy f f (x + 1) x (n - 1 - x) = f := by
  funext j
  unfold va_cpy
  rw [if_neg (by omega)]
theorem add_fix {C : rC} {k i k2 i2 : Nat} {x y z w : va_E} (hne : ¬ (k2 = k ∧ i2 = i)) : ru (ru (ru (ru (ru C k i (some z)) k2 i2 (some x)) k i (some z)) k2 i2 (some y)) k i (some w) = ru (ru C k2 i2 (some y)) k i (some w) := by
  funext a b
  by_cases h1 : a = k ∧ b = i
  · obtain ⟨rfl, rfl⟩ := h1
    rw [ru_e, ru_e]
  · rw [ru_n h1, ru_n h1]
    by_cases h2 : a = k2 ∧ b = i2
    · obtain ⟨rfl, rfl⟩ := h2
      rw [ru_e, ru_e]
    · rw [ru_n h2, ru_n h2, ru_n h1, ru_n h2, ru_n h1]

set_option maxHeartbeats 4000000 in
set_option maxRecDepth 100000 in
theorem c_add3G {G : rG} {l : Launch} {C : rC} {ad : rA} {k i k2 i2 N ci : Nat} {mc : Int32} {f : Nat → Option Nat} (h : C k i = some (alO mc (ad k2 i2) N)) (h2 : C k2 i2 = some (arO G N f)) (h9 : C 9 0 = none) (hne : ¬ (k2 = k ∧ i2 = i)) (hn1 : ¬ (k = 9 ∧ i = 0)) (hn9 : ¬ (k2 = 9 ∧ i2 = 0)) (hN2 : 2 ≤ N) (hN : N < 1000) (hca : rCa ci) (hel : ∀ j y, j < N → f j = some y → ∃ (a b : Nat) (fs : List Value), y = ad a b ∧ C a b = some (.inr (ci, fs))) {k1 i1 : Nat} {fs : List Value} (hel1 : C k1 i1 = some (.inr (ci, fs))) (hnk : ¬ (k1 = k ∧ i1 = i)) (hnk2 : ¬ (k1 = k2 ∧ i1 = i2)) : rMet G l yJx4a65c_add_72be8 cJx4a65c_add_72be8 4 none (rmM 7 1 (N + N / 2)) [.ref (ad k i), .ref (ad k1 i1), .ref (ad k2 i2), .int (nI N)] C ad (fun v C' ad' => v = none ∧ ∃ q, ru (ru C k2 i2 (some (arO G (N + N / 2) (va_up (va_cpy f (fun _ => none) 0 0 N) N (some (ad k1 i1)))))) k i (some (alO mc q (N + 1))) = C' ∧ ru ad k2 i2 q = ad') := by
  refine rMet.of (by decide) ?_
  intro p e s m below meth c hx hb hml hr hlocks hown hname hK hZ hS
  have hown : s.vm.findClass RJx4a65c = some m.cls := hown
  have hA : ∀ q : Nat, s.heap.size ≤ q → (rF C ad s.heap.size) q := rF.new
  refine r_entry _ (Nat.le_of_ble_eq_true rfl) (fun ls hl => ?_)
  have hl : lv_has ls 4 [(0, .ref (ad k i)), (1, .ref (ad k1 i1)), (2, .ref (ad k2 i2)), (3, .int (nI N))] := hl
  refine lv_iload_n hx hb dJx4a65c_add_72be8_0 rfl (lv_at hl 3 rfl) ?_
  refine lv_aload_n hx hb dJx4a65c_add_72be8_1 rfl (lv_at hl 2 rfl) ?_
  refine r_alen hx hb hK.1 hS 2 h2 rfl (v := nI N) rfl dJx4a65c_add_72be8_2 ?_
  refine r_icmp_ne (a := N) (b := N) (tgt := 11) hx hb (by omega) (by omega) dJx4a65c_add_72be8_3 (by decide) (fun q3 => ?_) (fun q3 => ?_)
  · -- T
    exact absurd rfl q3
  · -- F
    refine lv_aload_n hx hb dJx4a65c_add_72be8_6 rfl (lv_at hl 0 rfl) ?_
    refine cl_Jx4a65c_129 hx hb hml hown hK hZ hS hA (c_grow0N h h2 h9 hne hn1 hn9 hN2 hN hca hel) h rfl hl.1 (Nat.le_of_ble_eq_true rfl) ⟨Nat.le_of_ble_eq_true rfl, Nat.le_of_ble_eq_true rfl⟩ ⟨Nat.le_of_ble_eq_true rfl, by show 0 + (N + N / 2) ≤ (N + N / 2); omega⟩ rfl dJx4a65c_add_72be8_7 (fun v C' ad' H locs hQ hS => ?_)
    obtain ⟨q, rfl, rfl, rfl⟩ := hQ
    refine W.eq (g2 := F0 m 10 ls [.ref q]) rfl ?_
    obtain ⟨ad2, had2⟩ : ∃ z, z = ru ad k2 i2 q := ⟨_, rfl⟩
    rw [← had2] at hS
    have ead20 : ad k i = ad2 k i := by rw [had2]; exact (ru_n (fun z => hne ⟨z.1.symm, z.2.symm⟩)).symm
    try rw [ead20] at hl
    try rw [ead20]
    have ead21 : ad k1 i1 = ad2 k1 i1 := by rw [had2]; exact (ru_n hnk2).symm
    try rw [ead21] at hl
    try rw [ead21]
    have qad2 : q = ad2 k2 i2 := by rw [had2, ru_e]
    try rw [qad2]
    obtain ⟨r9, hr9, hw9⟩ := hca.nw hK.2.1
    refine lv_astore_n (lv' := [(2, .ref (ad2 k2 i2)), (0, .ref (ad2 k i)), (1, .ref (ad2 k1 i1)), (3, .int (nI N))]) hx hb dJx4a65c_add_72be8_10 rfl hl (by decide) rfl (fun ls hl => ?_)
    refine lv_aload_n hx hb dJx4a65c_add_72be8_11 rfl (lv_at hl 0 rfl) ?_
    refine lv_iload_n hx hb dJx4a65c_add_72be8_12 rfl (lv_at hl 3 rfl) ?_
    refine lv_aload_n hx hb dJx4a65c_add_72be8_13 rfl (lv_at hl 2 rfl) ?_
    refine r_aast hx hb hK.1 hS 2 ((ru_n hne).trans ru_e) rfl hw9 ((ru_n hnk).trans ((ru_n hnk2).trans hel1)) hr9 (nI_in0 (by omega) (by omega)) (f' := va_up (va_cpy f (fun _ => none) 0 0 N) N (some (ad k1 i1))) (by rw [nI_clamp (by omega), had2, ru_n hnk2]) dJx4a65c_add_72be8_14 (fun H locs hS => ?_)
    refine lv_aload_n hx hb dJx4a65c_add_72be8_15 rfl (lv_at hl 1 rfl) ?_
    refine lv_iload_n hx hb dJx4a65c_add_72be8_16 rfl (lv_at hl 3 rfl) ?_
    refine lv_iconst (v := nI 1) hx hb dJx4a65c_add_72be8_17 (by decide) ?_
    refine lv_iadd hx hb dJx4a65c_add_72be8_18 ?_
    refine r_top (nI_add _ _) ?_
    refine pf_Jx4a65c_48 hx hb hown hK hS ((ru_n (fun z => hne ⟨z.1.symm, z.2.symm⟩)).trans ru_e) rfl rfl (fs' := [.int mc, .ref q, .int (nI (N + 1))]) (Nat.le_of_ble_eq_true rfl) rfl dJx4a65c_add_72be8_19 (fun H locs hS => ?_)
    have eC : ru (ru (ru (ru C k2 i2 (some (arO G (N + N / 2) (va_cpy f (fun _ => none) 0 0 N)))) k i (some (alO mc q N))) k2 i2 (some (arO G (N + N / 2) (va_up (va_cpy f (fun _ => none) 0 0 N) N (some (ad k1 i1)))))) k i (some (alO mc q (N + 1))) = ru (ru C k2 i2 (some (arO G (N + N / 2) (va_up (va_cpy f (fun _ => none) 0 0 N) N (some (ad k1 i1)))))) k i (some (alO mc q (N + 1))) := by rw [ru_cm (f := ru C k2 i2 _) (fun z => hne ⟨z.1.symm, z.2.symm⟩), ru_ru, ru_ru]
    rw [eC] at hS
    exact r_vret hx hb hr hlocks hS (⟨rfl, q, by rw [had2, ru_n hnk2], by rw [had2]⟩) (Nat.le_of_ble_eq_true rfl) (by show 0 + (N + N / 2) ≤ (N + N / 2); omega) dJx4a65c_add_72be8_22

set_option maxHeartbeats 4000000 in
set_option maxRecDepth 100000 in
theorem c_add3E {G : rG} {l : Launch} {C : rC} {ad : rA} {k i k2 i2 ci : Nat} {mc : Int32} (h : C k i = some (alO mc G.2.2 0)) (h2 : C k2 i2 = none) (hne : ¬ (k2 = k ∧ i2 = i)) (hca : rCa ci) {k1 i1 : Nat} {fs : List Value} (hel1 : C k1 i1 = some (.inr (ci, fs))) (hnk : ¬ (k1 = k ∧ i1 = i)) (hnk2 : ¬ (k1 = k2 ∧ i1 = i2)) : rMet G l yJx4a65c_add_72be8 cJx4a65c_add_72be8 4 none (rmM 4 1 10) [.ref (ad k i), .ref (ad k1 i1), .ref G.2.2, .int (nI 0)] C ad (fun v C' ad' => v = none ∧ ∃ q, ru (ru C k2 i2 (some (arO G 10 (va_up (fun _ => none) 0 (some (ad k1 i1)))))) k i (some (alO mc q (0 + 1))) = C' ∧ ru ad k2 i2 q = ad') := by
  refine rMet.of (by decide) ?_
  intro p e s m below meth c hx hb hml hr hlocks hown hname hK hZ hS
  have hown : s.vm.findClass RJx4a65c = some m.cls := hown
  have hA : ∀ q : Nat, s.heap.size ≤ q → (rF C ad s.heap.size) q := rF.new
  refine r_entry _ (Nat.le_of_ble_eq_true rfl) (fun ls hl => ?_)
  have hl : lv_has ls 4 [(0, .ref (ad k i)), (1, .ref (ad k1 i1)), (2, .ref G.2.2), (3, .int (nI 0))] := hl
  refine lv_iload_n hx hb dJx4a65c_add_72be8_0 rfl (lv_at hl 3 rfl) ?_
  refine lv_aload_n hx hb dJx4a65c_add_72be8_1 rfl (lv_at hl 2 rfl) ?_
  refine r_alenE hx hb hK hZ hS dJx4a65c_add_72be8_2 ?_
  refine r_icmp_ne (a := 0) (b := 0) (tgt := 11) hx hb (by omega) (by omega) dJx4a65c_add_72be8_3 (by decide) (fun q3 => ?_) (fun q3 => ?_)
  · -- T
    exact absurd rfl q3
  · -- F
    refine lv_aload_n hx hb dJx4a65c_add_72be8_6 rfl (lv_at hl 0 rfl) ?_
    refine cl_Jx4a65c_129 hx hb hml hown hK hZ hS hA (c_grow0E h h2 hne) h rfl hl.1 (Nat.le_of_ble_eq_true rfl) ⟨Nat.le_of_ble_eq_true rfl, Nat.le_of_ble_eq_true rfl⟩ ⟨Nat.le_of_ble_eq_true rfl, Nat.le_of_ble_eq_true rfl⟩ rfl dJx4a65c_add_72be8_7 (fun v C' ad' H locs hQ hS => ?_)
    obtain ⟨q, rfl, rfl, rfl⟩ := hQ
    refine W.eq (g2 := F0 m 10 ls [.ref q]) rfl ?_
    obtain ⟨ad2, had2⟩ : ∃ z, z = ru ad k2 i2 q := ⟨_, rfl⟩
    rw [← had2] at hS
    have ead20 : ad k i = ad2 k i := by rw [had2]; exact (ru_n (fun z => hne ⟨z.1.symm, z.2.symm⟩)).symm
    try rw [ead20] at hl
    try rw [ead20]
    have ead21 : ad k1 i1 = ad2 k1 i1 := by rw [had2]; exact (ru_n hnk2).symm
    try rw [ead21] at hl
    try rw [ead21]
    have qad2 : q = ad2 k2 i2 := by rw [had2, ru_e]
    try rw [qad2]
    obtain ⟨r9, hr9, hw9⟩ := hca.nw hK.2.1
    refine lv_astore_n (lv' := [(2, .ref (ad2 k2 i2)), (0, .ref (ad2 k i)), (1, .ref (ad2 k1 i1)), (3, .int (nI 0))]) hx hb dJx4a65c_add_72be8_10 rfl hl (by decide) rfl (fun ls hl => ?_)
    refine lv_aload_n hx hb dJx4a65c_add_72be8_11 rfl (lv_at hl 0 rfl) ?_
    refine lv_iload_n hx hb dJx4a65c_add_72be8_12 rfl (lv_at hl 3 rfl) ?_
    refine lv_aload_n hx hb dJx4a65c_add_72be8_13 rfl (lv_at hl 2 rfl) ?_
    refine r_aast hx hb hK.1 hS 2 ((ru_n hne).trans ru_e) rfl hw9 ((ru_n hnk).trans ((ru_n hnk2).trans hel1)) hr9 (nI_in0 (by omega) (by omega)) (f' := va_up (fun _ => none) 0 (some (ad k1 i1))) (by rw [nI_clamp (by omega), had2, ru_n hnk2]) dJx4a65c_add_72be8_14 (fun H locs hS => ?_)
    refine lv_aload_n hx hb dJx4a65c_add_72be8_15 rfl (lv_at hl 1 rfl) ?_
    refine lv_iload_n hx hb dJx4a65c_add_72be8_16 rfl (lv_at hl 3 rfl) ?_
    refine lv_iconst (v := nI 1) hx hb dJx4a65c_add_72be8_17 (by decide) ?_
    refine lv_iadd hx hb dJx4a65c_add_72be8_18 ?_
    refine r_top (nI_add _ _) ?_
    refine pf_Jx4a65c_48 hx hb hown hK hS ((ru_n (fun z => hne ⟨z.1.symm, z.2.symm⟩)).trans ru_e) rfl rfl (fs' := [.int mc, .ref q, .int (nI (0 + 1))]) (Nat.le_of_ble_eq_true rfl) rfl dJx4a65c_add_72be8_19 (fun H locs hS => ?_)
    have eC : ru (ru (ru (ru C k2 i2 (some (arO G 10 (fun _ => none)))) k i (some (alO mc q 0))) k2 i2 (some (arO G 10 (va_up (fun _ => none) 0 (some (ad k1 i1)))))) k i (some (alO mc q (0 + 1))) = ru (ru C k2 i2 (some (arO G 10 (va_up (fun _ => none) 0 (some (ad k1 i1)))))) k i (some (alO mc q (0 + 1))) := by rw [ru_cm (f := ru C k2 i2 _) (fun z => hne ⟨z.1.symm, z.2.symm⟩), ru_ru, ru_ru]
    rw [eC] at hS
    exact r_vret hx hb hr hlocks hS (⟨rfl, q, by rw [had2, ru_n hnk2], by rw [had2]⟩) (Nat.le_of_ble_eq_true rfl) (Nat.le_of_ble_eq_true rfl) dJx4a65c_add_72be8_22

set_option maxHeartbeats 4000000 in
set_option maxRecDepth 100000 in
theorem c_addG {G : rG} {l : Launch} {C : rC} {ad : rA} {k i k2 i2 N ci : Nat} {mc : Int32} {f : Nat → Option Nat} (h : C k i = some (alO mc (ad k2 i2) N)) (h2 : C k2 i2 = some (arO G N f)) (h9 : C 9 0 = none) (hne : ¬ (k2 = k ∧ i2 = i)) (hn1 : ¬ (k = 9 ∧ i = 0)) (hn9 : ¬ (k2 = 9 ∧ i2 = 0)) (hN2 : 2 ≤ N) (hN : N < 1000) (hca : rCa ci) {ms : Nat} (hms : N + N / 2 ≤ ms) (hci0 : ¬ ci = 0) (hel : ∀ j y, j < N → f j = some y → ∃ (a b : Nat) (fs : List Value), y = ad a b ∧ C a b = some (.inr (ci, fs))) {k1 i1 : Nat} {fs : List Value} (hel1 : C k1 i1 = some (.inr (ci, fs))) (hnk : ¬ (k1 = k ∧ i1 = i)) (hnk2 : ¬ (k1 = k2 ∧ i1 = i2)) : rMet G l yJx4a65c_add_9ea2d cJx4a65c_add_9ea2d 2 (some .boolean) (rmM 8 1 ms) [.ref (ad k i), .ref (ad k1 i1)] C ad (fun v C' ad' => v = some (.int (nI 1)) ∧ ∃ q, ru (ru C k2 i2 (some (arO G (N + N / 2) (va_up (va_cpy f (fun _ => none) 0 0 N) N (some (ad k1 i1)))))) k i (some (alO (mc + nI 1) q (N + 1))) = C' ∧ ru ad k2 i2 q = ad') := by
  refine rMet.of (by decide) ?_
  intro p e s m below meth c hx hb hml hr hlocks hown hname hK hZ hS
  have hown : s.vm.findClass RJx4a65c = some m.cls := hown
  have hA : ∀ q : Nat, s.heap.size ≤ q → (rF C ad s.heap.size) q := rF.new
  refine r_entry _ (Nat.le_of_ble_eq_true rfl) (fun ls hl => ?_)
  have hl : lv_has ls 2 [(0, .ref (ad k i)), (1, .ref (ad k1 i1))] := hl
  refine lv_aload_n hx hb dJx4a65c_add_9ea2d_0 rfl (lv_at hl 0 rfl) ?_
  refine lv_dup hx hb dJx4a65c_add_9ea2d_1 rfl ?_
  refine gf_Jx4a65c_63 hx hb hown hK hS h rfl dJx4a65c_add_9ea2d_2 ?_
  refine lv_iconst (v := nI 1) hx hb dJx4a65c_add_9ea2d_5 (by decide) ?_
  refine lv_iadd hx hb dJx4a65c_add_9ea2d_6 ?_
  refine pf_Jx4a65c_63 hx hb hown hK hS h rfl rfl (fs' := [.int (mc + (nI 1)), .ref (ad k2 i2), .int (nI N)]) (Nat.le_of_ble_eq_true rfl) rfl dJx4a65c_add_9ea2d_7 (fun H locs hS => ?_)
  refine lv_aload_n hx hb dJx4a65c_add_9ea2d_10 rfl (lv_at hl 0 rfl) ?_
  refine lv_aload_n hx hb dJx4a65c_add_9ea2d_11 rfl (lv_at hl 1 rfl) ?_
  refine lv_aload_n hx hb dJx4a65c_add_9ea2d_12 rfl (lv_at hl 0 rfl) ?_
  refine gf_Jx4a65c_9 hx hb hown hK hS ru_e rfl dJx4a65c_add_9ea2d_13 ?_
  refine lv_aload_n hx hb dJx4a65c_add_9ea2d_16 rfl (lv_at hl 0 rfl) ?_
  refine gf_Jx4a65c_48 hx hb hown hK hS ru_e rfl dJx4a65c_add_9ea2d_17 ?_
  refine cl_Jx4a65c_131 hx hb hml hown hK hZ hS hA (c_add3G (C := ru C k i (some (alO (mc + nI 1) (ad k2 i2) N))) ru_e ((ru_n hne).trans h2) ((ru_n (fun z => hn1 ⟨z.1.symm, z.2.symm⟩)).trans h9) hne hn1 hn9 hN2 hN hca (fun j y hj hy => by obtain ⟨a, b, fs9, e1, e2⟩ := hel j y hj hy; exact ⟨a, b, fs9, e1, (ru_n (by rintro ⟨rfl, rfl⟩; rw [h] at e2; cases e2; exact hci0 rfl)).trans e2⟩) ((ru_n hnk).trans hel1) hnk hnk2) ru_e rfl hl.1 (Nat.le_of_ble_eq_true rfl) ⟨Nat.le_of_ble_eq_true rfl, Nat.le_of_ble_eq_true rfl⟩ ⟨Nat.le_of_ble_eq_true rfl, by show 0 + (N + N / 2) ≤ ms; omega⟩ rfl dJx4a65c_add_9ea2d_20 (fun v C' ad' H locs hQ hS => ?_)
  obtain ⟨rfl, q, rfl, rfl⟩ := hQ
  refine W.eq (g2 := F0 m 23 ls []) rfl ?_
  rw [ru_cm (fun z => hne ⟨z.1.symm, z.2.symm⟩), ru_ru] at hS
  refine lv_iconst (v := nI 1) hx hb dJx4a65c_add_9ea2d_23 (by decide) ?_
  exact r_zret hx hb hr hlocks hS rfl (⟨rfl, q, rfl, rfl⟩) (Nat.le_of_ble_eq_true rfl) (by show 0 + (N + N / 2) ≤ ms; omega) dJx4a65c_add_9ea2d_24

set_option maxHeartbeats 4000000 in
set_option maxRecDepth 100000 in
theorem c_addE {G : rG} {l : Launch} {C : rC} {ad : rA} {k i k2 i2 ci : Nat} {mc : Int32} (h : C k i = some (alO mc G.2.2 0)) (h2 : C k2 i2 = none) (hne : ¬ (k2 = k ∧ i2 = i)) (hca : rCa ci) {ms : Nat} (hms : 10 ≤ ms) {k1 i1 : Nat} {fs : List Value} (hel1 : C k1 i1 = some (.inr (ci, fs))) (hnk : ¬ (k1 = k ∧ i1 = i)) (hnk2 : ¬ (k1 = k2 ∧ i1 = i2)) : rMet G l yJx4a65c_add_9ea2d cJx4a65c_add_9ea2d 2 (some .boolean) (rmM 8 1 ms) [.ref (ad k i), .ref (ad k1 i1)] C ad (fun v C' ad' => v = some (.int (nI 1)) ∧ ∃ q, ru (ru C k2 i2 (some (arO G 10 (va_up (fun _ => none) 0 (some (ad k1 i1)))))) k i (some (alO (mc + nI 1) q (0 + 1))) = C' ∧ ru ad k2 i2 q = ad') := by
  refine rMet.of (by decide) ?_
  intro p e s m below meth c hx hb hml hr hlocks hown hname hK hZ hS
  have hown : s.vm.findClass RJx4a65c = some m.cls := hown
  have hA : ∀ q : Nat, s.heap.size ≤ q → (rF C ad s.heap.size) q := rF.new
  refine r_entry _ (Nat.le_of_ble_eq_true rfl) (fun ls hl => ?_)
  have hl : lv_has ls 2 [(0, .ref (ad k i)), (1, .ref (ad k1 i1))] := hl
  refine lv_aload_n hx hb dJx4a65c_add_9ea2d_0 rfl (lv_at hl 0 rfl) ?_
  refine lv_dup hx hb dJx4a65c_add_9ea2d_1 rfl ?_
  refine gf_Jx4a65c_63 hx hb hown hK hS h rfl dJx4a65c_add_9ea2d_2 ?_
  refine lv_iconst (v := nI 1) hx hb dJx4a65c_add_9ea2d_5 (by decide) ?_
  refine lv_iadd hx hb dJx4a65c_add_9ea2d_6 ?_
  refine pf_Jx4a65c_63 hx hb hown hK hS h rfl rfl (fs' := [.int (mc + (nI 1)), .ref G.2.2, .int (nI 0)]) (Nat.le_of_ble_eq_true rfl) rfl dJx4a65c_add_9ea2d_7 (fun H locs hS => ?_)
  refine lv_aload_n hx hb dJx4a65c_add_9ea2d_10 rfl (lv_at hl 0 rfl) ?_
  refine lv_aload_n hx hb dJx4a65c_add_9ea2d_11 rfl (lv_at hl 1 rfl) ?_
  refine lv_aload_n hx hb dJx4a65c_add_9ea2d_12 rfl (lv_at hl 0 rfl) ?_
  refine gf_Jx4a65c_9 hx hb hown hK hS ru_e rfl dJx4a65c_add_9ea2d_13 ?_
  refine lv_aload_n hx hb dJx4a65c_add_9ea2d_16 rfl (lv_at hl 0 rfl) ?_
  refine gf_Jx4a65c_48 hx hb hown hK hS ru_e rfl dJx4a65c_add_9ea2d_17 ?_
  refine cl_Jx4a65c_131 hx hb hml hown hK hZ hS hA (c_add3E (C := ru C k i (some (alO (mc + nI 1) G.2.2 0))) ru_e ((ru_n hne).trans h2) hne hca ((ru_n hnk).trans hel1) hnk hnk2) ru_e rfl hl.1 (Nat.le_of_ble_eq_true rfl) ⟨Nat.le_of_ble_eq_true rfl, Nat.le_of_ble_eq_true rfl⟩ ⟨Nat.le_of_ble_eq_true rfl, by show 0 + 10 ≤ ms; omega⟩ rfl dJx4a65c_add_9ea2d_20 (fun v C' ad' H locs hQ hS => ?_)
  obtain ⟨rfl, q, rfl, rfl⟩ := hQ
  refine W.eq (g2 := F0 m 23 ls []) rfl ?_
  rw [ru_cm (fun z => hne ⟨z.1.symm, z.2.symm⟩), ru_ru] at hS
  refine lv_iconst (v := nI 1) hx hb dJx4a65c_add_9ea2d_23 (by decide) ?_
  exact r_zret hx hb hr hlocks hS rfl (⟨rfl, q, rfl, rfl⟩) (Nat.le_of_ble_eq_true rfl) (by show 0 + 10 ≤ ms; omega) dJx4a65c_add_9ea2d_24

set_option maxHeartbeats 4000000 in
set_option maxRecDepth 100000 in
theorem c_fastRemove {G : rG} {l : Launch} {C : rC} {ad : rA} {k i n k2 i2 N : Nat} {mc : Int32} {f : Nat → Option Nat} (h : C k i = some (alO mc (ad k2 i2) n)) (h2 : C k2 i2 = some (arO G N f)) (hne : ¬ (k2 = k ∧ i2 = i)) (hN : N < 1000) {x ci : Nat} (hxn : x < n) (hnN : n ≤ N) (hca : rCa ci) (hel : ∀ j y, j < n → f j = some y → ∃ (a b : Nat) (fs : List Value), y = ad a b ∧ C a b = some (.inr (ci, fs))) (hci0 : ¬ ci = 0) : rMet G l yJx4a65c_fastRemove_b59b0 cJx4a65c_fastRemove_b59b0 4 none (rmP 3) [.ref (ad k i), .ref (ad k2 i2), .int (nI x)] C ad (rVoid (fun C' ad' => ru (ru C k2 i2 (some (arO G N (va_up (va_cpy f f (x + 1) x (n - 1 - x)) (n - 1) none)))) k i (some (alO (mc + nI 1) (ad k2 i2) (n - 1))) = C' ∧ ad = ad')) := by
  refine rMet.of (by decide) ?_
  intro p e s m below meth c hx hb hml hr hlocks hown hname hK hZ hS
  have hown : s.vm.findClass RJx4a65c = some m.cls := hown
  have hA : ∀ q : Nat, s.heap.size ≤ q → (rF C ad s.heap.size) q := rF.new
  refine r_entry _ (Nat.le_of_ble_eq_true rfl) (fun ls hl => ?_)
  have hl : lv_has ls 4 [(0, .ref (ad k i)), (1, .ref (ad k2 i2)), (2, .int (nI x))] := hl
  refine lv_aload_n hx hb dJx4a65c_fastRemove_b59b0_0 rfl (lv_at hl 0 rfl) ?_
  refine lv_dup hx hb dJx4a65c_fastRemove_b59b0_1 rfl ?_
  refine gf_Jx4a65c_63 hx hb hown hK hS h rfl dJx4a65c_fastRemove_b59b0_2 ?_
  refine lv_iconst (v := nI 1) hx hb dJx4a65c_fastRemove_b59b0_5 (by decide) ?_
  refine lv_iadd hx hb dJx4a65c_fastRemove_b59b0_6 ?_
  refine pf_Jx4a65c_63 hx hb hown hK hS h rfl rfl (fs' := [.int (mc + (nI 1)), .ref (ad k2 i2), .int (nI n)]) (Nat.le_of_ble_eq_true rfl) rfl dJx4a65c_fastRemove_b59b0_7 (fun H locs hS => ?_)
  refine lv_aload_n hx hb dJx4a65c_fastRemove_b59b0_10 rfl (lv_at hl 0 rfl) ?_
  refine gf_Jx4a65c_48 hx hb hown hK hS ru_e rfl dJx4a65c_fastRemove_b59b0_11 ?_
  refine lv_iconst (v := nI 1) hx hb dJx4a65c_fastRemove_b59b0_14 (by decide) ?_
  refine lv_isub hx hb dJx4a65c_fastRemove_b59b0_15 ?_
  refine r_top (y := nI (n - 1)) (pk_sub (by omega)) ?_
  refine lv_dup hx hb dJx4a65c_fastRemove_b59b0_16 rfl ?_
  refine lv_istore_n (lv' := [(3, .int (nI (n - 1))), (0, .ref (ad k i)), (1, .ref (ad k2 i2)), (2, .int (nI x))]) hx hb dJx4a65c_fastRemove_b59b0_17 rfl hl (by decide) rfl (fun ls hl => ?_)
  refine lv_iload_n hx hb dJx4a65c_fastRemove_b59b0_18 rfl (lv_at hl 3 rfl) ?_
  refine r_icmp_le (a := n - 1) (b := x) (tgt := 34) hx hb (by omega) (by omega) dJx4a65c_fastRemove_b59b0_19 (by decide) (fun q19 => ?_) (fun q19 => ?_)
  · -- T
    rw [← ru_id (show (ru C k i (some (alO (mc + nI 1) (ad k2 i2) n))) k2 i2 = some (arO G N (va_cpy f f (x + 1) x (n - 1 - x))) by rw [cpy0 (by omega)]; exact (ru_n hne).trans h2)] at hS
    refine lv_aload_n hx hb dJx4a65c_fastRemove_b59b0_34 rfl (lv_at hl 2 rfl) ?_
    refine lv_aload_n hx hb dJx4a65c_fastRemove_b59b0_35 rfl (lv_at hl 1 rfl) ?_
    refine lv_iload_n hx hb dJx4a65c_fastRemove_b59b0_36 rfl (lv_at hl 0 rfl) ?_
    refine lv_dup_x1 hx hb dJx4a65c_fastRemove_b59b0_37 rfl rfl ?_
    refine pf_Jx4a65c_48 hx hb hown hK hS ((ru_n (fun z => hne ⟨z.1.symm, z.2.symm⟩)).trans ru_e) rfl rfl (fs' := [.int (mc + nI 1), .ref (ad k2 i2), .int (nI (n - 1))]) (Nat.le_of_ble_eq_true rfl) rfl dJx4a65c_fastRemove_b59b0_38 (fun H locs hS => ?_)
    refine lv_null hx hb dJx4a65c_fastRemove_b59b0_41 ?_
    refine r_aastN hx hb hK.1 hS 2 ((ru_n hne).trans ru_e) rfl (nI_in0 (by omega) (by omega)) (f' := va_up (va_cpy f f (x + 1) x (n - 1 - x)) (n - 1) none) (by rw [nI_clamp (by omega)]) dJx4a65c_fastRemove_b59b0_42 (fun H locs hS => ?_)
    rw [ru_cm (f := ru (ru C k i _) k2 i2 _) (fun z => hne ⟨z.1.symm, z.2.symm⟩), ru_ru, ru_cm (f := C) (fun z => hne ⟨z.1.symm, z.2.symm⟩), ru_ru] at hS
    exact r_vret hx hb hr hlocks hS (⟨rfl, rfl, rfl⟩) (Nat.zero_le _) (Nat.zero_le _) dJx4a65c_fastRemove_b59b0_43
  · -- F
    refine lv_aload_n hx hb dJx4a65c_fastRemove_b59b0_22 rfl (lv_at hl 2 rfl) ?_
    refine lv_iload_n hx hb dJx4a65c_fastRemove_b59b0_23 rfl (lv_at hl 3 rfl) ?_
    refine lv_iconst (v := nI 1) hx hb dJx4a65c_fastRemove_b59b0_24 (by decide) ?_
    refine lv_iadd hx hb dJx4a65c_fastRemove_b59b0_25 ?_
    refine r_top (nI_add _ _) ?_
    refine lv_aload_n hx hb dJx4a65c_fastRemove_b59b0_26 rfl (lv_at hl 2 rfl) ?_
    refine lv_iload_n hx hb dJx4a65c_fastRemove_b59b0_27 rfl (lv_at hl 3 rfl) ?_
    refine lv_iload_n hx hb dJx4a65c_fastRemove_b59b0_28 rfl (lv_at hl 0 rfl) ?_
    refine lv_iload_n hx hb dJx4a65c_fastRemove_b59b0_29 rfl (lv_at hl 3 rfl) ?_
    refine lv_isub hx hb dJx4a65c_fastRemove_b59b0_30 ?_
    refine r_top (y := nI (n - 1 - x)) (pk_sub (by omega)) ?_
    refine r_copyq hx hb (by rw [hml]; exact hl.1.symm) hown (lk_Jx4a65c_112 hK.2.1) hK hS ((ru_n hne).trans h2) ((ru_n hne).trans h2) hca (nI_pos (by omega)) (nI_pos (by omega)) (nI_pos (by omega)) (by rw [nI_clamp (by omega), nI_clamp (by omega)]; omega) (by rw [nI_clamp (by omega), nI_clamp (by omega)]; omega) (fun j hj y hy => by rw [nI_clamp (by omega)] at hj hy; obtain ⟨a, b, fs9, e1, e2⟩ := hel _ y (by omega) hy; exact ⟨a, b, fs9, e1, (ru_n (by rintro ⟨rfl, rfl⟩; rw [h] at e2; cases e2; exact hci0 rfl)).trans e2⟩) (g' := va_cpy f f (x + 1) x (n - 1 - x)) (by rw [nI_clamp (by omega), nI_clamp (by omega), nI_clamp (by omega)]) (Nat.le_of_ble_eq_true rfl) (Nat.le_of_ble_eq_true rfl) dJx4a65c_fastRemove_b59b0_31 (fun H locs hS => ?_)
    refine lv_aload_n hx hb dJx4a65c_fastRemove_b59b0_34 rfl (lv_at hl 2 rfl) ?_
    refine lv_aload_n hx hb dJx4a65c_fastRemove_b59b0_35 rfl (lv_at hl 1 rfl) ?_
    refine lv_iload_n hx hb dJx4a65c_fastRemove_b59b0_36 rfl (lv_at hl 0 rfl) ?_
    refine lv_dup_x1 hx hb dJx4a65c_fastRemove_b59b0_37 rfl rfl ?_
    refine pf_Jx4a65c_48 hx hb hown hK hS ((ru_n (fun z => hne ⟨z.1.symm, z.2.symm⟩)).trans ru_e) rfl rfl (fs' := [.int (mc + nI 1), .ref (ad k2 i2), .int (nI (n - 1))]) (Nat.le_of_ble_eq_true rfl) rfl dJx4a65c_fastRemove_b59b0_38 (fun H locs hS => ?_)
    refine lv_null hx hb dJx4a65c_fastRemove_b59b0_41 ?_
    refine r_aastN hx hb hK.1 hS 2 ((ru_n hne).trans ru_e) rfl (nI_in0 (by omega) (by omega)) (f' := va_up (va_cpy f f (x + 1) x (n - 1 - x)) (n - 1) none) (by rw [nI_clamp (by omega)]) dJx4a65c_fastRemove_b59b0_42 (fun H locs hS => ?_)
    rw [ru_cm (f := ru (ru C k i _) k2 i2 _) (fun z => hne ⟨z.1.symm, z.2.symm⟩), ru_ru, ru_cm (f := C) (fun z => hne ⟨z.1.symm, z.2.symm⟩), ru_ru] at hS
    exact r_vret hx hb hr hlocks hS (⟨rfl, rfl, rfl⟩) (Nat.zero_le _) (Nat.zero_le _) dJx4a65c_fastRemove_b59b0_43

set_option maxHeartbeats 4000000 in
set_option maxRecDepth 100000 in
theorem c_remove {G : rG} {l : Launch} {C : rC} {ad : rA} {k i n k2 i2 N : Nat} {mc : Int32} {f : Nat → Option Nat} (h : C k i = some (alO mc (ad k2 i2) n)) (h2 : C k2 i2 = some (arO G N f)) (hne : ¬ (k2 = k ∧ i2 = i)) (hN : N < 1000) {x ci : Nat} (hxn : x < n) (hnN : n ≤ N) (hca : rCa ci) (hel : ∀ j y, j < n → f j = some y → ∃ (a b : Nat) (fs : List Value), y = ad a b ∧ C a b = some (.inr (ci, fs))) (hci0 : ¬ ci = 0) {a9 b9 : Nat} (hfx : f x = some (ad a9 b9)) : rMet G l yJx4a65c_remove_915e3 cJx4a65c_remove_915e3 4 (some (.object "java/lang/Object")) (rmP 4) [.ref (ad k i), .int (nI x)] C ad (rRet (fun r C' ad' => r = .ref (ad a9 b9) ∧ ru (ru C k2 i2 (some (arO G N (va_up (va_cpy f f (x + 1) x (n - 1 - x)) (n - 1) none)))) k i (some (alO (mc + nI 1) (ad k2 i2) (n - 1))) = C' ∧ ad = ad')) := by
  refine rMet.of (by decide) ?_
  intro p e s m below meth c hx hb hml hr hlocks hown hname hK hZ hS
  have hown : s.vm.findClass RJx4a65c = some m.cls := hown
  have hA : ∀ q : Nat, s.heap.size ≤ q → (rF C ad s.heap.size) q := rF.new
  refine r_entry _ (Nat.le_of_ble_eq_true rfl) (fun ls hl => ?_)
  have hl : lv_has ls 4 [(0, .ref (ad k i)), (1, .int (nI x))] := hl
  refine lv_iload_n hx hb dJx4a65c_remove_915e3_0 rfl (lv_at hl 1 rfl) ?_
  refine lv_aload_n hx hb dJx4a65c_remove_915e3_1 rfl (lv_at hl 0 rfl) ?_
  refine gf_Jx4a65c_48 hx hb hown hK hS h rfl dJx4a65c_remove_915e3_2 ?_
  refine cl_Jx4a65c_118 hx hb hml hown hK hZ hS hA (c_J15_checkIndex_7cf53 (a := x) (b := n) hxn (by omega)) rfl hl.1 (Nat.le_of_ble_eq_true rfl) ⟨Nat.le_of_ble_eq_true rfl, Nat.le_of_ble_eq_true rfl⟩ ⟨Nat.zero_le _, Nat.zero_le _⟩ rfl dJx4a65c_remove_915e3_5 (r_kp (fun H locs hS => ?_))
  refine lv_pop hx hb dJx4a65c_remove_915e3_8 rfl ?_
  refine lv_aload_n hx hb dJx4a65c_remove_915e3_9 rfl (lv_at hl 0 rfl) ?_
  refine gf_Jx4a65c_9 hx hb hown hK hS h rfl dJx4a65c_remove_915e3_10 ?_
  refine lv_astore_n (lv' := [(2, .ref (ad k2 i2)), (0, .ref (ad k i)), (1, .int (nI x))]) hx hb dJx4a65c_remove_915e3_13 rfl hl (by decide) rfl (fun ls hl => ?_)
  refine lv_aload_n hx hb dJx4a65c_remove_915e3_14 rfl (lv_at hl 0 rfl) ?_
  refine lv_iload_n hx hb dJx4a65c_remove_915e3_15 rfl (lv_at hl 2 rfl) ?_
  refine r_aald hx hb hK.1 hS 2 h2 rfl (nI_in0 (by omega) (by omega)) (v := .ref (ad a9 b9)) (by rw [nI_clamp (by omega), hfx]; rfl) dJx4a65c_remove_915e3_16 ?_
  refine lv_astore_n (lv' := [(3, .ref (ad a9 b9)), (2, .ref (ad k2 i2)), (0, .ref (ad k i)), (1, .int (nI x))]) hx hb dJx4a65c_remove_915e3_17 rfl hl (by decide) rfl (fun ls hl => ?_)
  refine lv_aload_n hx hb dJx4a65c_remove_915e3_18 rfl (lv_at hl 2 rfl) ?_
  refine lv_aload_n hx hb dJx4a65c_remove_915e3_19 rfl (lv_at hl 1 rfl) ?_
  refine lv_iload_n hx hb dJx4a65c_remove_915e3_20 rfl (lv_at hl 3 rfl) ?_
  refine cl_Jx4a65c_144 hx hb hml hown hK hZ hS hA (c_fastRemove h h2 hne hN hxn hnN hca hel hci0) h rfl hl.1 (Nat.le_of_ble_eq_true rfl) ⟨Nat.le_of_ble_eq_true rfl, Nat.le_of_ble_eq_true rfl⟩ ⟨Nat.zero_le _, Nat.zero_le _⟩ rfl dJx4a65c_remove_915e3_21 (r_kv (fun C' ad' H locs hQ hS => ?_))
  obtain ⟨rfl, rfl⟩ := hQ
  refine lv_aload_n hx hb dJx4a65c_remove_915e3_24 rfl (lv_at hl 0 rfl) ?_
  exact r_aret hx hb hr (Or.inl ⟨_, rfl⟩) hlocks hS (Or.inr ⟨_, rfl⟩) (⟨_, rfl, rfl, rfl, rfl⟩) (Nat.zero_le _) (Nat.zero_le _) dJx4a65c_remove_915e3_25
