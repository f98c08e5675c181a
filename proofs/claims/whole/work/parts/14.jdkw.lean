/-! the lists' own methods that write (printed by wip/whole/gen/jdk2.py) -/
theorem nul_step {g f : Nat → Option Nat} {z : Nat} (h : ∀ j, g j = if j < z then none else f j) : ∀ j, va_up g z none j = if j < z + 1 then none else f j := by
  intro j
  unfold va_up
  by_cases hj : j = z
  · rw [if_pos hj, if_pos (by omega)]
  · rw [if_neg hj, h]
    by_cases h2 : j < z
    · rw [if_pos h2, if_pos (by omega)]
    · rw [if_neg h2, if_neg (by omega)]
theorem nul_end {g f : Nat → Option Nat} {z n : Nat} (h : ∀ j, g j = if j < z then none else f j) (hz : n ≤ z) (hf : ∀ j, n ≤ j → f j = none) : g = fun _ => none := by
  funext j
  rw [h]
  by_cases h2 : j < z
  · rw [if_pos h2]
  · rw [if_neg h2]
    exact hf j (by omega)

set_option maxHeartbeats 4000000 in
set_option maxRecDepth 100000 in
theorem c_Jxa1e45_init_da8c8 {G : rG} {l : Launch} {C : rC} {ad : rA} {k i : Nat} : rMet G l yJxa1e45_init_da8c8 cJxa1e45_init_da8c8 1 none (rmP 1) [.ref (ad k i)] C ad (rVoid (fun C' ad' => C = C' ∧ ad = ad')) := by
  refine rMet.of (by decide) ?_
  intro p e s m below meth c hx hb hml hr hlocks hown hname hK hZ hS
  have hown : s.vm.findClass RJxa1e45 = some m.cls := hown
  have hA : ∀ q : Nat, s.heap.size ≤ q → (rF C ad s.heap.size) q := rF.new
  refine r_entry _ (Nat.le_of_ble_eq_true rfl) (fun ls hl => ?_)
  have hl : lv_has ls 1 [(0, .ref (ad k i))] := hl
  refine lv_aload_n hx hb dJxa1e45_init_da8c8_0 rfl (lv_at hl 0 rfl) ?_
  refine oi_Jxa1e45_1 hx hb hown hK (by rw [hml]; exact hl.1) dJxa1e45_init_da8c8_1 (Nat.le_of_ble_eq_true rfl) (Nat.le_of_ble_eq_true rfl) ?_
  exact r_vret hx hb hr hlocks hS (⟨rfl, rfl, rfl⟩) (Nat.zero_le _) (Nat.zero_le _) dJxa1e45_init_da8c8_4

set_option maxHeartbeats 4000000 in
set_option maxRecDepth 100000 in
theorem c_Jxc12de_init_da8c8 {G : rG} {l : Launch} {C : rC} {ad : rA} {k i : Nat} {v0 v1 v2 : Value} (h : C k i = some (.inr (0, [v0, v1, v2]))) : rMet G l yJxc12de_init_da8c8 cJxc12de_init_da8c8 1 none (rmP 2) [.ref (ad k i)] C ad (rVoid (fun C' ad' => ru C k i (some (.inr (0, [.int (nI 0), v1, v2]))) = C' ∧ ad = ad')) := by
  refine rMet.of (by decide) ?_
  intro p e s m below meth c hx hb hml hr hlocks hown hname hK hZ hS
  have hown : s.vm.findClass RJxc12de = some m.cls := hown
  have hA : ∀ q : Nat, s.heap.size ≤ q → (rF C ad s.heap.size) q := rF.new
  refine r_entry _ (Nat.le_of_ble_eq_true rfl) (fun ls hl => ?_)
  have hl : lv_has ls 1 [(0, .ref (ad k i))] := hl
  refine lv_aload_n hx hb dJxc12de_init_da8c8_0 rfl (lv_at hl 0 rfl) ?_
  refine cl_Jxc12de_1 hx hb hml hown hK hZ hS hA c_Jxa1e45_init_da8c8 rfl hl.1 (Nat.le_of_ble_eq_true rfl) ⟨Nat.le_of_ble_eq_true rfl, Nat.le_of_ble_eq_true rfl⟩ ⟨Nat.zero_le _, Nat.zero_le _⟩ rfl dJxc12de_init_da8c8_1 (r_kv (fun C' ad' H locs hQ hS => ?_))
  obtain ⟨rfl, rfl⟩ := hQ
  refine lv_aload_n hx hb dJxc12de_init_da8c8_4 rfl (lv_at hl 0 rfl) ?_
  refine lv_iconst (v := nI 0) hx hb dJxc12de_init_da8c8_5 (by decide) ?_
  refine pf_Jxc12de_7 hx hb hown hK hS h rfl rfl (fs' := [.int (nI 0), v1, v2]) (Nat.le_of_ble_eq_true rfl) rfl dJxc12de_init_da8c8_6 (fun H locs hS => ?_)
  exact r_vret hx hb hr hlocks hS (⟨rfl, rfl, rfl⟩) (Nat.zero_le _) (Nat.zero_le _) dJxc12de_init_da8c8_9

set_option maxHeartbeats 4000000 in
set_option maxRecDepth 100000 in
theorem c_Jx4a65c_init_da8c8 {G : rG} {l : Launch} {C : rC} {ad : rA} {k i : Nat} {v0 v1 v2 : Value} (h : C k i = some (.inr (0, [v0, v1, v2]))) : rMet G l yJx4a65c_init_da8c8 cJx4a65c_init_da8c8 1 none (rmP 3) [.ref (ad k i)] C ad (rVoid (fun C' ad' => ru C k i (some (.inr (0, [.int (nI 0), .ref G.2.2, v2]))) = C' ∧ ad = ad')) := by
  refine rMet.of (by decide) ?_
  intro p e s m below meth c hx hb hml hr hlocks hown hname hK hZ hS
  have hown : s.vm.findClass RJx4a65c = some m.cls := hown
  have hA : ∀ q : Nat, s.heap.size ≤ q → (rF C ad s.heap.size) q := rF.new
  refine r_entry _ (Nat.le_of_ble_eq_true rfl) (fun ls hl => ?_)
  have hl : lv_has ls 1 [(0, .ref (ad k i))] := hl
  refine lv_aload_n hx hb dJx4a65c_init_da8c8_0 rfl (lv_at hl 0 rfl) ?_
  refine cl_Jx4a65c_1 hx hb hml hown hK hZ hS hA (c_Jxc12de_init_da8c8 h) rfl hl.1 (Nat.le_of_ble_eq_true rfl) ⟨Nat.le_of_ble_eq_true rfl, Nat.le_of_ble_eq_true rfl⟩ ⟨Nat.zero_le _, Nat.zero_le _⟩ rfl dJx4a65c_init_da8c8_1 (r_kv (fun C' ad' H locs hQ hS => ?_))
  obtain ⟨rfl, rfl⟩ := hQ
  refine lv_aload_n hx hb dJx4a65c_init_da8c8_4 rfl (lv_at hl 0 rfl) ?_
  refine gs_Jx4a65c_39 hx hb hown hK hZ hS dJx4a65c_init_da8c8_5 ?_
  refine pf_Jx4a65c_9 hx hb hown hK hS ru_e rfl rfl (fs' := [.int (nI 0), .ref G.2.2, v2]) (Nat.le_of_ble_eq_true rfl) rfl dJx4a65c_init_da8c8_8 (fun H locs hS => ?_)
  rw [ru_ru] at hS
  exact r_vret hx hb hr hlocks hS (⟨rfl, rfl, rfl⟩) (Nat.zero_le _) (Nat.zero_le _) dJx4a65c_init_da8c8_11

set_option maxHeartbeats 4000000 in
set_option maxRecDepth 100000 in
theorem c_clear0 {G : rG} {l : Launch} {C : rC} {ad : rA} {k i a : Nat} {mc : Int32} (h : C k i = some (alO mc a 0)) : rMet G l yJx4a65c_clear_da8c8 cJx4a65c_clear_da8c8 4 none (rmP 1) [.ref (ad k i)] C ad (rVoid (fun C' ad' => ru C k i (some (alO (mc + nI 1) a 0)) = C' ∧ ad = ad')) := by
  refine rMet.of (by decide) ?_
  intro p e s m below meth c hx hb hml hr hlocks hown hname hK hZ hS
  have hown : s.vm.findClass RJx4a65c = some m.cls := hown
  have hA : ∀ q : Nat, s.heap.size ≤ q → (rF C ad s.heap.size) q := rF.new
  refine r_entry _ (Nat.le_of_ble_eq_true rfl) (fun ls hl => ?_)
  have hl : lv_has ls 4 [(0, .ref (ad k i))] := hl
  refine lv_aload_n hx hb dJx4a65c_clear_da8c8_0 rfl (lv_at hl 0 rfl) ?_
  refine lv_dup hx hb dJx4a65c_clear_da8c8_1 rfl ?_
  refine gf_Jx4a65c_63 hx hb hown hK hS h rfl dJx4a65c_clear_da8c8_2 ?_
  refine lv_iconst (v := nI 1) hx hb dJx4a65c_clear_da8c8_5 (by decide) ?_
  refine lv_iadd hx hb dJx4a65c_clear_da8c8_6 ?_
  refine pf_Jx4a65c_63 hx hb hown hK hS h rfl rfl (fs' := [.int (mc + (nI 1)), .ref a, .int (nI 0)]) (Nat.le_of_ble_eq_true rfl) rfl dJx4a65c_clear_da8c8_7 (fun H locs hS => ?_)
  try rw [ru_ru] at hS
  refine lv_aload_n hx hb dJx4a65c_clear_da8c8_10 rfl (lv_at hl 0 rfl) ?_
  refine gf_Jx4a65c_9 hx hb hown hK hS ru_e rfl dJx4a65c_clear_da8c8_11 ?_
  refine lv_astore_n (lv' := [(1, .ref a), (0, .ref (ad k i))]) hx hb dJx4a65c_clear_da8c8_14 rfl hl (by decide) rfl (fun ls hl => ?_)
  refine lv_aload_n hx hb dJx4a65c_clear_da8c8_15 rfl (lv_at hl 1 rfl) ?_
  refine gf_Jx4a65c_48 hx hb hown hK hS ru_e rfl dJx4a65c_clear_da8c8_16 ?_
  refine lv_istore_n (lv' := [(2, .int (nI 0)), (1, .ref a), (0, .ref (ad k i))]) hx hb dJx4a65c_clear_da8c8_19 rfl hl (by decide) rfl (fun ls hl => ?_)
  refine lv_aload_n hx hb dJx4a65c_clear_da8c8_20 rfl (lv_at hl 2 rfl) ?_
  refine lv_iconst (v := nI 0) hx hb dJx4a65c_clear_da8c8_21 (by decide) ?_
  refine lv_dup_x1 hx hb dJx4a65c_clear_da8c8_22 rfl rfl ?_
  refine pf_Jx4a65c_48 hx hb hown hK hS ru_e rfl rfl (fs' := [.int (mc + (nI 1)), .ref a, .int (nI 0)]) (Nat.le_of_ble_eq_true rfl) rfl dJx4a65c_clear_da8c8_23 (fun H locs hS => ?_)
  try rw [ru_ru] at hS
  refine lv_istore_n (lv' := [(3, .int (nI 0)), (2, .int (nI 0)), (1, .ref a), (0, .ref (ad k i))]) hx hb dJx4a65c_clear_da8c8_26 rfl hl (by decide) rfl (fun ls hl => ?_)
  refine lv_iload_n hx hb dJx4a65c_clear_da8c8_27 rfl (lv_at hl 0 rfl) ?_
  refine lv_iload_n hx hb dJx4a65c_clear_da8c8_28 rfl (lv_at hl 1 rfl) ?_
  refine r_icmp_ge (a := 0) (b := 0) (tgt := 42) hx hb (by decide) (by decide) dJx4a65c_clear_da8c8_29 (by decide) (fun q29 => ?_) (fun q29 => ?_)
  · -- T
    exact r_vret hx hb hr hlocks hS (⟨rfl, rfl, rfl⟩) (Nat.zero_le _) (Nat.zero_le _) dJx4a65c_clear_da8c8_42
  · -- F
    exact absurd q29 (by decide)

set_option maxHeartbeats 4000000 in
set_option maxRecDepth 100000 in
theorem c_clear1 {G : rG} {l : Launch} {C : rC} {ad : rA} {k i n k2 i2 N : Nat} {mc : Int32} {f : Nat → Option Nat} (h : C k i = some (alO mc (ad k2 i2) n)) (h2 : C k2 i2 = some (arO G N f)) (hne : ¬ (k2 = k ∧ i2 = i)) (hN : N < 1000) (hnN : n ≤ N) (hf : ∀ j, n ≤ j → f j = none) : rMet G l yJx4a65c_clear_da8c8 cJx4a65c_clear_da8c8 4 none (rmP 1) [.ref (ad k i)] C ad (rVoid (fun C' ad' => ru (ru C k i (some (alO (mc + nI 1) (ad k2 i2) 0))) k2 i2 (some (arO G N (fun _ => none))) = C' ∧ ad = ad')) := by
  refine rMet.of (by decide) ?_
  intro p e s m below meth c hx hb hml hr hlocks hown hname hK hZ hS
  have hown : s.vm.findClass RJx4a65c = some m.cls := hown
  have hA : ∀ q : Nat, s.heap.size ≤ q → (rF C ad s.heap.size) q := rF.new
  refine r_entry _ (Nat.le_of_ble_eq_true rfl) (fun ls hl => ?_)
  have hl : lv_has ls 4 [(0, .ref (ad k i))] := hl
  refine lv_aload_n hx hb dJx4a65c_clear_da8c8_0 rfl (lv_at hl 0 rfl) ?_
  refine lv_dup hx hb dJx4a65c_clear_da8c8_1 rfl ?_
  refine gf_Jx4a65c_63 hx hb hown hK hS h rfl dJx4a65c_clear_da8c8_2 ?_
  refine lv_iconst (v := nI 1) hx hb dJx4a65c_clear_da8c8_5 (by decide) ?_
  refine lv_iadd hx hb dJx4a65c_clear_da8c8_6 ?_
  refine pf_Jx4a65c_63 hx hb hown hK hS h rfl rfl (fs' := [.int (mc + (nI 1)), .ref (ad k2 i2), .int (nI n)]) (Nat.le_of_ble_eq_true rfl) rfl dJx4a65c_clear_da8c8_7 (fun H locs hS => ?_)
  try rw [ru_ru] at hS
  refine lv_aload_n hx hb dJx4a65c_clear_da8c8_10 rfl (lv_at hl 0 rfl) ?_
  refine gf_Jx4a65c_9 hx hb hown hK hS ru_e rfl dJx4a65c_clear_da8c8_11 ?_
  refine lv_astore_n (lv' := [(1, .ref (ad k2 i2)), (0, .ref (ad k i))]) hx hb dJx4a65c_clear_da8c8_14 rfl hl (by decide) rfl (fun ls hl => ?_)
  refine lv_aload_n hx hb dJx4a65c_clear_da8c8_15 rfl (lv_at hl 1 rfl) ?_
  refine gf_Jx4a65c_48 hx hb hown hK hS ru_e rfl dJx4a65c_clear_da8c8_16 ?_
  refine lv_istore_n (lv' := [(2, .int (nI n)), (1, .ref (ad k2 i2)), (0, .ref (ad k i))]) hx hb dJx4a65c_clear_da8c8_19 rfl hl (by decide) rfl (fun ls hl => ?_)
  refine lv_aload_n hx hb dJx4a65c_clear_da8c8_20 rfl (lv_at hl 2 rfl) ?_
  refine lv_iconst (v := nI 0) hx hb dJx4a65c_clear_da8c8_21 (by decide) ?_
  refine lv_dup_x1 hx hb dJx4a65c_clear_da8c8_22 rfl rfl ?_
  refine pf_Jx4a65c_48 hx hb hown hK hS ru_e rfl rfl (fs' := [.int (mc + (nI 1)), .ref (ad k2 i2), .int (nI 0)]) (Nat.le_of_ble_eq_true rfl) rfl dJx4a65c_clear_da8c8_23 (fun H locs hS => ?_)
  try rw [ru_ru] at hS
  refine lv_istore_n (lv' := [(3, .int (nI 0)), (2, .int (nI n)), (1, .ref (ad k2 i2)), (0, .ref (ad k i))]) hx hb dJx4a65c_clear_da8c8_26 rfl hl (by decide) rfl (fun ls hl => ?_)
  rw [← ru_id (show (ru C k i (some (alO (mc + nI 1) (ad k2 i2) 0))) k2 i2 = some (arO G N f) from (ru_n hne).trans h2)] at hS
  refine r_loop (σ := Nat × (Nat → Option Nat)) (fun z => n - z.1) (fun z H locs ls => (z.1 ≤ n) ∧ (∀ j, z.2 j = if j < z.1 then none else f j) ∧ rS G.1 (rF C ad s.heap.size) s.heap (ru (ru C k i (some (alO (mc + nI 1) (ad k2 i2) 0))) k2 i2 (some (arO G N z.2))) ad H locs ∧ lv_has ls 4 [(3, .int (nI z.1)), (2, .int (nI n)), (1, .ref (ad k2 i2)), (0, .ref (ad k i))]) (fun _ => 0) (fun _ => 0) (fun z ih H locs ls hI => ?_) (0, f) (Nat.zero_le _) (Nat.zero_le _) ⟨Nat.zero_le _, fun j => by simp, hS, lv_sub hl [0, 1, 2, 3] rfl⟩
  obtain ⟨z, rfl⟩ : ∃ y, y = z := ⟨_, rfl⟩
  obtain ⟨hz1, hz2, hS, hl⟩ := hI
  try dsimp only at hz1 hz2 hS hl ih ⊢
  refine lv_iload_n hx hb dJx4a65c_clear_da8c8_27 rfl (lv_at hl 0 rfl) ?_
  refine lv_iload_n hx hb dJx4a65c_clear_da8c8_28 rfl (lv_at hl 1 rfl) ?_
  refine r_icmp_ge (a := z.1) (b := n) (tgt := 42) hx hb (by omega) (by omega) dJx4a65c_clear_da8c8_29 (by decide) (fun q29 => ?_) (fun q29 => ?_)
  · -- T
    rw [nul_end hz2 q29 hf] at hS
    exact r_vret hx hb hr hlocks hS (⟨rfl, rfl, rfl⟩) (Nat.zero_le _) (Nat.zero_le _) dJx4a65c_clear_da8c8_42
  · -- F
    refine lv_aload_n hx hb dJx4a65c_clear_da8c8_32 rfl (lv_at hl 2 rfl) ?_
    refine lv_iload_n hx hb dJx4a65c_clear_da8c8_33 rfl (lv_at hl 0 rfl) ?_
    refine lv_null hx hb dJx4a65c_clear_da8c8_34 ?_
    refine r_aastN hx hb hK.1 hS 2 ru_e rfl (nI_in0 (by omega) (by omega)) (f' := va_up z.2 z.1 none) (by rw [nI_clamp (by omega)]) dJx4a65c_clear_da8c8_35 (fun H locs hS => ?_)
    rw [ru_ru] at hS
    refine lv_iinc (v := nI (z.1 + 1)) (lv' := [(3, .int (nI (z.1 + 1))), (2, .int (nI n)), (1, .ref (ad k2 i2)), (0, .ref (ad k i))]) hx hb dJx4a65c_clear_da8c8_36 hl (k := 0) rfl (nI_inc _) (by decide) rfl (fun ls hl => ?_)
    refine lv_goto (tgt := 27) hx hb dJx4a65c_clear_da8c8_39 (by decide) ?_
    exact ih (z.1 + 1, va_up z.2 z.1 none) (by show n - (z.1 + 1) < n - z.1; omega) _ _ _ ⟨(show z.1 + 1 ≤ n by omega), nul_step hz2, hS, lv_sub hl [0, 1, 2, 3] rfl⟩

set_option maxHeartbeats 4000000 in
set_option maxRecDepth 100000 in
theorem c_add3F {G : rG} {l : Launch} {C : rC} {ad : rA} {k i n k2 i2 N : Nat} {mc : Int32} {f : Nat → Option Nat} (h : C k i = some (alO mc (ad k2 i2) n)) (h2 : C k2 i2 = some (arO G N f)) (hne : ¬ (k2 = k ∧ i2 = i)) (hN : N < 1000) {k1 i1 ci : Nat} {fs : List Value} (hel : C k1 i1 = some (.inr (ci, fs))) (hca : rCa ci) (hn : n < N) : rMet G l yJx4a65c_add_72be8 cJx4a65c_add_72be8 4 none (rmP 1) [.ref (ad k i), .ref (ad k1 i1), .ref (ad k2 i2), .int (nI n)] C ad (rVoid (fun C' ad' => ru (ru C k2 i2 (some (arO G N (va_up f n (some (ad k1 i1)))))) k i (some (alO mc (ad k2 i2) (n + 1))) = C' ∧ ad = ad')) := by
  refine rMet.of (by decide) ?_
  intro p e s m below meth c hx hb hml hr hlocks hown hname hK hZ hS
  have hown : s.vm.findClass RJx4a65c = some m.cls := hown
  have hA : ∀ q : Nat, s.heap.size ≤ q → (rF C ad s.heap.size) q := rF.new
  refine r_entry _ (Nat.le_of_ble_eq_true rfl) (fun ls hl => ?_)
  have hl : lv_has ls 4 [(0, .ref (ad k i)), (1, .ref (ad k1 i1)), (2, .ref (ad k2 i2)), (3, .int (nI n))] := hl
  obtain ⟨r9, hr9, hw9⟩ := hca.nw hK.2.1
  refine lv_iload_n hx hb dJx4a65c_add_72be8_0 rfl (lv_at hl 3 rfl) ?_
  refine lv_aload_n hx hb dJx4a65c_add_72be8_1 rfl (lv_at hl 2 rfl) ?_
  refine r_alen hx hb hK.1 hS 2 h2 rfl (v := nI N) rfl dJx4a65c_add_72be8_2 ?_
  refine r_icmp_ne (a := n) (b := N) (tgt := 11) hx hb (by omega) (by omega) dJx4a65c_add_72be8_3 (by decide) (fun q3 => ?_) (fun q3 => ?_)
  · -- T
    refine lv_aload_n hx hb dJx4a65c_add_72be8_11 rfl (lv_at hl 2 rfl) ?_
    refine lv_iload_n hx hb dJx4a65c_add_72be8_12 rfl (lv_at hl 3 rfl) ?_
    refine lv_aload_n hx hb dJx4a65c_add_72be8_13 rfl (lv_at hl 1 rfl) ?_
    refine r_aast hx hb hK.1 hS 2 h2 rfl hw9 hel hr9 (nI_in0 (by omega) (by omega)) (f' := va_up f n (some (ad k1 i1))) (by rw [nI_clamp (by omega)]) dJx4a65c_add_72be8_14 (fun H locs hS => ?_)
    refine lv_aload_n hx hb dJx4a65c_add_72be8_15 rfl (lv_at hl 0 rfl) ?_
    refine lv_iload_n hx hb dJx4a65c_add_72be8_16 rfl (lv_at hl 3 rfl) ?_
    refine lv_iconst (v := nI 1) hx hb dJx4a65c_add_72be8_17 (by decide) ?_
    refine lv_iadd hx hb dJx4a65c_add_72be8_18 ?_
    refine r_top (nI_add _ _) ?_
    refine pf_Jx4a65c_48 hx hb hown hK hS ((ru_n (fun q => hne ⟨q.1.symm, q.2.symm⟩)).trans h) rfl rfl (fs' := [.int mc, .ref (ad k2 i2), .int (nI (n + 1))]) (Nat.le_of_ble_eq_true rfl) rfl dJx4a65c_add_72be8_19 (fun H locs hS => ?_)
    exact r_vret hx hb hr hlocks hS (⟨rfl, rfl, rfl⟩) (Nat.zero_le _) (Nat.zero_le _) dJx4a65c_add_72be8_22
  · -- F
    exact absurd q3 (by omega)

set_option maxHeartbeats 4000000 in
set_option maxRecDepth 100000 in
theorem c_addF {G : rG} {l : Launch} {C : rC} {ad : rA} {k i n k2 i2 N : Nat} {mc : Int32} {f : Nat → Option Nat} (h : C k i = some (alO mc (ad k2 i2) n)) (h2 : C k2 i2 = some (arO G N f)) (hne : ¬ (k2 = k ∧ i2 = i)) (hN : N < 1000) {k1 i1 ci : Nat} {fs : List Value} (hel : C k1 i1 = some (.inr (ci, fs))) (hca : rCa ci) (hnk : ¬ (k1 = k ∧ i1 = i)) (hnk2 : ¬ (k1 = k2 ∧ i1 = i2)) (hn : n < N) {ms : Nat} : rMet G l yJx4a65c_add_9ea2d cJx4a65c_add_9ea2d 2 (some .boolean) (rmM 8 1 ms) [.ref (ad k i), .ref (ad k1 i1)] C ad (rRet (fun r C' ad' => r = .int (nI 1) ∧ ru (ru C k2 i2 (some (arO G N (va_up f n (some (ad k1 i1)))))) k i (some (alO (mc + nI 1) (ad k2 i2) (n + 1))) = C' ∧ ad = ad')) := by
  refine rMet.of (by decide) ?_
  intro p e s m below meth c hx hb hml hr hlocks hown hname hK hZ hS
  have hown : s.vm.findClass RJx4a65c = some m.cls := hown
  have hA : ∀ q : Nat, s.heap.size ≤ q → (rF C ad s.heap.size) q := rF.new
  refine r_entry _ (Nat.le_of_ble_eq_true rfl) (fun ls hl => ?_)
  have hl : lv_has ls 2 [(0, .ref (ad k i)), (1, .ref (ad k1 i1))] := hl
  refine lv_aload_n hx hb dJx4a65c_add_9ea2d_0 rfl (lv_at hl 0 rfl) ?_
  refine lv_dup hx hb dJx4a65c_add_9ea2d_1 rfl ?_
  refine gf_Jx4a65c_63 hx hb hown hK hS h rfl dJx4a65c_add_9ea2d_2 ?_
  refine lv_iconst (v := nI 1) hx hb dJx4a65c_add_9ea2d_5 (by decide) ?_
  refine lv_iadd hx hb dJx4a65c_add_9ea2d_6 ?_
  refine pf_Jx4a65c_63 hx hb hown hK hS h rfl rfl (fs' := [.int (mc + (nI 1)), .ref (ad k2 i2), .int (nI n)]) (Nat.le_of_ble_eq_true rfl) rfl dJx4a65c_add_9ea2d_7 (fun H locs hS => ?_)
  refine lv_aload_n hx hb dJx4a65c_add_9ea2d_10 rfl (lv_at hl 0 rfl) ?_
  refine lv_aload_n hx hb dJx4a65c_add_9ea2d_11 rfl (lv_at hl 1 rfl) ?_
  refine lv_aload_n hx hb dJx4a65c_add_9ea2d_12 rfl (lv_at hl 0 rfl) ?_
  refine gf_Jx4a65c_9 hx hb hown hK hS ru_e rfl dJx4a65c_add_9ea2d_13 ?_
  refine lv_aload_n hx hb dJx4a65c_add_9ea2d_16 rfl (lv_at hl 0 rfl) ?_
  refine gf_Jx4a65c_48 hx hb hown hK hS ru_e rfl dJx4a65c_add_9ea2d_17 ?_
  refine cl_Jx4a65c_131 hx hb hml hown hK hZ hS hA (c_add3F (C := ru C k i (some (alO (mc + nI 1) (ad k2 i2) n))) ru_e ((ru_n hne).trans h2) hne hN ((ru_n hnk).trans hel) hca hn) ru_e rfl hl.1 (Nat.le_of_ble_eq_true rfl) ⟨Nat.le_of_ble_eq_true rfl, Nat.le_of_ble_eq_true rfl⟩ ⟨Nat.zero_le _, Nat.zero_le _⟩ rfl dJx4a65c_add_9ea2d_20 (r_kv (fun C' ad' H locs hQ hS => ?_))
  obtain ⟨rfl, rfl⟩ := hQ
  rw [ru_cm (fun q => hne ⟨q.1.symm, q.2.symm⟩), ru_ru] at hS
  refine lv_iconst (v := nI 1) hx hb dJx4a65c_add_9ea2d_23 (by decide) ?_
  exact r_zret hx hb hr hlocks hS rfl (⟨_, rfl, rfl, rfl, rfl⟩) (Nat.zero_le _) (Nat.zero_le _) dJx4a65c_add_9ea2d_24
