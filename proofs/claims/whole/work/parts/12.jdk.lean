/-! the lists' own methods (printed by wip/whole/gen/jdk.py) -/
set_option maxHeartbeats 4000000 in
set_option maxRecDepth 100000 in
theorem c_J3_checkIndex_8e157 {G : rG} {l : Launch} {C : rC} {ad : rA} {a b : Nat} (h : a < b) (hb2 : b < 2 ^ 31) : rMet G l yJ3_checkIndex_8e157 cJ3_checkIndex_8e157 3 (some .int) (rmP 1) [.int (nI a), .int (nI b), .null] C ad (rPure C ad (.int (nI a))) := by
  refine rMet.of (by decide) ?_
  intro p e s m below meth c hx hb hml hr hlocks hown hname hK hZ hS
  have hown : s.vm.findClass RJ3 = some m.cls := hown
  have hA : ∀ q : Nat, s.heap.size ≤ q → (rF C ad s.heap.size) q := rF.new
  refine r_entry _ (Nat.le_of_ble_eq_true rfl) (fun ls hl => ?_)
  have hl : lv_has ls 3 [(0, .int (nI a)), (1, .int (nI b)), (2, .null)] := hl
  refine lv_iload_n hx hb dJ3_checkIndex_8e157_0 rfl (lv_at hl 0 rfl) ?_
  refine lv_if_lt (tgt := 9) hx hb dJ3_checkIndex_8e157_1 (by decide) (fun q1 => ?_) (fun q1 => ?_)
  · -- T
    exact absurd q1 (nI_pos (by omega))
  · -- F
    refine lv_iload_n hx hb dJ3_checkIndex_8e157_4 rfl (lv_at hl 0 rfl) ?_
    refine lv_iload_n hx hb dJ3_checkIndex_8e157_5 rfl (lv_at hl 1 rfl) ?_
    refine r_icmp_lt (a := a) (b := b) (tgt := 16) hx hb (by omega) (by omega) dJ3_checkIndex_8e157_6 (by decide) (fun q6 => ?_) (fun q6 => ?_)
    · -- T
      refine lv_iload_n hx hb dJ3_checkIndex_8e157_16 rfl (lv_at hl 0 rfl) ?_
      exact r_iret hx hb hr hlocks hS (⟨rfl, rfl, rfl⟩) (Nat.zero_le _) (Nat.zero_le _) dJ3_checkIndex_8e157_17
    · -- F
      exact absurd q6 (by omega)

set_option maxHeartbeats 4000000 in
set_option maxRecDepth 100000 in
theorem c_J15_checkIndex_7cf53 {G : rG} {l : Launch} {C : rC} {ad : rA} {a b : Nat} (h : a < b) (hb2 : b < 2 ^ 31) : rMet G l yJ15_checkIndex_7cf53 cJ15_checkIndex_7cf53 2 (some .int) (rmP 2) [.int (nI a), .int (nI b)] C ad (rPure C ad (.int (nI a))) := by
  refine rMet.of (by decide) ?_
  intro p e s m below meth c hx hb hml hr hlocks hown hname hK hZ hS
  have hown : s.vm.findClass RJ15 = some m.cls := hown
  have hA : ∀ q : Nat, s.heap.size ≤ q → (rF C ad s.heap.size) q := rF.new
  refine r_entry _ (Nat.le_of_ble_eq_true rfl) (fun ls hl => ?_)
  have hl : lv_has ls 2 [(0, .int (nI a)), (1, .int (nI b))] := hl
  refine lv_iload_n hx hb dJ15_checkIndex_7cf53_0 rfl (lv_at hl 0 rfl) ?_
  refine lv_iload_n hx hb dJ15_checkIndex_7cf53_1 rfl (lv_at hl 1 rfl) ?_
  refine lv_null hx hb dJ15_checkIndex_7cf53_2 ?_
  refine cl_J15_105 hx hb hml hown hK hZ hS hA (c_J3_checkIndex_8e157 h hb2) rfl hl.1 (Nat.le_of_ble_eq_true rfl) ⟨Nat.le_of_ble_eq_true rfl, Nat.le_of_ble_eq_true rfl⟩ ⟨Nat.zero_le _, Nat.zero_le _⟩ rfl dJ15_checkIndex_7cf53_3 (r_kp (fun H locs hS => ?_))
  exact r_iret hx hb hr hlocks hS (⟨rfl, rfl, rfl⟩) (Nat.zero_le _) (Nat.zero_le _) dJ15_checkIndex_7cf53_6

set_option maxHeartbeats 4000000 in
set_option maxRecDepth 100000 in
theorem c_Jx4a65c_size_8abf5 {G : rG} {l : Launch} {C : rC} {ad : rA} {k i n a : Nat} {mc : Int32} (h : C k i = some (alO mc a n)) : rMet G l yJx4a65c_size_8abf5 cJx4a65c_size_8abf5 1 (some .int) (rmP 1) [.ref (ad k i)] C ad (rPure C ad (.int (nI n))) := by
  refine rMet.of (by decide) ?_
  intro p e s m below meth c hx hb hml hr hlocks hown hname hK hZ hS
  have hown : s.vm.findClass RJx4a65c = some m.cls := hown
  have hA : ∀ q : Nat, s.heap.size ≤ q → (rF C ad s.heap.size) q := rF.new
  refine r_entry _ (Nat.le_of_ble_eq_true rfl) (fun ls hl => ?_)
  have hl : lv_has ls 1 [(0, .ref (ad k i))] := hl
  refine lv_aload_n hx hb dJx4a65c_size_8abf5_0 rfl (lv_at hl 0 rfl) ?_
  refine gf_Jx4a65c_48 hx hb hown hK hS h rfl dJx4a65c_size_8abf5_1 ?_
  exact r_iret hx hb hr hlocks hS (⟨rfl, rfl, rfl⟩) (Nat.zero_le _) (Nat.zero_le _) dJx4a65c_size_8abf5_4

set_option maxHeartbeats 4000000 in
set_option maxRecDepth 100000 in
theorem c_Jx4a65c_isEmpty_aae02 {G : rG} {l : Launch} {C : rC} {ad : rA} {k i n a : Nat} {mc : Int32} (h : C k i = some (alO mc a n)) (hn : n < 2 ^ 31) : rMet G l yJx4a65c_isEmpty_aae02 cJx4a65c_isEmpty_aae02 1 (some .boolean) (rmP 1) [.ref (ad k i)] C ad (rPure C ad (.int (bI (decide (n = 0))))) := by
  refine rMet.of (by decide) ?_
  intro p e s m below meth c hx hb hml hr hlocks hown hname hK hZ hS
  have hown : s.vm.findClass RJx4a65c = some m.cls := hown
  have hA : ∀ q : Nat, s.heap.size ≤ q → (rF C ad s.heap.size) q := rF.new
  refine r_entry _ (Nat.le_of_ble_eq_true rfl) (fun ls hl => ?_)
  have hl : lv_has ls 1 [(0, .ref (ad k i))] := hl
  refine lv_aload_n hx hb dJx4a65c_isEmpty_aae02_0 rfl (lv_at hl 0 rfl) ?_
  refine gf_Jx4a65c_48 hx hb hown hK hS h rfl dJx4a65c_isEmpty_aae02_1 ?_
  refine r_if_ne (a := n) (tgt := 11) hx hb hn dJx4a65c_isEmpty_aae02_4 (by decide) (fun q4 => ?_) (fun q4 => ?_)
  · -- T
    refine lv_iconst (v := nI 0) hx hb dJx4a65c_isEmpty_aae02_11 (by decide) ?_
    exact r_zret hx hb hr hlocks hS rfl (⟨by first | (rw [decide_eq_true q4]; rfl) | (rw [decide_eq_false q4]; rfl), rfl, rfl⟩) (Nat.zero_le _) (Nat.zero_le _) dJx4a65c_isEmpty_aae02_12
  · -- F
    refine lv_iconst (v := nI 1) hx hb dJx4a65c_isEmpty_aae02_7 (by decide) ?_
    refine lv_goto (tgt := 12) hx hb dJx4a65c_isEmpty_aae02_8 (by decide) ?_
    exact r_zret hx hb hr hlocks hS rfl (⟨by first | (rw [decide_eq_true q4]; rfl) | (rw [decide_eq_false q4]; rfl), rfl, rfl⟩) (Nat.zero_le _) (Nat.zero_le _) dJx4a65c_isEmpty_aae02_12

set_option maxHeartbeats 4000000 in
set_option maxRecDepth 100000 in
theorem c_Jx4a65c_elementData_915e3 {G : rG} {l : Launch} {C : rC} {ad : rA} {k i n k2 i2 N : Nat} {mc : Int32} {f : Nat → Option Nat} (h : C k i = some (alO mc (ad k2 i2) n)) (h2 : C k2 i2 = some (arO G N f)) (hN : N < 2 ^ 31) {x : Nat} (hx2 : x < N) : rMet G l yJx4a65c_elementData_915e3 cJx4a65c_elementData_915e3 2 (some (.object "java/lang/Object")) (rmP 1) [.ref (ad k i), .int (nI x)] C ad (rPure C ad (va_rf (f x))) := by
  refine rMet.of (by decide) ?_
  intro p e s m below meth c hx hb hml hr hlocks hown hname hK hZ hS
  have hown : s.vm.findClass RJx4a65c = some m.cls := hown
  have hA : ∀ q : Nat, s.heap.size ≤ q → (rF C ad s.heap.size) q := rF.new
  refine r_entry _ (Nat.le_of_ble_eq_true rfl) (fun ls hl => ?_)
  have hl : lv_has ls 2 [(0, .ref (ad k i)), (1, .int (nI x))] := hl
  refine lv_aload_n hx hb dJx4a65c_elementData_915e3_0 rfl (lv_at hl 0 rfl) ?_
  refine gf_Jx4a65c_9 hx hb hown hK hS h rfl dJx4a65c_elementData_915e3_1 ?_
  refine lv_iload_n hx hb dJx4a65c_elementData_915e3_4 rfl (lv_at hl 1 rfl) ?_
  refine r_aald hx hb hK.1 hS 2 h2 rfl (nI_in0 hx2 hN) (v := va_rf (f x)) (by rw [nI_clamp (by omega)]) dJx4a65c_elementData_915e3_5 ?_
  exact r_aret hx hb hr (Or.inl ⟨_, rfl⟩) hlocks hS (va_rf_or _) (⟨rfl, rfl, rfl⟩) (Nat.zero_le _) (Nat.zero_le _) dJx4a65c_elementData_915e3_6

set_option maxHeartbeats 4000000 in
set_option maxRecDepth 100000 in
theorem c_Jx4a65c_get_915e3 {G : rG} {l : Launch} {C : rC} {ad : rA} {k i n k2 i2 N : Nat} {mc : Int32} {f : Nat → Option Nat} (h : C k i = some (alO mc (ad k2 i2) n)) (h2 : C k2 i2 = some (arO G N f)) (hN : N < 2 ^ 31) {x : Nat} (hx1 : x < n) (hx2 : n ≤ N) : rMet G l yJx4a65c_get_915e3 cJx4a65c_get_915e3 2 (some (.object "java/lang/Object")) (rmP 3) [.ref (ad k i), .int (nI x)] C ad (rPure C ad (va_rf (f x))) := by
  refine rMet.of (by decide) ?_
  intro p e s m below meth c hx hb hml hr hlocks hown hname hK hZ hS
  have hown : s.vm.findClass RJx4a65c = some m.cls := hown
  have hA : ∀ q : Nat, s.heap.size ≤ q → (rF C ad s.heap.size) q := rF.new
  refine r_entry _ (Nat.le_of_ble_eq_true rfl) (fun ls hl => ?_)
  have hl : lv_has ls 2 [(0, .ref (ad k i)), (1, .int (nI x))] := hl
  refine lv_iload_n hx hb dJx4a65c_get_915e3_0 rfl (lv_at hl 1 rfl) ?_
  refine lv_aload_n hx hb dJx4a65c_get_915e3_1 rfl (lv_at hl 0 rfl) ?_
  refine gf_Jx4a65c_48 hx hb hown hK hS h rfl dJx4a65c_get_915e3_2 ?_
  refine cl_Jx4a65c_118 hx hb hml hown hK hZ hS hA (c_J15_checkIndex_7cf53 hx1 (by omega)) rfl hl.1 (Nat.le_of_ble_eq_true rfl) ⟨Nat.le_of_ble_eq_true rfl, Nat.le_of_ble_eq_true rfl⟩ ⟨Nat.zero_le _, Nat.zero_le _⟩ rfl dJx4a65c_get_915e3_5 (r_kp (fun H locs hS => ?_))
  refine lv_pop hx hb dJx4a65c_get_915e3_8 rfl ?_
  refine lv_aload_n hx hb dJx4a65c_get_915e3_9 rfl (lv_at hl 0 rfl) ?_
  refine lv_iload_n hx hb dJx4a65c_get_915e3_10 rfl (lv_at hl 1 rfl) ?_
  refine cl_Jx4a65c_123 hx hb hml hown hK hZ hS hA (c_Jx4a65c_elementData_915e3 h h2 hN (show x < N by omega)) h rfl hl.1 (Nat.le_of_ble_eq_true rfl) ⟨Nat.le_of_ble_eq_true rfl, Nat.le_of_ble_eq_true rfl⟩ ⟨Nat.zero_le _, Nat.zero_le _⟩ rfl dJx4a65c_get_915e3_11 (r_kp (fun H locs hS => ?_))
  exact r_aret hx hb hr (Or.inl ⟨_, rfl⟩) hlocks hS (va_rf_or _) (⟨rfl, rfl, rfl⟩) (Nat.zero_le _) (Nat.zero_le _) dJx4a65c_get_915e3_14
