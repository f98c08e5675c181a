/-! lists that grow (printed by wip/whole/gen/jdk3.py) -/
theorem mx1 {h : Nat} (h1 : 1 ≤ h) (h2 : h < 2 ^ 31) : (if nI 1 < nI h then nI h else nI 1) = nI h := by
  by_cases q : h = 1
  · rw [q]; rfl
  · rw [if_pos (nI_lt (by omega) h2)]
theorem mn1 {a b : Nat} (h : a ≤ b) (h2 : b < 2 ^ 31) : (if nI b < nI a then nI b else nI a) = nI a := if_neg (nI_nlt h h2)
theorem shr1 {n : Nat} (h : n < 2 ^ 31) : nI n >>> (nI 1 &&& 31) = nI (n / 2) := by
  have k := pk_shrN (n := n) h (nI 1 &&& 31) 1 (by decide)
  rw [Nat.pow_one] at k
  exact k
theorem grow_fix {D : va_G} {A : Nat → Prop} {H0 H : Heap} {C : rC} {ad : rA} {locs : List Loc} {k i k2 i2 q : Nat} {x y : va_E} (hS : rS D A H0 (ru (ru C 9 0 (some x)) k i (some y)) (ru ad 9 0 q) H locs) (h9 : C 9 0 = none) (n1 : ¬ (k = 9 ∧ i = 0)) (n2 : ¬ (k2 = 9 ∧ i2 = 0)) (hne : ¬ (k2 = k ∧ i2 = i)) : rS D A H0 (ru (ru C k2 i2 (some x)) k i (some y)) (ru ad k2 i2 q) H locs := by
  have h := hS.ren (k := 9) (i := 0) (a := k2) (b := i2) (e := x) ((ru_n (fun z => n1 ⟨z.1.symm, z.2.symm⟩)).trans ru_e)
  refine h.sub fun a b e he => ?_
  by_cases g1 : a = k ∧ b = i
  · obtain ⟨rfl, rfl⟩ := g1
    rw [ru_e] at he
    refine ⟨?_, ?_⟩
    · rw [ru_n (fun z => hne ⟨z.1.symm, z.2.symm⟩), ru_n n1, ru_e]; exact he
    · rw [ru_n (fun z => hne ⟨z.1.symm, z.2.symm⟩), ru_n (fun z => hne ⟨z.1.symm, z.2.symm⟩), ru_n n1]
  · rw [ru_n g1] at he
    by_cases g2 : a = k2 ∧ b = i2
    · obtain ⟨rfl, rfl⟩ := g2
      rw [ru_e] at he
      refine ⟨?_, ?_⟩
      · rw [ru_e]; exact he
      · rw [ru_e, ru_e, ru_e]
    · rw [ru_n g2] at he
      have g3 : ¬ (a = 9 ∧ b = 0) := by
        rintro ⟨rfl, rfl⟩
        rw [h9] at he
        cases he
      refine ⟨?_, ?_⟩
      · rw [ru_n g2, ru_n g3, ru_n g1, ru_n g3]; exact he
      · rw [ru_n g2, ru_n g2, ru_n g3]

set_option maxHeartbeats 4000000 in
set_option maxRecDepth 100000 in
theorem c_J8_newLength_cabcc {G : rG} {l : Launch} {C : rC} {ad : rA} {N h : Nat} (h1 : 1 ≤ h) (h2 : N + h < 2000) : rMet G l yJ8_newLength_cabcc cJ8_newLength_cabcc 4 (some .int) (rmP 2) [.int (nI N), .int (nI 1), .int (nI h)] C ad (rPure C ad (.int (nI (N + h)))) := by
  refine rMet.of (by decide) ?_
  intro p e s m below meth c hx hb hml hr hlocks hown hname hK hZ hS
  have hown : s.vm.findClass RJ8 = some m.cls := hown
  have hA : ∀ q : Nat, s.heap.size ≤ q → (rF C ad s.heap.size) q := rF.new
  refine r_entry _ (Nat.le_of_ble_eq_true rfl) (fun ls hl => ?_)
  have hl : lv_has ls 4 [(0, .int (nI N)), (1, .int (nI 1)), (2, .int (nI h))] := hl
  refine lv_iload_n hx hb dJ8_newLength_cabcc_0 rfl (lv_at hl 0 rfl) ?_
  refine lv_iload_n hx hb dJ8_newLength_cabcc_1 rfl (lv_at hl 1 rfl) ?_
  refine lv_iload_n hx hb dJ8_newLength_cabcc_2 rfl (lv_at hl 2 rfl) ?_
  refine mx_J8_194 hx hb hown hK (by rw [hml]; exact hl.1.symm) (Nat.le_of_ble_eq_true rfl) (Nat.le_of_ble_eq_true rfl) (Nat.zero_le _) (Nat.zero_le _) dJ8_newLength_cabcc_3 ?_
  refine r_top (y := nI h) (mx1 h1 (by omega)) ?_
  refine lv_iadd hx hb dJ8_newLength_cabcc_6 ?_
  refine r_top (nI_add _ _) ?_
  refine lv_istore_n (lv' := [(3, .int (nI (N + h))), (0, .int (nI N)), (1, .int (nI 1)), (2, .int (nI h))]) hx hb dJ8_newLength_cabcc_7 rfl hl (by decide) rfl (fun ls hl => ?_)
  refine lv_iconst (v := nI 0) hx hb dJ8_newLength_cabcc_8 (by decide) ?_
  refine lv_iload_n hx hb dJ8_newLength_cabcc_9 rfl (lv_at hl 0 rfl) ?_
  refine r_icmp_ge (a := 0) (b := N + h) (tgt := 21) hx hb (by omega) (by omega) dJ8_newLength_cabcc_10 (by decide) (fun q10 => ?_) (fun q10 => ?_)
  · -- T
    exact absurd q10 (by omega)
  · -- F
    refine lv_iload_n hx hb dJ8_newLength_cabcc_13 rfl (lv_at hl 0 rfl) ?_
    refine lc_J8_200 hx hb hown hK dJ8_newLength_cabcc_14 ?_
    refine lv_icmp_gt (tgt := 21) hx hb dJ8_newLength_cabcc_16 (by decide) (fun q16 => ?_) (fun q16 => ?_)
    · -- T
      exact absurd q16 (show ¬ nI 2147483639 < nI (N + h) from nI_nlt (by omega) (by decide))
    · -- F
      refine lv_iload_n hx hb dJ8_newLength_cabcc_19 rfl (lv_at hl 0 rfl) ?_
      exact r_iret hx hb hr hlocks hS (⟨rfl, rfl, rfl⟩) (Nat.zero_le _) (Nat.zero_le _) dJ8_newLength_cabcc_20

set_option maxHeartbeats 4000000 in
set_option maxRecDepth 100000 in
theorem c_copyOf3 {G : rG} {l : Launch} {C : rC} {ad : rA} {k2 i2 N M ci : Nat} {f : Nat → Option Nat} (h2 : C k2 i2 = some (arO G N f)) (h9 : C 9 0 = none) (hn9 : ¬ (k2 = 9 ∧ i2 = 0)) (hNM : N ≤ M) (hM : M < 2000) (hca : rCa ci) (hel : ∀ j y, j < N → f j = some y → ∃ (a b : Nat) (fs : List Value), y = ad a b ∧ C a b = some (.inr (ci, fs))) : rMet G l yJ7_copyOf_6403c cJ7_copyOf_6403c 4 (some (.array (.object "java/lang/Object"))) (rmM 3 1 M) [.ref (ad k2 i2), .int (nI M), .ref (G.2.1 4)] C ad (fun v C' ad' => (∃ q, v = some (.ref q) ∧ ru C 9 0 (some (arO G M (va_cpy f (fun _ => none) 0 0 N))) = C' ∧ ru ad 9 0 q = ad')) := by
  refine rMet.of (by decide) ?_
  intro p e s m below meth c hx hb hml hr hlocks hown hname hK hZ hS
  have hown : s.vm.findClass RJ7 = some m.cls := hown
  have hA : ∀ q : Nat, s.heap.size ≤ q → (rF C ad s.heap.size) q := rF.new
  refine r_entry _ (Nat.le_of_ble_eq_true rfl) (fun ls hl => ?_)
  have hl : lv_has ls 4 [(0, .ref (ad k2 i2)), (1, .int (nI M)), (2, .ref (G.2.1 4))] := hl
  refine lv_aload_n hx hb dJ7_copyOf_6403c_0 rfl (lv_at hl 2 rfl) ?_
  refine r_ldcM hx hb hown hK hK.mi dJ7_copyOf_6403c_1 ?_
  refine r_acmp_ne (tgt := 13) hx hb dJ7_copyOf_6403c_3 (by decide) (fun q3 => ?_) (fun q3 => ?_)
  · -- T
    exact absurd rfl q3
  · -- F
    refine lv_iload_n hx hb dJ7_copyOf_6403c_6 rfl (lv_at hl 1 rfl) ?_
    refine aq_J7_2 hx hb hown hK hS hA 9 0 h9 (N' := M) (nI_pos (by omega)) (nI_clamp (by omega)) (by omega) (Nat.le_of_ble_eq_true rfl) (by show 0 + M ≤ M; omega) dJ7_copyOf_6403c_7 (fun q H hS => ?_)
    obtain ⟨ad2, had2⟩ : ∃ z, z = ru ad 9 0 q := ⟨_, rfl⟩
    rw [← had2] at hS
    have ead20 : ad k2 i2 = ad2 k2 i2 := by rw [had2]; exact (ru_n hn9).symm
    try rw [ead20] at hl
    try rw [ead20]
    have qad2 : q = ad2 9 0 := by rw [had2, ru_e]
    try rw [qad2]
    have h2b : (ru C 9 0 (some (arO G M (fun _ => none)))) k2 i2 = some (arO G N f) := (ru_n hn9).trans h2
    have hel2 : ∀ j y, j < N → f j = some y → ∃ (a b : Nat) (fs : List Value), y = ad2 a b ∧ (ru C 9 0 (some (arO G M (fun _ => none)))) a b = some (.inr (ci, fs)) := by
      intro j y hj hy
      obtain ⟨a, b, fs, e1, e2⟩ := hel j y hj hy
      have h3 : ¬ (a = 9 ∧ b = 0) := by
        rintro ⟨rfl, rfl⟩
        rw [h9] at e2
        cases e2
      exact ⟨a, b, fs, by rw [had2, ru_n h3]; exact e1, (ru_n h3).trans e2⟩
    refine lv_goto (tgt := 24) hx hb dJ7_copyOf_6403c_10 (by decide) ?_
    refine lv_astore_n (lv' := [(3, .ref (ad2 9 0)), (0, .ref (ad2 k2 i2)), (1, .int (nI M)), (2, .ref (G.2.1 4))]) hx hb dJ7_copyOf_6403c_24 rfl hl (by decide) rfl (fun ls hl => ?_)
    refine lv_aload_n hx hb dJ7_copyOf_6403c_25 rfl (lv_at hl 1 rfl) ?_
    refine lv_iconst (v := nI 0) hx hb dJ7_copyOf_6403c_26 (by decide) ?_
    refine lv_aload_n hx hb dJ7_copyOf_6403c_27 rfl (lv_at hl 0 rfl) ?_
    refine lv_iconst (v := nI 0) hx hb dJ7_copyOf_6403c_28 (by decide) ?_
    refine lv_aload_n hx hb dJ7_copyOf_6403c_29 rfl (lv_at hl 1 rfl) ?_
    refine r_alen hx hb hK.1 hS 2 h2b rfl (v := nI N) rfl dJ7_copyOf_6403c_30 ?_
    refine lv_iload_n hx hb dJ7_copyOf_6403c_31 rfl (lv_at hl 2 rfl) ?_
    refine mx_J7_304 hx hb hown hK (by rw [hml]; exact hl.1.symm) (Nat.le_of_ble_eq_true rfl) (Nat.le_of_ble_eq_true rfl) (Nat.le_of_ble_eq_true rfl) (by show 0 + M ≤ M; omega) dJ7_copyOf_6403c_32 ?_
    refine r_top (y := nI N) (mn1 (by omega) (by omega)) ?_
    refine r_copyq hx hb (by rw [hml]; exact hl.1.symm) hown (lk_J7_150 hK.2.1) hK hS h2b ru_e hca (nI_pos (by omega)) (nI_pos (by omega)) (nI_pos (by omega)) (by rw [nI_clamp (by omega), nI_clamp (by omega)]; omega) (by rw [nI_clamp (by omega), nI_clamp (by omega)]; omega) (fun j hj y hy => hel2 _ y (by rw [nI_clamp (by omega)] at hj; rw [nI_clamp (by omega)]; omega) hy) (g' := va_cpy f (fun _ => none) 0 0 N) (by rw [nI_clamp (by omega), nI_clamp (by omega)]) (Nat.le_of_ble_eq_true rfl) (Nat.le_of_ble_eq_true rfl) dJ7_copyOf_6403c_35 (fun H locs hS => ?_)
    rw [ru_ru] at hS
    refine lv_aload_n hx hb dJ7_copyOf_6403c_38 rfl (lv_at hl 0 rfl) ?_
    exact r_aret hx hb hr (Or.inr ⟨_, rfl⟩) hlocks hS (Or.inr ⟨_, rfl⟩) (⟨ad2 9 0, rfl, rfl, by rw [had2]; rw [ru_e]⟩) (Nat.le_of_ble_eq_true rfl) (by show 0 + M ≤ M; omega) dJ7_copyOf_6403c_39

set_option maxHeartbeats 4000000 in
set_option maxRecDepth 100000 in
theorem c_copyOf2 {G : rG} {l : Launch} {C : rC} {ad : rA} {k2 i2 N M ci : Nat} {f : Nat → Option Nat} (h2 : C k2 i2 = some (arO G N f)) (h9 : C 9 0 = none) (hn9 : ¬ (k2 = 9 ∧ i2 = 0)) (hNM : N ≤ M) (hM : M < 2000) (hca : rCa ci) (hel : ∀ j y, j < N → f j = some y → ∃ (a b : Nat) (fs : List Value), y = ad a b ∧ C a b = some (.inr (ci, fs))) : rMet G l yJ7_copyOf_1904c cJ7_copyOf_1904c 2 (some (.array (.object "java/lang/Object"))) (rmM 4 1 M) [.ref (ad k2 i2), .int (nI M)] C ad (fun v C' ad' => (∃ q, v = some (.ref q) ∧ ru C 9 0 (some (arO G M (va_cpy f (fun _ => none) 0 0 N))) = C' ∧ ru ad 9 0 q = ad')) := by
  refine rMet.of (by decide) ?_
  intro p e s m below meth c hx hb hml hr hlocks hown hname hK hZ hS
  have hown : s.vm.findClass RJ7 = some m.cls := hown
  have hA : ∀ q : Nat, s.heap.size ≤ q → (rF C ad s.heap.size) q := rF.new
  refine r_entry _ (Nat.le_of_ble_eq_true rfl) (fun ls hl => ?_)
  have hl : lv_has ls 2 [(0, .ref (ad k2 i2)), (1, .int (nI M))] := hl
  refine lv_aload_n hx hb dJ7_copyOf_1904c_0 rfl (lv_at hl 0 rfl) ?_
  refine lv_iload_n hx hb dJ7_copyOf_1904c_1 rfl (lv_at hl 1 rfl) ?_
  refine lv_aload_n hx hb dJ7_copyOf_1904c_2 rfl (lv_at hl 0 rfl) ?_
  refine r_getC hx hb (by rw [hml]; exact hl.1.symm) hown hK hS h2 hK.mi (Nat.le_of_ble_eq_true rfl) (Nat.le_of_ble_eq_true rfl) dJ7_copyOf_1904c_3 ?_
  refine cl_J7_300 hx hb hml hown hK hZ hS hA (c_copyOf3 h2 h9 hn9 hNM hM hca hel) rfl hl.1 (Nat.le_of_ble_eq_true rfl) ⟨Nat.le_of_ble_eq_true rfl, Nat.le_of_ble_eq_true rfl⟩ ⟨Nat.le_of_ble_eq_true rfl, by show 0 + M ≤ M; omega⟩ rfl dJ7_copyOf_1904c_6 (fun v C' ad' H locs hQ hS => ?_)
  obtain ⟨q, rfl, rfl, rfl⟩ := hQ
  refine W.eq (g2 := F0 m 9 ls [.ref q]) rfl ?_
  exact r_aret hx hb hr (Or.inr ⟨_, rfl⟩) hlocks hS (Or.inr ⟨_, rfl⟩) (⟨q, rfl, rfl, rfl⟩) (Nat.le_of_ble_eq_true rfl) (by show 0 + M ≤ M; omega) dJ7_copyOf_1904c_9

set_option maxHeartbeats 4000000 in
set_option maxRecDepth 100000 in
theorem c_growN {G : rG} {l : Launch} {C : rC} {ad : rA} {k i k2 i2 n N ci : Nat} {mc : Int32} {f : Nat → Option Nat} (h : C k i = some (alO mc (ad k2 i2) n)) (h2 : C k2 i2 = some (arO G N f)) (h9 : C 9 0 = none) (hne : ¬ (k2 = k ∧ i2 = i)) (hn1 : ¬ (k = 9 ∧ i = 0)) (hn9 : ¬ (k2 = 9 ∧ i2 = 0)) (hN2 : 2 ≤ N) (hN : N < 1000) (hca : rCa ci) (hel : ∀ j y, j < N → f j = some y → ∃ (a b : Nat) (fs : List Value), y = ad a b ∧ C a b = some (.inr (ci, fs))) : rMet G l yJx4a65c_grow_92f84 cJx4a65c_grow_92f84 4 (some (.array (.object "java/lang/Object"))) (rmM 5 1 (N + N / 2)) [.ref (ad k i), .int (nI (N + 1))] C ad (fun v C' ad' => (∃ q, v = some (.ref q) ∧ ru (ru C k2 i2 (some (arO G (N + N / 2) (va_cpy f (fun _ => none) 0 0 N)))) k i (some (alO mc q n)) = C' ∧ ru ad k2 i2 q = ad')) := by
  refine rMet.of (by decide) ?_
  intro p e s m below meth c hx hb hml hr hlocks hown hname hK hZ hS
  have hown : s.vm.findClass RJx4a65c = some m.cls := hown
  have hA : ∀ q : Nat, s.heap.size ≤ q → (rF C ad s.heap.size) q := rF.new
  refine r_entry _ (Nat.le_of_ble_eq_true rfl) (fun ls hl => ?_)
  have hl : lv_has ls 4 [(0, .ref (ad k i)), (1, .int (nI (N + 1)))] := hl
  refine lv_aload_n hx hb dJx4a65c_grow_92f84_0 rfl (lv_at hl 0 rfl) ?_
  refine gf_Jx4a65c_9 hx hb hown hK hS h rfl dJx4a65c_grow_92f84_1 ?_
  refine r_alen hx hb hK.1 hS 2 h2 rfl (v := nI N) rfl dJx4a65c_grow_92f84_4 ?_
  refine lv_istore_n (lv' := [(2, .int (nI N)), (0, .ref (ad k i)), (1, .int (nI (N + 1)))]) hx hb dJx4a65c_grow_92f84_5 rfl hl (by decide) rfl (fun ls hl => ?_)
  refine lv_iload_n hx hb dJx4a65c_grow_92f84_6 rfl (lv_at hl 0 rfl) ?_
  refine r_if_gt (a := N) (tgt := 20) hx hb (by omega) dJx4a65c_grow_92f84_7 (by decide) (fun q7 => ?_) (fun q7 => ?_)
  · -- T
    refine lv_iload_n hx hb dJx4a65c_grow_92f84_20 rfl (lv_at hl 0 rfl) ?_
    refine lv_iload_n hx hb dJx4a65c_grow_92f84_21 rfl (lv_at hl 2 rfl) ?_
    refine lv_iload_n hx hb dJx4a65c_grow_92f84_22 rfl (lv_at hl 0 rfl) ?_
    refine lv_isub hx hb dJx4a65c_grow_92f84_23 ?_
    refine r_top (y := nI 1) (by rw [pk_sub (by omega), Nat.add_sub_cancel_left]) ?_
    refine lv_iload_n hx hb dJx4a65c_grow_92f84_24 rfl (lv_at hl 0 rfl) ?_
    refine lv_iconst (v := nI 1) hx hb dJx4a65c_grow_92f84_25 (by decide) ?_
    refine lv_ishr hx hb dJx4a65c_grow_92f84_26 ?_
    refine r_top (y := nI (N / 2)) (shr1 (by omega)) ?_
    refine cl_Jx4a65c_73 hx hb hml hown hK hZ hS hA (c_J8_newLength_cabcc (N := N) (h := N / 2) (by omega) (by omega)) rfl hl.1 (Nat.le_of_ble_eq_true rfl) ⟨Nat.le_of_ble_eq_true rfl, Nat.le_of_ble_eq_true rfl⟩ ⟨Nat.zero_le _, Nat.zero_le _⟩ rfl dJx4a65c_grow_92f84_27 (r_kp (fun H locs hS => ?_))
    refine lv_istore_n (lv' := [(3, .int (nI (N + N / 2))), (2, .int (nI N)), (0, .ref (ad k i)), (1, .int (nI (N + 1)))]) hx hb dJx4a65c_grow_92f84_30 rfl hl (by decide) rfl (fun ls hl => ?_)
    refine lv_aload_n hx hb dJx4a65c_grow_92f84_31 rfl (lv_at hl 2 rfl) ?_
    refine lv_aload_n hx hb dJx4a65c_grow_92f84_32 rfl (lv_at hl 2 rfl) ?_
    refine gf_Jx4a65c_9 hx hb hown hK hS h rfl dJx4a65c_grow_92f84_33 ?_
    refine lv_iload_n hx hb dJx4a65c_grow_92f84_36 rfl (lv_at hl 0 rfl) ?_
    refine cl_Jx4a65c_66 hx hb hml hown hK hZ hS hA (c_copyOf2 (M := (N + N / 2)) h2 h9 hn9 (by omega) (by omega) hca hel) rfl hl.1 (Nat.le_of_ble_eq_true rfl) ⟨Nat.le_of_ble_eq_true rfl, Nat.le_of_ble_eq_true rfl⟩ ⟨Nat.le_of_ble_eq_true rfl, by show 0 + (N + N / 2) ≤ (N + N / 2); omega⟩ rfl dJx4a65c_grow_92f84_37 (fun v C' ad' H locs hQ hS => ?_)
    obtain ⟨q, rfl, rfl, rfl⟩ := hQ
    refine W.eq (g2 := F0 m 40 ls [.ref q, .ref (ad k i)]) rfl ?_
    obtain ⟨ad2, had2⟩ : ∃ z, z = ru ad 9 0 q := ⟨_, rfl⟩
    rw [← had2] at hS
    have ead20 : ad k i = ad2 k i := by rw [had2]; exact (ru_n hn1).symm
    try rw [ead20] at hl
    try rw [ead20]
    have qad2 : q = ad2 9 0 := by rw [had2, ru_e]
    try rw [qad2]
    refine lv_dup_x1 hx hb dJx4a65c_grow_92f84_40 rfl rfl ?_
    refine pf_Jx4a65c_9 hx hb hown hK hS ((ru_n hn1).trans (h.trans (by rw [show ad k2 i2 = ad2 k2 i2 by rw [had2]; exact (ru_n hn9).symm]))) rfl rfl (fs' := [.int mc, .ref (ad2 9 0), .int (nI n)]) (Nat.le_of_ble_eq_true rfl) rfl dJx4a65c_grow_92f84_41 (fun H locs hS => ?_)
    rw [← qad2, had2] at hS
    have hS := grow_fix hS h9 hn1 hn9 hne
    exact r_aret hx hb hr (Or.inr ⟨_, rfl⟩) hlocks hS (Or.inr ⟨_, rfl⟩) (⟨ad2 9 0, rfl, by rw [qad2], by rw [← qad2]⟩) (Nat.le_of_ble_eq_true rfl) (by show 0 + (N + N / 2) ≤ (N + N / 2); omega) dJx4a65c_grow_92f84_44
  · -- F
    exact absurd q7 (by omega)

set_option maxHeartbeats 4000000 in
set_option maxRecDepth 100000 in
theorem c_grow0N {G : rG} {l : Launch} {C : rC} {ad : rA} {k i k2 i2 N ci : Nat} {mc : Int32} {f : Nat → Option Nat} (h : C k i = some (alO mc (ad k2 i2) N)) (h2 : C k2 i2 = some (arO G N f)) (h9 : C 9 0 = none) (hne : ¬ (k2 = k ∧ i2 = i)) (hn1 : ¬ (k = 9 ∧ i = 0)) (hn9 : ¬ (k2 = 9 ∧ i2 = 0)) (hN2 : 2 ≤ N) (hN : N < 1000) (hca : rCa ci) (hel : ∀ j y, j < N → f j = some y → ∃ (a b : Nat) (fs : List Value), y = ad a b ∧ C a b = some (.inr (ci, fs))) : rMet G l yJx4a65c_grow_d5877 cJx4a65c_grow_d5877 1 (some (.array (.object "java/lang/Object"))) (rmM 6 1 (N + N / 2)) [.ref (ad k i)] C ad (fun v C' ad' => (∃ q, v = some (.ref q) ∧ ru (ru C k2 i2 (some (arO G (N + N / 2) (va_cpy f (fun _ => none) 0 0 N)))) k i (some (alO mc q N)) = C' ∧ ru ad k2 i2 q = ad')) := by
  refine rMet.of (by decide) ?_
  intro p e s m below meth c hx hb hml hr hlocks hown hname hK hZ hS
  have hown : s.vm.findClass RJx4a65c = some m.cls := hown
  have hA : ∀ q : Nat, s.heap.size ≤ q → (rF C ad s.heap.size) q := rF.new
  refine r_entry _ (Nat.le_of_ble_eq_true rfl) (fun ls hl => ?_)
  have hl : lv_has ls 1 [(0, .ref (ad k i))] := hl
  refine lv_aload_n hx hb dJx4a65c_grow_d5877_0 rfl (lv_at hl 0 rfl) ?_
  refine lv_aload_n hx hb dJx4a65c_grow_d5877_1 rfl (lv_at hl 0 rfl) ?_
  refine gf_Jx4a65c_48 hx hb hown hK hS h rfl dJx4a65c_grow_d5877_2 ?_
  refine lv_iconst (v := nI 1) hx hb dJx4a65c_grow_d5877_5 (by decide) ?_
  refine lv_iadd hx hb dJx4a65c_grow_d5877_6 ?_
  refine r_top (nI_add _ _) ?_
  refine cl_Jx4a65c_69 hx hb hml hown hK hZ hS hA (c_growN h h2 h9 hne hn1 hn9 hN2 hN hca hel) h rfl hl.1 (Nat.le_of_ble_eq_true rfl) ⟨Nat.le_of_ble_eq_true rfl, Nat.le_of_ble_eq_true rfl⟩ ⟨Nat.le_of_ble_eq_true rfl, by show 0 + (N + N / 2) ≤ (N + N / 2); omega⟩ rfl dJx4a65c_grow_d5877_7 (fun v C' ad' H locs hQ hS => ?_)
  obtain ⟨q, rfl, rfl, rfl⟩ := hQ
  refine W.eq (g2 := F0 m 10 ls [.ref q]) rfl ?_
  exact r_aret hx hb hr (Or.inr ⟨_, rfl⟩) hlocks hS (Or.inr ⟨_, rfl⟩) (⟨q, rfl, rfl, rfl⟩) (Nat.le_of_ble_eq_true rfl) (by show 0 + (N + N / 2) ≤ (N + N / 2); omega) dJx4a65c_grow_d5877_10

set_option maxHeartbeats 4000000 in
set_option maxRecDepth 100000 in
theorem c_growE {G : rG} {l : Launch} {C : rC} {ad : rA} {k i k2 i2 : Nat} {mc : Int32} (h : C k i = some (alO mc G.2.2 0)) (h2 : C k2 i2 = none) (hne : ¬ (k2 = k ∧ i2 = i)) : rMet G l yJx4a65c_grow_92f84 cJx4a65c_grow_92f84 4 (some (.array (.object "java/lang/Object"))) (rmM 2 1 10) [.ref (ad k i), .int (nI 1)] C ad (fun v C' ad' => (∃ q, v = some (.ref q) ∧ ru (ru C k2 i2 (some (arO G 10 (fun _ => none)))) k i (some (alO mc q 0)) = C' ∧ ru ad k2 i2 q = ad')) := by
  refine rMet.of (by decide) ?_
  intro p e s m below meth c hx hb hml hr hlocks hown hname hK hZ hS
  have hown : s.vm.findClass RJx4a65c = some m.cls := hown
  have hA : ∀ q : Nat, s.heap.size ≤ q → (rF C ad s.heap.size) q := rF.new
  refine r_entry _ (Nat.le_of_ble_eq_true rfl) (fun ls hl => ?_)
  have hl : lv_has ls 4 [(0, .ref (ad k i)), (1, .int (nI 1))] := hl
  refine lv_aload_n hx hb dJx4a65c_grow_92f84_0 rfl (lv_at hl 0 rfl) ?_
  refine gf_Jx4a65c_9 hx hb hown hK hS h rfl dJx4a65c_grow_92f84_1 ?_
  refine r_alenE hx hb hK hZ hS dJx4a65c_grow_92f84_4 ?_
  refine lv_istore_n (lv' := [(2, .int (nI 0)), (0, .ref (ad k i)), (1, .int (nI 1))]) hx hb dJx4a65c_grow_92f84_5 rfl hl (by decide) rfl (fun ls hl => ?_)
  refine lv_iload_n hx hb dJx4a65c_grow_92f84_6 rfl (lv_at hl 0 rfl) ?_
  refine r_if_gt (a := 0) (tgt := 20) hx hb (by decide) dJx4a65c_grow_92f84_7 (by decide) (fun q7 => ?_) (fun q7 => ?_)
  · -- T
    exact absurd q7 (by omega)
  · -- F
    refine lv_aload_n hx hb dJx4a65c_grow_92f84_10 rfl (lv_at hl 1 rfl) ?_
    refine gf_Jx4a65c_9 hx hb hown hK hS h rfl dJx4a65c_grow_92f84_11 ?_
    refine gs_Jx4a65c_39 hx hb hown hK hZ hS dJx4a65c_grow_92f84_14 ?_
    refine r_acmp_eq (tgt := 45) hx hb dJx4a65c_grow_92f84_17 (by decide) (fun q17 => ?_) (fun q17 => ?_)
    · -- T
      refine lv_aload_n hx hb dJx4a65c_grow_92f84_45 rfl (lv_at hl 1 rfl) ?_
      refine lv_bipush (v := nI 10) hx hb dJx4a65c_grow_92f84_46 (by decide) ?_
      refine lv_iload_n hx hb dJx4a65c_grow_92f84_48 rfl (lv_at hl 2 rfl) ?_
      refine mx_Jx4a65c_79 hx hb hown hK (by rw [hml]; exact hl.1.symm) (Nat.le_of_ble_eq_true rfl) (Nat.le_of_ble_eq_true rfl) (Nat.zero_le _) (Nat.zero_le _) dJx4a65c_grow_92f84_49 ?_
      refine r_top (y := nI 10) rfl ?_
      refine aq_Jx4a65c_7 hx hb hown hK hS hA k2 i2 h2 (N' := 10) (by decide) (by decide) (by decide) (Nat.le_of_ble_eq_true rfl) (Nat.le_of_ble_eq_true rfl) dJx4a65c_grow_92f84_52 (fun q H hS => ?_)
      obtain ⟨ad2, had2⟩ : ∃ z, z = ru ad k2 i2 q := ⟨_, rfl⟩
      rw [← had2] at hS
      have ead20 : ad k i = ad2 k i := by rw [had2]; exact (ru_n (fun z => hne ⟨z.1.symm, z.2.symm⟩)).symm
      try rw [ead20] at hl
      try rw [ead20]
      have qad2 : q = ad2 k2 i2 := by rw [had2, ru_e]
      try rw [qad2]
      refine lv_dup_x1 hx hb dJx4a65c_grow_92f84_55 rfl rfl ?_
      refine pf_Jx4a65c_9 hx hb hown hK hS ((ru_n (fun z => hne ⟨z.1.symm, z.2.symm⟩)).trans h) rfl rfl (fs' := [.int mc, .ref (ad2 k2 i2), .int (nI 0)]) (Nat.le_of_ble_eq_true rfl) rfl dJx4a65c_grow_92f84_56 (fun H locs hS => ?_)
      exact r_aret hx hb hr (Or.inr ⟨_, rfl⟩) hlocks hS (Or.inr ⟨_, rfl⟩) (⟨ad2 k2 i2, rfl, rfl, by rw [had2]; rw [ru_e]⟩) (Nat.le_of_ble_eq_true rfl) (Nat.le_of_ble_eq_true rfl) dJx4a65c_grow_92f84_59
    · -- F
      exact absurd rfl q17

set_option maxHeartbeats 4000000 in
set_option maxRecDepth 100000 in
theorem c_grow0E {G : rG} {l : Launch} {C : rC} {ad : rA} {k i k2 i2 : Nat} {mc : Int32} (h : C k i = some (alO mc G.2.2 0)) (h2 : C k2 i2 = none) (hne : ¬ (k2 = k ∧ i2 = i)) : rMet G l yJx4a65c_grow_d5877 cJx4a65c_grow_d5877 1 (some (.array (.object "java/lang/Object"))) (rmM 3 1 10) [.ref (ad k i)] C ad (fun v C' ad' => (∃ q, v = some (.ref q) ∧ ru (ru C k2 i2 (some (arO G 10 (fun _ => none)))) k i (some (alO mc q 0)) = C' ∧ ru ad k2 i2 q = ad')) := by
  refine rMet.of (by decide) ?_
  intro p e s m below meth c hx hb hml hr hlocks hown hname hK hZ hS
  have hown : s.vm.findClass RJx4a65c = some m.cls := hown
  have hA : ∀ q : Nat, s.heap.size ≤ q → (rF C ad s.heap.size) q := rF.new
  refine r_entry _ (Nat.le_of_ble_eq_true rfl) (fun ls hl => ?_)
  have hl : lv_has ls 1 [(0, .ref (ad k i))] := hl
  refine lv_aload_n hx hb dJx4a65c_grow_d5877_0 rfl (lv_at hl 0 rfl) ?_
  refine lv_aload_n hx hb dJx4a65c_grow_d5877_1 rfl (lv_at hl 0 rfl) ?_
  refine gf_Jx4a65c_48 hx hb hown hK hS h rfl dJx4a65c_grow_d5877_2 ?_
  refine lv_iconst (v := nI 1) hx hb dJx4a65c_grow_d5877_5 (by decide) ?_
  refine lv_iadd hx hb dJx4a65c_grow_d5877_6 ?_
  refine r_top (nI_add _ _) ?_
  refine cl_Jx4a65c_69 hx hb hml hown hK hZ hS hA (c_growE h h2 hne) h rfl hl.1 (Nat.le_of_ble_eq_true rfl) ⟨Nat.le_of_ble_eq_true rfl, Nat.le_of_ble_eq_true rfl⟩ ⟨Nat.le_of_ble_eq_true rfl, Nat.le_of_ble_eq_true rfl⟩ rfl dJx4a65c_grow_d5877_7 (fun v C' ad' H locs hQ hS => ?_)
  obtain ⟨q, rfl, rfl, rfl⟩ := hQ
  refine W.eq (g2 := F0 m 10 ls [.ref q]) rfl ?_
  exact r_aret hx hb hr (Or.inr ⟨_, rfl⟩) hlocks hS (Or.inr ⟨_, rfl⟩) (⟨q, rfl, rfl, rfl⟩) (Nat.le_of_ble_eq_true rfl) (Nat.le_of_ble_eq_true rfl) dJx4a65c_grow_d5877_10
