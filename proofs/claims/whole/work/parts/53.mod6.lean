/-! the model made (printed by wip/whole/gen/mod6.py) -/
def Tzz : rTab := fun _ _ => 0
def Tfr (n : Nat) : rTab := fun a b => if a = 11 ∧ b < n then 50 else 0
theorem Tfr_0 : Tfr 0 = Tzz := funext fun a => funext fun b => if_neg fun z => Nat.not_lt_zero _ z.2
theorem Tfr_8 : Tfr 8 = T00 := rfl
theorem Tfr_s {n : Nat} : ru (Tfr n) 11 n 50 = Tfr (n + 1) := by
  funext a b
  unfold Tfr ru
  dsimp only
  by_cases e : a = 11 ∧ b = n
  · rw [if_pos e, if_pos ⟨e.1, by omega⟩]
  · rw [if_neg e]
    by_cases g : a = 11 ∧ b < n
    · rw [if_pos g, if_pos ⟨g.1, by omega⟩]
    · rw [if_neg g, if_neg (fun z => g ⟨z.1, by omega⟩)]
def szM (k : Nat) : Nat := if k < 35 then 16 else if k < 40 then 150 else if k < 42 then 8 else if k < 43 then 60 else if k < 44 then 240 else 4
/-- behind so many arrays -/
def iniM (G : rG) (m : Nat) (C C' : rC) : Prop := (∀ k i, k < 30 ∨ 45 ≤ k ∨ i ≠ 0 → C' k i = C k i) ∧ (∀ k, 31 ≤ k → k < 31 + m → C' k 0 = mA G (szM k) (fun _ => nI 0)) ∧ ∀ k, 31 + m ≤ k → k < 45 → C' k 0 = none
theorem iniM.next {G : rG} {m : Nat} {C C' : rC} (h : iniM G m C C') {e : Option va_E} (hm : m < 14) : iniM G (m + 1) C (ru (ru C' (31 + m) 0 (mA G (szM (31 + m)) (fun _ => nI 0))) 30 0 e) := by
  refine ⟨fun k i hk => ?_, fun k h1 h2 => ?_, fun k h1 h2 => ?_⟩
  · rw [ru_n (fun z => by omega), ru_n (fun z => by omega)]
    exact h.1 k i hk
  · rw [ru_k (by omega)]
    by_cases e : k = 31 + m
    · rw [e, ru_e]
    · rw [ru_k e]
      exact h.2.1 k h1 (by omega)
  · rw [ru_k (by omega), ru_k (by omega)]
    exact h.2.2 k (by omega) h2
theorem ha0 (n : Nat) : ∀ cA : ClassId, vp_cell cA (n, .inl (fun _ => nI 0)) = arrV cA n (fun _ => defaultValue .int) := by
  intro cA
  rw [nI_0]
  rfl
theorem arr_i {U : State} {G : rG} (h : rK G U) {a : Array Value} : (Cond.arrayClass .int).before a U = true := word_at (State.WarmedH.refl U) (Or.inr ⟨_, rfl⟩) h.2.2.2.2.1
theorem arr_l {U : State} {G : rG} (h : rK G U) {a : Array Value} : (Cond.arrayClass .long).before a U = true := word_at (State.WarmedH.refl U) (Or.inr ⟨_, rfl⟩) h.2.2.2.2.2.1

set_option maxHeartbeats 4000000 in
set_option maxRecDepth 100000 in
theorem c_X5_init {G : rG} {l : Launch} {C : rC} {ad : rA} (h30 : C 30 0 = (some (.inr (6, [.int 0, .null, .null, .null, .null, .int 0, .null, .null, .null, .null, .null, .null, .null, .int 0, .null, .null, .null, .int 0])))) (hno : ∀ k, 31 ≤ k → k < 45 → C k 0 = none) : rMet G l yX5_init cX5_init 2 none (rmM 2 14 1134) [.ref (ad 30 0)] C ad (rVoid fun C' ad' => (∃ rg', mC G T00 (nI 0) rg' C ad' = C') ∧ ∀ a b, a < 31 ∨ 45 ≤ a ∨ b ≠ 0 → ad' a b = ad a b) := by
  refine rMet.of (by decide) ?_
  intro p e s m below meth c hx hb hml hr hlocks hown hname hK hZ hS
  have hown : s.vm.findClass RX5 = some m.cls := hown
  have hA : ∀ q : Nat, s.heap.size ≤ q → (rF C ad s.heap.size) q := rF.new
  refine r_entry _ (Nat.le_of_ble_eq_true rfl) (fun ls hl => ?_)
  have hl : lv_has ls 2 [(0, .ref (ad 30 0))] := hl
  have h30_0 := h30
  have hM0 : iniM G 0 C C := ⟨fun _ _ _ => rfl, fun k h1 h2 => by omega, fun k h1 h2 => hno k (by omega) h2⟩
  refine lv_aload_n hx hb dX5_init_0 rfl (lv_at hl 0 rfl) ?_
  refine oi_X5_1 hx hb hown hK (by rw [hml]; exact hl.1) dX5_init_1 (Nat.le_of_ble_eq_true rfl) (Nat.le_of_ble_eq_true rfl) ?_
  refine lv_aload_n hx hb dX5_init_4 rfl (lv_at hl 0 rfl) ?_
  refine lv_bipush (v := nI 16) hx hb dX5_init_5 (by decide) ?_
  refine r_newa (atype := .int) (t0 := 0) (ty := .int) (N' := 16) (a0 := (16, .inl (fun _ => nI 0))) hx hb (arr_i hK) rfl hK.1 rfl hS hA 31 0 (hM0.2.2 31 (by decide) (by decide)) (ha0 16) (nI_pos (by omega)) (nI_clamp (by omega)) (Nat.le_of_ble_eq_true rfl) (by dsimp only [rmM, rmP]; omega) (by dsimp only [rmM, rmP]; omega) dX5_init_7 (fun q0a H hS => ?_)
  obtain ⟨ad0z, had0z⟩ : ∃ z, z = ru ad 31 0 q0a := ⟨_, rfl⟩
  rw [← had0z] at hS
  have ead0z0 : ad 30 0 = ad0z 30 0 := by rw [had0z]; exact (ru_n (fun z => absurd z.1 (by decide))).symm
  try rw [ead0z0] at hl
  try rw [ead0z0]
  have qad0z : q0a = ad0z 31 0 := by rw [had0z, ru_e]
  try rw [qad0z]
  refine pf_X5_7 hx hb hown hK hS hname ((ru_k (by decide)).trans h30_0) rfl rfl (fs' := [.int 0, .ref (ad0z 31 0), .null, .null, .null, .int 0, .null, .null, .null, .null, .null, .null, .null, .int 0, .null, .null, .null, .int 0]) (Nat.le_of_ble_eq_true rfl) rfl dX5_init_9 (fun H locs hS => ?_)
  obtain ⟨C1z, hC1z⟩ : ∃ z, z = ru (ru C 31 0 (mA G 16 (fun _ => nI 0))) 30 0 (some (.inr (6, [.int 0, .ref (ad0z 31 0), .null, .null, .null, .int 0, .null, .null, .null, .null, .null, .null, .null, .int 0, .null, .null, .null, .int 0]))) := ⟨_, rfl⟩
  rw [← hC1z] at hS
  have hM1 : iniM G 1 C C1z := by rw [hC1z]; exact hM0.next (by decide)
  have h30_1 : C1z 30 0 = (some (.inr (6, [.int 0, .ref (ad0z 31 0), .null, .null, .null, .int 0, .null, .null, .null, .null, .null, .null, .null, .int 0, .null, .null, .null, .int 0]))) := by rw [hC1z]; exact ru_e
  refine lv_aload_n hx hb dX5_init_12 rfl (lv_at hl 0 rfl) ?_
  refine lv_bipush (v := nI 16) hx hb dX5_init_13 (by decide) ?_
  refine r_newa (atype := .int) (t0 := 0) (ty := .int) (N' := 16) (a0 := (16, .inl (fun _ => nI 0))) hx hb (arr_i hK) rfl hK.1 rfl hS hA 32 0 (hM1.2.2 32 (by decide) (by decide)) (ha0 16) (nI_pos (by omega)) (nI_clamp (by omega)) (Nat.le_of_ble_eq_true rfl) (by dsimp only [rmM, rmP]; omega) (by dsimp only [rmM, rmP]; omega) dX5_init_15 (fun q1a H hS => ?_)
  obtain ⟨ad1z, had1z⟩ : ∃ z, z = ru ad0z 32 0 q1a := ⟨_, rfl⟩
  rw [← had1z] at hS
  have ead1z0 : ad0z 30 0 = ad1z 30 0 := by rw [had1z]; exact (ru_n (fun z => absurd z.1 (by decide))).symm
  try rw [ead1z0] at hl
  try rw [ead1z0]
  have qad1z : q1a = ad1z 32 0 := by rw [had1z, ru_e]
  try rw [qad1z]
  refine pf_X5_13 hx hb hown hK hS hname ((ru_k (by decide)).trans h30_1) rfl rfl (fs' := [.int 0, .ref (ad0z 31 0), .ref (ad1z 32 0), .null, .null, .int 0, .null, .null, .null, .null, .null, .null, .null, .int 0, .null, .null, .null, .int 0]) (Nat.le_of_ble_eq_true rfl) rfl dX5_init_17 (fun H locs hS => ?_)
  obtain ⟨C2z, hC2z⟩ : ∃ z, z = ru (ru C1z 32 0 (mA G 16 (fun _ => nI 0))) 30 0 (some (.inr (6, [.int 0, .ref (ad0z 31 0), .ref (ad1z 32 0), .null, .null, .int 0, .null, .null, .null, .null, .null, .null, .null, .int 0, .null, .null, .null, .int 0]))) := ⟨_, rfl⟩
  rw [← hC2z] at hS
  have hM2 : iniM G 2 C C2z := by rw [hC2z]; exact hM1.next (by decide)
  have h30_2 : C2z 30 0 = (some (.inr (6, [.int 0, .ref (ad0z 31 0), .ref (ad1z 32 0), .null, .null, .int 0, .null, .null, .null, .null, .null, .null, .null, .int 0, .null, .null, .null, .int 0]))) := by rw [hC2z]; exact ru_e
  refine lv_aload_n hx hb dX5_init_20 rfl (lv_at hl 0 rfl) ?_
  refine lv_bipush (v := nI 16) hx hb dX5_init_21 (by decide) ?_
  refine r_newa (atype := .int) (t0 := 0) (ty := .int) (N' := 16) (a0 := (16, .inl (fun _ => nI 0))) hx hb (arr_i hK) rfl hK.1 rfl hS hA 33 0 (hM2.2.2 33 (by decide) (by decide)) (ha0 16) (nI_pos (by omega)) (nI_clamp (by omega)) (Nat.le_of_ble_eq_true rfl) (by dsimp only [rmM, rmP]; omega) (by dsimp only [rmM, rmP]; omega) dX5_init_23 (fun q2a H hS => ?_)
  obtain ⟨ad2z, had2z⟩ : ∃ z, z = ru ad1z 33 0 q2a := ⟨_, rfl⟩
  rw [← had2z] at hS
  have ead2z0 : ad1z 30 0 = ad2z 30 0 := by rw [had2z]; exact (ru_n (fun z => absurd z.1 (by decide))).symm
  try rw [ead2z0] at hl
  try rw [ead2z0]
  have qad2z : q2a = ad2z 33 0 := by rw [had2z, ru_e]
  try rw [qad2z]
  refine pf_X5_16 hx hb hown hK hS hname ((ru_k (by decide)).trans h30_2) rfl rfl (fs' := [.int 0, .ref (ad0z 31 0), .ref (ad1z 32 0), .ref (ad2z 33 0), .null, .int 0, .null, .null, .null, .null, .null, .null, .null, .int 0, .null, .null, .null, .int 0]) (Nat.le_of_ble_eq_true rfl) rfl dX5_init_25 (fun H locs hS => ?_)
  obtain ⟨C3z, hC3z⟩ : ∃ z, z = ru (ru C2z 33 0 (mA G 16 (fun _ => nI 0))) 30 0 (some (.inr (6, [.int 0, .ref (ad0z 31 0), .ref (ad1z 32 0), .ref (ad2z 33 0), .null, .int 0, .null, .null, .null, .null, .null, .null, .null, .int 0, .null, .null, .null, .int 0]))) := ⟨_, rfl⟩
  rw [← hC3z] at hS
  have hM3 : iniM G 3 C C3z := by rw [hC3z]; exact hM2.next (by decide)
  have h30_3 : C3z 30 0 = (some (.inr (6, [.int 0, .ref (ad0z 31 0), .ref (ad1z 32 0), .ref (ad2z 33 0), .null, .int 0, .null, .null, .null, .null, .null, .null, .null, .int 0, .null, .null, .null, .int 0]))) := by rw [hC3z]; exact ru_e
  refine lv_aload_n hx hb dX5_init_28 rfl (lv_at hl 0 rfl) ?_
  refine lv_bipush (v := nI 16) hx hb dX5_init_29 (by decide) ?_
  refine r_newa (atype := .int) (t0 := 0) (ty := .int) (N' := 16) (a0 := (16, .inl (fun _ => nI 0))) hx hb (arr_i hK) rfl hK.1 rfl hS hA 34 0 (hM3.2.2 34 (by decide) (by decide)) (ha0 16) (nI_pos (by omega)) (nI_clamp (by omega)) (Nat.le_of_ble_eq_true rfl) (by dsimp only [rmM, rmP]; omega) (by dsimp only [rmM, rmP]; omega) dX5_init_31 (fun q3a H hS => ?_)
  obtain ⟨ad3z, had3z⟩ : ∃ z, z = ru ad2z 34 0 q3a := ⟨_, rfl⟩
  rw [← had3z] at hS
  have ead3z0 : ad2z 30 0 = ad3z 30 0 := by rw [had3z]; exact (ru_n (fun z => absurd z.1 (by decide))).symm
  try rw [ead3z0] at hl
  try rw [ead3z0]
  have qad3z : q3a = ad3z 34 0 := by rw [had3z, ru_e]
  try rw [qad3z]
  refine pf_X5_19 hx hb hown hK hS hname ((ru_k (by decide)).trans h30_3) rfl rfl (fs' := [.int 0, .ref (ad0z 31 0), .ref (ad1z 32 0), .ref (ad2z 33 0), .ref (ad3z 34 0), .int 0, .null, .null, .null, .null, .null, .null, .null, .int 0, .null, .null, .null, .int 0]) (Nat.le_of_ble_eq_true rfl) rfl dX5_init_33 (fun H locs hS => ?_)
  obtain ⟨C4z, hC4z⟩ : ∃ z, z = ru (ru C3z 34 0 (mA G 16 (fun _ => nI 0))) 30 0 (some (.inr (6, [.int 0, .ref (ad0z 31 0), .ref (ad1z 32 0), .ref (ad2z 33 0), .ref (ad3z 34 0), .int 0, .null, .null, .null, .null, .null, .null, .null, .int 0, .null, .null, .null, .int 0]))) := ⟨_, rfl⟩
  rw [← hC4z] at hS
  have hM4 : iniM G 4 C C4z := by rw [hC4z]; exact hM3.next (by decide)
  have h30_4 : C4z 30 0 = (some (.inr (6, [.int 0, .ref (ad0z 31 0), .ref (ad1z 32 0), .ref (ad2z 33 0), .ref (ad3z 34 0), .int 0, .null, .null, .null, .null, .null, .null, .null, .int 0, .null, .null, .null, .int 0]))) := by rw [hC4z]; exact ru_e
  refine lv_aload_n hx hb dX5_init_36 rfl (lv_at hl 0 rfl) ?_
  refine lv_sipush (v := nI 150) hx hb dX5_init_37 (by decide) ?_
  refine r_newa (atype := .int) (t0 := 0) (ty := .int) (N' := 150) (a0 := (150, .inl (fun _ => nI 0))) hx hb (arr_i hK) rfl hK.1 rfl hS hA 35 0 (hM4.2.2 35 (by decide) (by decide)) (ha0 150) (nI_pos (by omega)) (nI_clamp (by omega)) (Nat.le_of_ble_eq_true rfl) (by dsimp only [rmM, rmP]; omega) (by dsimp only [rmM, rmP]; omega) dX5_init_40 (fun q4a H hS => ?_)
  obtain ⟨ad4z, had4z⟩ : ∃ z, z = ru ad3z 35 0 q4a := ⟨_, rfl⟩
  rw [← had4z] at hS
  have ead4z0 : ad3z 30 0 = ad4z 30 0 := by rw [had4z]; exact (ru_n (fun z => absurd z.1 (by decide))).symm
  try rw [ead4z0] at hl
  try rw [ead4z0]
  have qad4z : q4a = ad4z 35 0 := by rw [had4z, ru_e]
  try rw [qad4z]
  refine pf_X5_22 hx hb hown hK hS hname ((ru_k (by decide)).trans h30_4) rfl rfl (fs' := [.int 0, .ref (ad0z 31 0), .ref (ad1z 32 0), .ref (ad2z 33 0), .ref (ad3z 34 0), .int 0, .ref (ad4z 35 0), .null, .null, .null, .null, .null, .null, .int 0, .null, .null, .null, .int 0]) (Nat.le_of_ble_eq_true rfl) rfl dX5_init_42 (fun H locs hS => ?_)
  obtain ⟨C5z, hC5z⟩ : ∃ z, z = ru (ru C4z 35 0 (mA G 150 (fun _ => nI 0))) 30 0 (some (.inr (6, [.int 0, .ref (ad0z 31 0), .ref (ad1z 32 0), .ref (ad2z 33 0), .ref (ad3z 34 0), .int 0, .ref (ad4z 35 0), .null, .null, .null, .null, .null, .null, .int 0, .null, .null, .null, .int 0]))) := ⟨_, rfl⟩
  rw [← hC5z] at hS
  have hM5 : iniM G 5 C C5z := by rw [hC5z]; exact hM4.next (by decide)
  have h30_5 : C5z 30 0 = (some (.inr (6, [.int 0, .ref (ad0z 31 0), .ref (ad1z 32 0), .ref (ad2z 33 0), .ref (ad3z 34 0), .int 0, .ref (ad4z 35 0), .null, .null, .null, .null, .null, .null, .int 0, .null, .null, .null, .int 0]))) := by rw [hC5z]; exact ru_e
  refine lv_aload_n hx hb dX5_init_45 rfl (lv_at hl 0 rfl) ?_
  refine lv_sipush (v := nI 150) hx hb dX5_init_46 (by decide) ?_
  refine r_newa (atype := .int) (t0 := 0) (ty := .int) (N' := 150) (a0 := (150, .inl (fun _ => nI 0))) hx hb (arr_i hK) rfl hK.1 rfl hS hA 36 0 (hM5.2.2 36 (by decide) (by decide)) (ha0 150) (nI_pos (by omega)) (nI_clamp (by omega)) (Nat.le_of_ble_eq_true rfl) (by dsimp only [rmM, rmP]; omega) (by dsimp only [rmM, rmP]; omega) dX5_init_49 (fun q5a H hS => ?_)
  obtain ⟨ad5z, had5z⟩ : ∃ z, z = ru ad4z 36 0 q5a := ⟨_, rfl⟩
  rw [← had5z] at hS
  have ead5z0 : ad4z 30 0 = ad5z 30 0 := by rw [had5z]; exact (ru_n (fun z => absurd z.1 (by decide))).symm
  try rw [ead5z0] at hl
  try rw [ead5z0]
  have qad5z : q5a = ad5z 36 0 := by rw [had5z, ru_e]
  try rw [qad5z]
  refine pf_X5_25 hx hb hown hK hS hname ((ru_k (by decide)).trans h30_5) rfl rfl (fs' := [.int 0, .ref (ad0z 31 0), .ref (ad1z 32 0), .ref (ad2z 33 0), .ref (ad3z 34 0), .int 0, .ref (ad4z 35 0), .ref (ad5z 36 0), .null, .null, .null, .null, .null, .int 0, .null, .null, .null, .int 0]) (Nat.le_of_ble_eq_true rfl) rfl dX5_init_51 (fun H locs hS => ?_)
  obtain ⟨C6z, hC6z⟩ : ∃ z, z = ru (ru C5z 36 0 (mA G 150 (fun _ => nI 0))) 30 0 (some (.inr (6, [.int 0, .ref (ad0z 31 0), .ref (ad1z 32 0), .ref (ad2z 33 0), .ref (ad3z 34 0), .int 0, .ref (ad4z 35 0), .ref (ad5z 36 0), .null, .null, .null, .null, .null, .int 0, .null, .null, .null, .int 0]))) := ⟨_, rfl⟩
  rw [← hC6z] at hS
  have hM6 : iniM G 6 C C6z := by rw [hC6z]; exact hM5.next (by decide)
  have h30_6 : C6z 30 0 = (some (.inr (6, [.int 0, .ref (ad0z 31 0), .ref (ad1z 32 0), .ref (ad2z 33 0), .ref (ad3z 34 0), .int 0, .ref (ad4z 35 0), .ref (ad5z 36 0), .null, .null, .null, .null, .null, .int 0, .null, .null, .null, .int 0]))) := by rw [hC6z]; exact ru_e
  refine lv_aload_n hx hb dX5_init_54 rfl (lv_at hl 0 rfl) ?_
  refine lv_sipush (v := nI 150) hx hb dX5_init_55 (by decide) ?_
  refine r_newa (atype := .int) (t0 := 0) (ty := .int) (N' := 150) (a0 := (150, .inl (fun _ => nI 0))) hx hb (arr_i hK) rfl hK.1 rfl hS hA 37 0 (hM6.2.2 37 (by decide) (by decide)) (ha0 150) (nI_pos (by omega)) (nI_clamp (by omega)) (Nat.le_of_ble_eq_true rfl) (by dsimp only [rmM, rmP]; omega) (by dsimp only [rmM, rmP]; omega) dX5_init_58 (fun q6a H hS => ?_)
  obtain ⟨ad6z, had6z⟩ : ∃ z, z = ru ad5z 37 0 q6a := ⟨_, rfl⟩
  rw [← had6z] at hS
  have ead6z0 : ad5z 30 0 = ad6z 30 0 := by rw [had6z]; exact (ru_n (fun z => absurd z.1 (by decide))).symm
  try rw [ead6z0] at hl
  try rw [ead6z0]
  have qad6z : q6a = ad6z 37 0 := by rw [had6z, ru_e]
  try rw [qad6z]
  refine pf_X5_28 hx hb hown hK hS hname ((ru_k (by decide)).trans h30_6) rfl rfl (fs' := [.int 0, .ref (ad0z 31 0), .ref (ad1z 32 0), .ref (ad2z 33 0), .ref (ad3z 34 0), .int 0, .ref (ad4z 35 0), .ref (ad5z 36 0), .ref (ad6z 37 0), .null, .null, .null, .null, .int 0, .null, .null, .null, .int 0]) (Nat.le_of_ble_eq_true rfl) rfl dX5_init_60 (fun H locs hS => ?_)
  obtain ⟨C7z, hC7z⟩ : ∃ z, z = ru (ru C6z 37 0 (mA G 150 (fun _ => nI 0))) 30 0 (some (.inr (6, [.int 0, .ref (ad0z 31 0), .ref (ad1z 32 0), .ref (ad2z 33 0), .ref (ad3z 34 0), .int 0, .ref (ad4z 35 0), .ref (ad5z 36 0), .ref (ad6z 37 0), .null, .null, .null, .null, .int 0, .null, .null, .null, .int 0]))) := ⟨_, rfl⟩
  rw [← hC7z] at hS
  have hM7 : iniM G 7 C C7z := by rw [hC7z]; exact hM6.next (by decide)
  have h30_7 : C7z 30 0 = (some (.inr (6, [.int 0, .ref (ad0z 31 0), .ref (ad1z 32 0), .ref (ad2z 33 0), .ref (ad3z 34 0), .int 0, .ref (ad4z 35 0), .ref (ad5z 36 0), .ref (ad6z 37 0), .null, .null, .null, .null, .int 0, .null, .null, .null, .int 0]))) := by rw [hC7z]; exact ru_e
  refine lv_aload_n hx hb dX5_init_63 rfl (lv_at hl 0 rfl) ?_
  refine lv_sipush (v := nI 150) hx hb dX5_init_64 (by decide) ?_
  refine r_newa (atype := .int) (t0 := 0) (ty := .int) (N' := 150) (a0 := (150, .inl (fun _ => nI 0))) hx hb (arr_i hK) rfl hK.1 rfl hS hA 38 0 (hM7.2.2 38 (by decide) (by decide)) (ha0 150) (nI_pos (by omega)) (nI_clamp (by omega)) (Nat.le_of_ble_eq_true rfl) (by dsimp only [rmM, rmP]; omega) (by dsimp only [rmM, rmP]; omega) dX5_init_67 (fun q7a H hS => ?_)
  obtain ⟨ad7z, had7z⟩ : ∃ z, z = ru ad6z 38 0 q7a := ⟨_, rfl⟩
  rw [← had7z] at hS
  have ead7z0 : ad6z 30 0 = ad7z 30 0 := by rw [had7z]; exact (ru_n (fun z => absurd z.1 (by decide))).symm
  try rw [ead7z0] at hl
  try rw [ead7z0]
  have qad7z : q7a = ad7z 38 0 := by rw [had7z, ru_e]
  try rw [qad7z]
  refine pf_X5_31 hx hb hown hK hS hname ((ru_k (by decide)).trans h30_7) rfl rfl (fs' := [.int 0, .ref (ad0z 31 0), .ref (ad1z 32 0), .ref (ad2z 33 0), .ref (ad3z 34 0), .int 0, .ref (ad4z 35 0), .ref (ad5z 36 0), .ref (ad6z 37 0), .ref (ad7z 38 0), .null, .null, .null, .int 0, .null, .null, .null, .int 0]) (Nat.le_of_ble_eq_true rfl) rfl dX5_init_69 (fun H locs hS => ?_)
  obtain ⟨C8z, hC8z⟩ : ∃ z, z = ru (ru C7z 38 0 (mA G 150 (fun _ => nI 0))) 30 0 (some (.inr (6, [.int 0, .ref (ad0z 31 0), .ref (ad1z 32 0), .ref (ad2z 33 0), .ref (ad3z 34 0), .int 0, .ref (ad4z 35 0), .ref (ad5z 36 0), .ref (ad6z 37 0), .ref (ad7z 38 0), .null, .null, .null, .int 0, .null, .null, .null, .int 0]))) := ⟨_, rfl⟩
  rw [← hC8z] at hS
  have hM8 : iniM G 8 C C8z := by rw [hC8z]; exact hM7.next (by decide)
  have h30_8 : C8z 30 0 = (some (.inr (6, [.int 0, .ref (ad0z 31 0), .ref (ad1z 32 0), .ref (ad2z 33 0), .ref (ad3z 34 0), .int 0, .ref (ad4z 35 0), .ref (ad5z 36 0), .ref (ad6z 37 0), .ref (ad7z 38 0), .null, .null, .null, .int 0, .null, .null, .null, .int 0]))) := by rw [hC8z]; exact ru_e
  refine lv_aload_n hx hb dX5_init_72 rfl (lv_at hl 0 rfl) ?_
  refine lv_sipush (v := nI 150) hx hb dX5_init_73 (by decide) ?_
  refine r_newa (atype := .int) (t0 := 0) (ty := .int) (N' := 150) (a0 := (150, .inl (fun _ => nI 0))) hx hb (arr_i hK) rfl hK.1 rfl hS hA 39 0 (hM8.2.2 39 (by decide) (by decide)) (ha0 150) (nI_pos (by omega)) (nI_clamp (by omega)) (Nat.le_of_ble_eq_true rfl) (by dsimp only [rmM, rmP]; omega) (by dsimp only [rmM, rmP]; omega) dX5_init_76 (fun q8a H hS => ?_)
  obtain ⟨ad8z, had8z⟩ : ∃ z, z = ru ad7z 39 0 q8a := ⟨_, rfl⟩
  rw [← had8z] at hS
  have ead8z0 : ad7z 30 0 = ad8z 30 0 := by rw [had8z]; exact (ru_n (fun z => absurd z.1 (by decide))).symm
  try rw [ead8z0] at hl
  try rw [ead8z0]
  have qad8z : q8a = ad8z 39 0 := by rw [had8z, ru_e]
  try rw [qad8z]
  refine pf_X5_34 hx hb hown hK hS hname ((ru_k (by decide)).trans h30_8) rfl rfl (fs' := [.int 0, .ref (ad0z 31 0), .ref (ad1z 32 0), .ref (ad2z 33 0), .ref (ad3z 34 0), .int 0, .ref (ad4z 35 0), .ref (ad5z 36 0), .ref (ad6z 37 0), .ref (ad7z 38 0), .ref (ad8z 39 0), .null, .null, .int 0, .null, .null, .null, .int 0]) (Nat.le_of_ble_eq_true rfl) rfl dX5_init_78 (fun H locs hS => ?_)
  obtain ⟨C9z, hC9z⟩ : ∃ z, z = ru (ru C8z 39 0 (mA G 150 (fun _ => nI 0))) 30 0 (some (.inr (6, [.int 0, .ref (ad0z 31 0), .ref (ad1z 32 0), .ref (ad2z 33 0), .ref (ad3z 34 0), .int 0, .ref (ad4z 35 0), .ref (ad5z 36 0), .ref (ad6z 37 0), .ref (ad7z 38 0), .ref (ad8z 39 0), .null, .null, .int 0, .null, .null, .null, .int 0]))) := ⟨_, rfl⟩
  rw [← hC9z] at hS
  have hM9 : iniM G 9 C C9z := by rw [hC9z]; exact hM8.next (by decide)
  have h30_9 : C9z 30 0 = (some (.inr (6, [.int 0, .ref (ad0z 31 0), .ref (ad1z 32 0), .ref (ad2z 33 0), .ref (ad3z 34 0), .int 0, .ref (ad4z 35 0), .ref (ad5z 36 0), .ref (ad6z 37 0), .ref (ad7z 38 0), .ref (ad8z 39 0), .null, .null, .int 0, .null, .null, .null, .int 0]))) := by rw [hC9z]; exact ru_e
  refine lv_aload_n hx hb dX5_init_81 rfl (lv_at hl 0 rfl) ?_
  refine lv_bipush (v := nI 8) hx hb dX5_init_82 (by decide) ?_
  refine r_newa (atype := .int) (t0 := 0) (ty := .int) (N' := 8) (a0 := (8, .inl (fun _ => nI 0))) hx hb (arr_i hK) rfl hK.1 rfl hS hA 40 0 (hM9.2.2 40 (by decide) (by decide)) (ha0 8) (nI_pos (by omega)) (nI_clamp (by omega)) (Nat.le_of_ble_eq_true rfl) (by dsimp only [rmM, rmP]; omega) (by dsimp only [rmM, rmP]; omega) dX5_init_84 (fun q9a H hS => ?_)
  obtain ⟨ad9z, had9z⟩ : ∃ z, z = ru ad8z 40 0 q9a := ⟨_, rfl⟩
  rw [← had9z] at hS
  have ead9z0 : ad8z 30 0 = ad9z 30 0 := by rw [had9z]; exact (ru_n (fun z => absurd z.1 (by decide))).symm
  try rw [ead9z0] at hl
  try rw [ead9z0]
  have qad9z : q9a = ad9z 40 0 := by rw [had9z, ru_e]
  try rw [qad9z]
  refine pf_X5_37 hx hb hown hK hS hname ((ru_k (by decide)).trans h30_9) rfl rfl (fs' := [.int 0, .ref (ad0z 31 0), .ref (ad1z 32 0), .ref (ad2z 33 0), .ref (ad3z 34 0), .int 0, .ref (ad4z 35 0), .ref (ad5z 36 0), .ref (ad6z 37 0), .ref (ad7z 38 0), .ref (ad8z 39 0), .ref (ad9z 40 0), .null, .int 0, .null, .null, .null, .int 0]) (Nat.le_of_ble_eq_true rfl) rfl dX5_init_86 (fun H locs hS => ?_)
  obtain ⟨C10z, hC10z⟩ : ∃ z, z = ru (ru C9z 40 0 (mA G 8 (fun _ => nI 0))) 30 0 (some (.inr (6, [.int 0, .ref (ad0z 31 0), .ref (ad1z 32 0), .ref (ad2z 33 0), .ref (ad3z 34 0), .int 0, .ref (ad4z 35 0), .ref (ad5z 36 0), .ref (ad6z 37 0), .ref (ad7z 38 0), .ref (ad8z 39 0), .ref (ad9z 40 0), .null, .int 0, .null, .null, .null, .int 0]))) := ⟨_, rfl⟩
  rw [← hC10z] at hS
  have hM10 : iniM G 10 C C10z := by rw [hC10z]; exact hM9.next (by decide)
  have h30_10 : C10z 30 0 = (some (.inr (6, [.int 0, .ref (ad0z 31 0), .ref (ad1z 32 0), .ref (ad2z 33 0), .ref (ad3z 34 0), .int 0, .ref (ad4z 35 0), .ref (ad5z 36 0), .ref (ad6z 37 0), .ref (ad7z 38 0), .ref (ad8z 39 0), .ref (ad9z 40 0), .null, .int 0, .null, .null, .null, .int 0]))) := by rw [hC10z]; exact ru_e
  refine lv_aload_n hx hb dX5_init_89 rfl (lv_at hl 0 rfl) ?_
  refine lv_bipush (v := nI 8) hx hb dX5_init_90 (by decide) ?_
  refine r_newa (atype := .int) (t0 := 0) (ty := .int) (N' := 8) (a0 := (8, .inl (fun _ => nI 0))) hx hb (arr_i hK) rfl hK.1 rfl hS hA 41 0 (hM10.2.2 41 (by decide) (by decide)) (ha0 8) (nI_pos (by omega)) (nI_clamp (by omega)) (Nat.le_of_ble_eq_true rfl) (by dsimp only [rmM, rmP]; omega) (by dsimp only [rmM, rmP]; omega) dX5_init_92 (fun q10a H hS => ?_)
  obtain ⟨ad10z, had10z⟩ : ∃ z, z = ru ad9z 41 0 q10a := ⟨_, rfl⟩
  rw [← had10z] at hS
  have ead10z0 : ad9z 30 0 = ad10z 30 0 := by rw [had10z]; exact (ru_n (fun z => absurd z.1 (by decide))).symm
  try rw [ead10z0] at hl
  try rw [ead10z0]
  have qad10z : q10a = ad10z 41 0 := by rw [had10z, ru_e]
  try rw [qad10z]
  refine pf_X5_40 hx hb hown hK hS hname ((ru_k (by decide)).trans h30_10) rfl rfl (fs' := [.int 0, .ref (ad0z 31 0), .ref (ad1z 32 0), .ref (ad2z 33 0), .ref (ad3z 34 0), .int 0, .ref (ad4z 35 0), .ref (ad5z 36 0), .ref (ad6z 37 0), .ref (ad7z 38 0), .ref (ad8z 39 0), .ref (ad9z 40 0), .ref (ad10z 41 0), .int 0, .null, .null, .null, .int 0]) (Nat.le_of_ble_eq_true rfl) rfl dX5_init_94 (fun H locs hS => ?_)
  obtain ⟨C11z, hC11z⟩ : ∃ z, z = ru (ru C10z 41 0 (mA G 8 (fun _ => nI 0))) 30 0 (some (.inr (6, [.int 0, .ref (ad0z 31 0), .ref (ad1z 32 0), .ref (ad2z 33 0), .ref (ad3z 34 0), .int 0, .ref (ad4z 35 0), .ref (ad5z 36 0), .ref (ad6z 37 0), .ref (ad7z 38 0), .ref (ad8z 39 0), .ref (ad9z 40 0), .ref (ad10z 41 0), .int 0, .null, .null, .null, .int 0]))) := ⟨_, rfl⟩
  rw [← hC11z] at hS
  have hM11 : iniM G 11 C C11z := by rw [hC11z]; exact hM10.next (by decide)
  have h30_11 : C11z 30 0 = (some (.inr (6, [.int 0, .ref (ad0z 31 0), .ref (ad1z 32 0), .ref (ad2z 33 0), .ref (ad3z 34 0), .int 0, .ref (ad4z 35 0), .ref (ad5z 36 0), .ref (ad6z 37 0), .ref (ad7z 38 0), .ref (ad8z 39 0), .ref (ad9z 40 0), .ref (ad10z 41 0), .int 0, .null, .null, .null, .int 0]))) := by rw [hC11z]; exact ru_e
  refine lv_aload_n hx hb dX5_init_97 rfl (lv_at hl 0 rfl) ?_
  refine lv_bipush (v := nI 60) hx hb dX5_init_98 (by decide) ?_
  refine r_newa (atype := .int) (t0 := 0) (ty := .int) (N' := 60) (a0 := (60, .inl (fun _ => nI 0))) hx hb (arr_i hK) rfl hK.1 rfl hS hA 42 0 (hM11.2.2 42 (by decide) (by decide)) (ha0 60) (nI_pos (by omega)) (nI_clamp (by omega)) (Nat.le_of_ble_eq_true rfl) (by dsimp only [rmM, rmP]; omega) (by dsimp only [rmM, rmP]; omega) dX5_init_100 (fun q11a H hS => ?_)
  obtain ⟨ad11z, had11z⟩ : ∃ z, z = ru ad10z 42 0 q11a := ⟨_, rfl⟩
  rw [← had11z] at hS
  have ead11z0 : ad10z 30 0 = ad11z 30 0 := by rw [had11z]; exact (ru_n (fun z => absurd z.1 (by decide))).symm
  try rw [ead11z0] at hl
  try rw [ead11z0]
  have qad11z : q11a = ad11z 42 0 := by rw [had11z, ru_e]
  try rw [qad11z]
  refine pf_X5_43 hx hb hown hK hS hname ((ru_k (by decide)).trans h30_11) rfl rfl (fs' := [.int 0, .ref (ad0z 31 0), .ref (ad1z 32 0), .ref (ad2z 33 0), .ref (ad3z 34 0), .int 0, .ref (ad4z 35 0), .ref (ad5z 36 0), .ref (ad6z 37 0), .ref (ad7z 38 0), .ref (ad8z 39 0), .ref (ad9z 40 0), .ref (ad10z 41 0), .int 0, .ref (ad11z 42 0), .null, .null, .int 0]) (Nat.le_of_ble_eq_true rfl) rfl dX5_init_102 (fun H locs hS => ?_)
  obtain ⟨C12z, hC12z⟩ : ∃ z, z = ru (ru C11z 42 0 (mA G 60 (fun _ => nI 0))) 30 0 (some (.inr (6, [.int 0, .ref (ad0z 31 0), .ref (ad1z 32 0), .ref (ad2z 33 0), .ref (ad3z 34 0), .int 0, .ref (ad4z 35 0), .ref (ad5z 36 0), .ref (ad6z 37 0), .ref (ad7z 38 0), .ref (ad8z 39 0), .ref (ad9z 40 0), .ref (ad10z 41 0), .int 0, .ref (ad11z 42 0), .null, .null, .int 0]))) := ⟨_, rfl⟩
  rw [← hC12z] at hS
  have hM12 : iniM G 12 C C12z := by rw [hC12z]; exact hM11.next (by decide)
  have h30_12 : C12z 30 0 = (some (.inr (6, [.int 0, .ref (ad0z 31 0), .ref (ad1z 32 0), .ref (ad2z 33 0), .ref (ad3z 34 0), .int 0, .ref (ad4z 35 0), .ref (ad5z 36 0), .ref (ad6z 37 0), .ref (ad7z 38 0), .ref (ad8z 39 0), .ref (ad9z 40 0), .ref (ad10z 41 0), .int 0, .ref (ad11z 42 0), .null, .null, .int 0]))) := by rw [hC12z]; exact ru_e
  refine lv_aload_n hx hb dX5_init_105 rfl (lv_at hl 0 rfl) ?_
  refine lv_sipush (v := nI 240) hx hb dX5_init_106 (by decide) ?_
  refine r_newa (atype := .int) (t0 := 0) (ty := .int) (N' := 240) (a0 := (240, .inl (fun _ => nI 0))) hx hb (arr_i hK) rfl hK.1 rfl hS hA 43 0 (hM12.2.2 43 (by decide) (by decide)) (ha0 240) (nI_pos (by omega)) (nI_clamp (by omega)) (Nat.le_of_ble_eq_true rfl) (by dsimp only [rmM, rmP]; omega) (by dsimp only [rmM, rmP]; omega) dX5_init_109 (fun q12a H hS => ?_)
  obtain ⟨ad12z, had12z⟩ : ∃ z, z = ru ad11z 43 0 q12a := ⟨_, rfl⟩
  rw [← had12z] at hS
  have ead12z0 : ad11z 30 0 = ad12z 30 0 := by rw [had12z]; exact (ru_n (fun z => absurd z.1 (by decide))).symm
  try rw [ead12z0] at hl
  try rw [ead12z0]
  have qad12z : q12a = ad12z 43 0 := by rw [had12z, ru_e]
  try rw [qad12z]
  refine pf_X5_46 hx hb hown hK hS hname ((ru_k (by decide)).trans h30_12) rfl rfl (fs' := [.int 0, .ref (ad0z 31 0), .ref (ad1z 32 0), .ref (ad2z 33 0), .ref (ad3z 34 0), .int 0, .ref (ad4z 35 0), .ref (ad5z 36 0), .ref (ad6z 37 0), .ref (ad7z 38 0), .ref (ad8z 39 0), .ref (ad9z 40 0), .ref (ad10z 41 0), .int 0, .ref (ad11z 42 0), .ref (ad12z 43 0), .null, .int 0]) (Nat.le_of_ble_eq_true rfl) rfl dX5_init_111 (fun H locs hS => ?_)
  obtain ⟨C13z, hC13z⟩ : ∃ z, z = ru (ru C12z 43 0 (mA G 240 (fun _ => nI 0))) 30 0 (some (.inr (6, [.int 0, .ref (ad0z 31 0), .ref (ad1z 32 0), .ref (ad2z 33 0), .ref (ad3z 34 0), .int 0, .ref (ad4z 35 0), .ref (ad5z 36 0), .ref (ad6z 37 0), .ref (ad7z 38 0), .ref (ad8z 39 0), .ref (ad9z 40 0), .ref (ad10z 41 0), .int 0, .ref (ad11z 42 0), .ref (ad12z 43 0), .null, .int 0]))) := ⟨_, rfl⟩
  rw [← hC13z] at hS
  have hM13 : iniM G 13 C C13z := by rw [hC13z]; exact hM12.next (by decide)
  have h30_13 : C13z 30 0 = (some (.inr (6, [.int 0, .ref (ad0z 31 0), .ref (ad1z 32 0), .ref (ad2z 33 0), .ref (ad3z 34 0), .int 0, .ref (ad4z 35 0), .ref (ad5z 36 0), .ref (ad6z 37 0), .ref (ad7z 38 0), .ref (ad8z 39 0), .ref (ad9z 40 0), .ref (ad10z 41 0), .int 0, .ref (ad11z 42 0), .ref (ad12z 43 0), .null, .int 0]))) := by rw [hC13z]; exact ru_e
  refine lv_aload_n hx hb dX5_init_114 rfl (lv_at hl 0 rfl) ?_
  refine lv_iconst (v := nI 4) hx hb dX5_init_115 (by decide) ?_
  refine r_newa (atype := .int) (t0 := 0) (ty := .int) (N' := 4) (a0 := (4, .inl (fun _ => nI 0))) hx hb (arr_i hK) rfl hK.1 rfl hS hA 44 0 (hM13.2.2 44 (by decide) (by decide)) (ha0 4) (nI_pos (by omega)) (nI_clamp (by omega)) (Nat.le_of_ble_eq_true rfl) (by dsimp only [rmM, rmP]; omega) (by dsimp only [rmM, rmP]; omega) dX5_init_116 (fun q13a H hS => ?_)
  obtain ⟨ad13z, had13z⟩ : ∃ z, z = ru ad12z 44 0 q13a := ⟨_, rfl⟩
  rw [← had13z] at hS
  have ead13z0 : ad12z 30 0 = ad13z 30 0 := by rw [had13z]; exact (ru_n (fun z => absurd z.1 (by decide))).symm
  try rw [ead13z0] at hl
  try rw [ead13z0]
  have qad13z : q13a = ad13z 44 0 := by rw [had13z, ru_e]
  try rw [qad13z]
  refine pf_X5_49 hx hb hown hK hS hname ((ru_k (by decide)).trans h30_13) rfl rfl (fs' := [.int 0, .ref (ad0z 31 0), .ref (ad1z 32 0), .ref (ad2z 33 0), .ref (ad3z 34 0), .int 0, .ref (ad4z 35 0), .ref (ad5z 36 0), .ref (ad6z 37 0), .ref (ad7z 38 0), .ref (ad8z 39 0), .ref (ad9z 40 0), .ref (ad10z 41 0), .int 0, .ref (ad11z 42 0), .ref (ad12z 43 0), .ref (ad13z 44 0), .int 0]) (Nat.le_of_ble_eq_true rfl) rfl dX5_init_118 (fun H locs hS => ?_)
  obtain ⟨C14z, hC14z⟩ : ∃ z, z = ru (ru C13z 44 0 (mA G 4 (fun _ => nI 0))) 30 0 (some (.inr (6, [.int 0, .ref (ad0z 31 0), .ref (ad1z 32 0), .ref (ad2z 33 0), .ref (ad3z 34 0), .int 0, .ref (ad4z 35 0), .ref (ad5z 36 0), .ref (ad6z 37 0), .ref (ad7z 38 0), .ref (ad8z 39 0), .ref (ad9z 40 0), .ref (ad10z 41 0), .int 0, .ref (ad11z 42 0), .ref (ad12z 43 0), .ref (ad13z 44 0), .int 0]))) := ⟨_, rfl⟩
  rw [← hC14z] at hS
  have hM14 : iniM G 14 C C14z := by rw [hC14z]; exact hM13.next (by decide)
  have h30_14 : C14z 30 0 = (some (.inr (6, [.int 0, .ref (ad0z 31 0), .ref (ad1z 32 0), .ref (ad2z 33 0), .ref (ad3z 34 0), .int 0, .ref (ad4z 35 0), .ref (ad5z 36 0), .ref (ad6z 37 0), .ref (ad7z 38 0), .ref (ad8z 39 0), .ref (ad9z 40 0), .ref (ad10z 41 0), .int 0, .ref (ad11z 42 0), .ref (ad12z 43 0), .ref (ad13z 44 0), .int 0]))) := by rw [hC14z]; exact ru_e
  have e0 : ad13z 31 0 = ad0z 31 0 := by rw [had13z, had12z, had11z, had10z, had9z, had8z, had7z, had6z, had5z, had4z, had3z, had2z, had1z, ru_k (by decide), ru_k (by decide), ru_k (by decide), ru_k (by decide), ru_k (by decide), ru_k (by decide), ru_k (by decide), ru_k (by decide), ru_k (by decide), ru_k (by decide), ru_k (by decide), ru_k (by decide), ru_k (by decide)]
  have e1 : ad13z 32 0 = ad1z 32 0 := by rw [had13z, had12z, had11z, had10z, had9z, had8z, had7z, had6z, had5z, had4z, had3z, had2z, ru_k (by decide), ru_k (by decide), ru_k (by decide), ru_k (by decide), ru_k (by decide), ru_k (by decide), ru_k (by decide), ru_k (by decide), ru_k (by decide), ru_k (by decide), ru_k (by decide), ru_k (by decide)]
  have e2 : ad13z 33 0 = ad2z 33 0 := by rw [had13z, had12z, had11z, had10z, had9z, had8z, had7z, had6z, had5z, had4z, had3z, ru_k (by decide), ru_k (by decide), ru_k (by decide), ru_k (by decide), ru_k (by decide), ru_k (by decide), ru_k (by decide), ru_k (by decide), ru_k (by decide), ru_k (by decide), ru_k (by decide)]
  have e3 : ad13z 34 0 = ad3z 34 0 := by rw [had13z, had12z, had11z, had10z, had9z, had8z, had7z, had6z, had5z, had4z, ru_k (by decide), ru_k (by decide), ru_k (by decide), ru_k (by decide), ru_k (by decide), ru_k (by decide), ru_k (by decide), ru_k (by decide), ru_k (by decide), ru_k (by decide)]
  have e4 : ad13z 35 0 = ad4z 35 0 := by rw [had13z, had12z, had11z, had10z, had9z, had8z, had7z, had6z, had5z, ru_k (by decide), ru_k (by decide), ru_k (by decide), ru_k (by decide), ru_k (by decide), ru_k (by decide), ru_k (by decide), ru_k (by decide), ru_k (by decide)]
  have e5 : ad13z 36 0 = ad5z 36 0 := by rw [had13z, had12z, had11z, had10z, had9z, had8z, had7z, had6z, ru_k (by decide), ru_k (by decide), ru_k (by decide), ru_k (by decide), ru_k (by decide), ru_k (by decide), ru_k (by decide), ru_k (by decide)]
  have e6 : ad13z 37 0 = ad6z 37 0 := by rw [had13z, had12z, had11z, had10z, had9z, had8z, had7z, ru_k (by decide), ru_k (by decide), ru_k (by decide), ru_k (by decide), ru_k (by decide), ru_k (by decide), ru_k (by decide)]
  have e7 : ad13z 38 0 = ad7z 38 0 := by rw [had13z, had12z, had11z, had10z, had9z, had8z, ru_k (by decide), ru_k (by decide), ru_k (by decide), ru_k (by decide), ru_k (by decide), ru_k (by decide)]
  have e8 : ad13z 39 0 = ad8z 39 0 := by rw [had13z, had12z, had11z, had10z, had9z, ru_k (by decide), ru_k (by decide), ru_k (by decide), ru_k (by decide), ru_k (by decide)]
  have e9 : ad13z 40 0 = ad9z 40 0 := by rw [had13z, had12z, had11z, had10z, ru_k (by decide), ru_k (by decide), ru_k (by decide), ru_k (by decide)]
  have e10 : ad13z 41 0 = ad10z 41 0 := by rw [had13z, had12z, had11z, ru_k (by decide), ru_k (by decide), ru_k (by decide)]
  have e11 : ad13z 42 0 = ad11z 42 0 := by rw [had13z, had12z, ru_k (by decide), ru_k (by decide)]
  have e12 : ad13z 43 0 = ad12z 43 0 := by rw [had13z, ru_k (by decide)]
  have hw : C14z = mC G (Tfr 0) (nI 0) (fun _ => nI 0) C ad13z := by
    rw [Tfr_0]
    refine mC_ext ?_ (hM14.2.1 31 (by decide) (by decide)) (hM14.2.1 32 (by decide) (by decide)) (hM14.2.1 33 (by decide) (by decide)) (hM14.2.1 34 (by decide) (by decide)) (hM14.2.1 35 (by decide) (by decide)) (hM14.2.1 36 (by decide) (by decide)) (hM14.2.1 37 (by decide) (by decide)) (hM14.2.1 38 (by decide) (by decide)) (hM14.2.1 39 (by decide) (by decide)) (hM14.2.1 40 (by decide) (by decide)) (hM14.2.1 41 (by decide) (by decide)) (hM14.2.1 42 (by decide) (by decide)) (hM14.2.1 43 (by decide) (by decide)) (hM14.2.1 44 (by decide) (by decide)) (fun a b h => hM14.1 a b h)
    have z0 : ∀ b, nI (Tzz 0 b) = 0 := fun b => nI_0
    rw [h30_14]
    unfold mO
    rw [z0, z0, z0, nI_0, e0, e1, e2, e3, e4, e5, e6, e7, e8, e9, e10, e11, e12]
  rw [hw] at hS
  have hA9 : ∀ a b, a < 31 ∨ 45 ≤ a ∨ b ≠ 0 → ad13z a b = ad a b := fun a b h => by rw [had13z, had12z, had11z, had10z, had9z, had8z, had7z, had6z, had5z, had4z, had3z, had2z, had1z, had0z, ru_n (fun z => by omega), ru_n (fun z => by omega), ru_n (fun z => by omega), ru_n (fun z => by omega), ru_n (fun z => by omega), ru_n (fun z => by omega), ru_n (fun z => by omega), ru_n (fun z => by omega), ru_n (fun z => by omega), ru_n (fun z => by omega), ru_n (fun z => by omega), ru_n (fun z => by omega), ru_n (fun z => by omega), ru_n (fun z => by omega)]
  refine lv_iconst (v := nI 0) hx hb dX5_init_121 (by decide) ?_
  refine lv_istore_n (lv' := [(1, .int (nI 0)), (0, .ref (ad13z 30 0))]) hx hb dX5_init_122 rfl hl (by decide) rfl (fun ls hl => ?_)
  refine r_loop (σ := Nat) (fun n => 8 - n) (fun n H locs ls => (n ≤ 8) ∧ rS G.1 (rF C ad s.heap.size) s.heap (mC G (Tfr n) (nI 0) (fun _ => nI 0) C ad13z) ad13z H locs ∧ lv_has ls 2 [(1, .int (nI n)), (0, .ref (ad13z 30 0))]) (fun _ => 14) (fun _ => 1134) (fun z ih H locs ls hI => ?_) 0 (Nat.le_of_ble_eq_true rfl) (Nat.le_of_ble_eq_true rfl) ⟨Nat.zero_le _, hS, lv_sub hl [0, 1] rfl⟩
  obtain ⟨n, rfl⟩ : ∃ y, y = z := ⟨_, rfl⟩
  obtain ⟨hn9, hS, hl⟩ := hI
  try dsimp only at hn9 hS hl ih ⊢
  refine lv_iload_n hx hb dX5_init_123 rfl (lv_at hl 0 rfl) ?_
  refine lv_bipush (v := nI 8) hx hb dX5_init_124 (by decide) ?_
  refine r_icmp_ge (a := n) (b := 8) (tgt := 143) hx hb (by omega) (by omega) dX5_init_126 (by decide) (fun q126 => ?_) (fun q126 => ?_)
  · -- T
    obtain rfl : n = 8 := by omega
    exact r_vret hx hb hr hlocks hS (⟨rfl, ⟨_, rfl⟩, hA9⟩) (by dsimp only [rmM, rmP]; omega) (by dsimp only [rmM, rmP]; omega) dX5_init_143
  · -- F
    have hn8 : n < 8 := by omega
    refine lv_aload_n hx hb dX5_init_129 rfl (lv_at hl 1 rfl) ?_
    refine gf_X5_40 hx hb hown hK hS mC_30 rfl dX5_init_130 ?_
    refine lv_iload_n hx hb dX5_init_133 rfl (lv_at hl 0 rfl) ?_
    refine lv_bipush (v := nI 50) hx hb dX5_init_134 (by decide) ?_
    refine r_iast hx hb hK.1 hS 0 mC_41 rfl (nI_in0 (by omega) (by omega)) (f' := tA (ru (Tfr n) 11 n 50) 11) (tA_put (by omega)) dX5_init_136 (fun H locs hS => ?_)
    rw [mC_p41] at hS
    rw [Tfr_s] at hS
    refine lv_iinc (v := nI (n + 1)) (lv' := [(1, .int (nI (n + 1))), (0, .ref (ad13z 30 0))]) hx hb dX5_init_137 hl (k := 0) rfl (nI_inc _) (by decide) rfl (fun ls hl => ?_)
    refine lv_goto (tgt := 123) hx hb dX5_init_140 (by decide) ?_
    exact ih (n + 1) (show 8 - (n + 1) < 8 - n by omega) _ _ _ ⟨(show n + 1 ≤ 8 by omega), hS, lv_sub hl [0, 1] rfl⟩

