/-! the register made (printed by wip/whole/gen/comp18.py) -/
def T00 : rTab := fun a b => if a = 11 ∧ b < 8 then 50 else 0
theorem T00_0 {a b : Nat} (h : a ≠ 11) : T00 a b = 0 := if_neg fun z => h z.1
theorem T00_11 {b : Nat} (h : b < 8) : T00 11 b = 50 := if_pos ⟨rfl, h⟩
def iniF (G : rG) (n : Nat) (ad : rA) (k i : Nat) : Option va_E :=
  if k = 5 then (if i < n then some (clO T00 ad i) else none)
  else if k = 14 ∨ k = 15 then (if i < n then some (alO (nI 0) G.2.2 0) else none)
  else if i = 0 then
    (if k = 0 then some (.inr (5, [.ref (ad 10 0), .ref (ad 12 0), .ref (ad 7 0), .ref (ad 13 0), .ref (ad 6 0)]))
    else if k = 7 then some (.inl (G.2.1 3, 8, .inr (.inr (.inr (.inr (fun x => if x < n then some (ad 5 x) else none))))))
    else if k = 6 then some (rgO ad 0)
    else if k = 10 ∨ k = 12 ∨ k = 13 ∨ k = 16 ∨ k = 17 then some (alO (nI 0) G.2.2 0) else none)
  else none
def iniP (G : rG) (n : Nat) (C : rC) (ad : rA) : Prop := ∀ k i, k < 30 → C k i = iniF G n ad k i
section IN
variable {G : rG} {n : Nat} {C C' : rC} {ad ad' : rA}
theorem iniF_5 {i : Nat} : iniF G n ad 5 i = if i < n then some (clO T00 ad i) else none := if_pos rfl
theorem iniF_14 {k i : Nat} (h : k = 14 ∨ k = 15) : iniF G n ad k i = if i < n then some (alO (nI 0) G.2.2 0) else none := by
  unfold iniF
  rw [if_neg (by omega), if_pos h]
theorem iniF_no {k i : Nat} (h5 : k ≠ 5) (h : ¬ (k = 14 ∨ k = 15)) (hi : i ≠ 0) : iniF G n ad k i = none := by
  unfold iniF
  rw [if_neg h5, if_neg h, if_neg hi]
theorem iniF_0 : iniF G n ad 0 0 = some (.inr (5, [.ref (ad 10 0), .ref (ad 12 0), .ref (ad 7 0), .ref (ad 13 0), .ref (ad 6 0)])) := by
  unfold iniF
  rw [if_neg (by decide), if_neg (by decide), if_pos rfl, if_pos rfl]
theorem iniF_7 : iniF G n ad 7 0 = some (.inl (G.2.1 3, 8, .inr (.inr (.inr (.inr (fun x => if x < n then some (ad 5 x) else none)))))) := by
  unfold iniF
  rw [if_neg (by decide), if_neg (by decide), if_pos rfl, if_neg (by decide), if_pos rfl]
theorem iniF_6 : iniF G n ad 6 0 = some (rgO ad 0) := by
  unfold iniF
  rw [if_neg (by decide), if_neg (by decide), if_pos rfl, if_neg (by decide), if_neg (by decide), if_pos rfl]
theorem iniF_l {k : Nat} (h : k = 10 ∨ k = 12 ∨ k = 13 ∨ k = 16 ∨ k = 17) : iniF G n ad k 0 = some (alO (nI 0) G.2.2 0) := by
  unfold iniF
  rw [if_neg (by omega), if_neg (by omega), if_pos rfl, if_neg (by omega), if_neg (by omega), if_neg (by omega), if_pos h]
theorem iniF_z {k : Nat} (h : k ≠ 0 ∧ k ≠ 5 ∧ k ≠ 6 ∧ k ≠ 7 ∧ k ≠ 10 ∧ k ≠ 12 ∧ k ≠ 13 ∧ k ≠ 14 ∧ k ≠ 15 ∧ k ≠ 16 ∧ k ≠ 17) {i : Nat} : iniF G n ad k i = none := by
  unfold iniF
  rw [if_neg (by omega), if_neg (by omega)]
  by_cases e : i = 0
  · rw [if_pos e, if_neg (by omega), if_neg (by omega), if_neg (by omega), if_neg (by omega)]
  · rw [if_neg e]
/-- one collector more -/
theorem iniP.next (h : iniP G n C ad) (hn : n < 8) (a5 : ∀ a b, ¬ ((a = 5 ∨ a = 14 ∨ a = 15) ∧ b = n) → ad' a b = ad a b) (c5 : C' 5 n = some (.inr (2, [.int (nI n), .int 0, .int (nI 50), .ref (ad' 14 n), .ref (ad' 15 n)]))) (c14 : C' 14 n = some (alO (nI 0) G.2.2 0)) (c15 : C' 15 n = some (alO (nI 0) G.2.2 0)) (c7 : C' 7 0 = some (.inl (G.2.1 3, 8, .inr (.inr (.inr (.inr (va_up (fun x => if x < n then some (ad 5 x) else none) n (some (ad' 5 n))))))))) (cN : ∀ a b, ¬ ((a = 5 ∨ a = 14 ∨ a = 15) ∧ b = n) → ¬ (a = 7 ∧ b = 0) → C' a b = C a b) : iniP G (n + 1) C' ad' := by
  intro k i hk
  by_cases h5 : k = 5
  · subst h5
    rw [iniF_5]
    by_cases e : i = n
    · rw [e, c5, if_pos (by omega)]
      unfold clO
      rw [T00_11 hn, T00_0 (by decide)]
      rfl
    · rw [cN 5 i (fun z => e z.2) (fun z => absurd z.1 (by decide)), h 5 i hk, iniF_5]
      have e14 : ad' 14 i = ad 14 i := a5 14 i (fun z => e z.2)
      have e15 : ad' 15 i = ad 15 i := a5 15 i (fun z => e z.2)
      by_cases g : i < n
      · rw [if_pos g, if_pos (by omega)]
        unfold clO
        rw [e14, e15]
      · rw [if_neg g, if_neg (by omega)]
  · by_cases h14 : k = 14 ∨ k = 15
    · rw [iniF_14 h14]
      by_cases e : i = n
      · rw [e, if_pos (by omega)]
        rcases h14 with q | q
        · rw [q]; exact c14
        · rw [q]; exact c15
      · rw [cN k i (fun z => e z.2) (fun z => by omega), h k i hk, iniF_14 h14]
        by_cases g : i < n
        · rw [if_pos g, if_pos (by omega)]
        · rw [if_neg g, if_neg (by omega)]
    · by_cases h7 : k = 7 ∧ i = 0
      · obtain ⟨rfl, rfl⟩ := h7
        rw [iniF_7, c7]
        congr 8
        funext x
        by_cases e : x = n
        · rw [e, va_up_self, if_pos (by omega)]
        · rw [va_up_ne _ _ e, a5 5 x (fun z => e z.2)]
          by_cases g : x < n
          · rw [if_pos g, if_pos (by omega)]
          · rw [if_neg g, if_neg (by omega)]
      · rw [cN k i (fun z => by omega) h7, h k i hk]
        by_cases hi : i = 0
        · subst hi
          have e : ∀ a, a ≠ 5 → a ≠ 14 → a ≠ 15 → ad' a 0 = ad a 0 := fun a g1 g2 g3 => a5 a 0 (fun z => by omega)
          unfold iniF
          rw [if_neg h5, if_neg h5, if_neg h14, if_neg h14, if_pos rfl, if_pos rfl]
          by_cases h0 : k = 0
          · rw [if_pos h0, if_pos h0, e 10 (by decide) (by decide) (by decide), e 12 (by decide) (by decide) (by decide), e 7 (by decide) (by decide) (by decide), e 13 (by decide) (by decide) (by decide), e 6 (by decide) (by decide) (by decide)]
          · rw [if_neg h0, if_neg h0, if_neg (fun z => h7 ⟨z, rfl⟩), if_neg (fun z => h7 ⟨z, rfl⟩)]
            unfold rgO
            rw [e 16 (by decide) (by decide) (by decide), e 17 (by decide) (by decide) (by decide)]
        · rw [iniF_no h5 h14 hi, iniF_no h5 h14 hi]
theorem iniP.inv (h : iniP G 8 C ad) : cInv G T00 ((fun _ _ => []), (fun _ _ => 0), fun _ _ => nI 0) C ad := by
  have z : ∀ a b, a ≠ 11 → T00 a b = 0 := fun a b ha => T00_0 ha
  have hD : nD T00 = 0 := z 0 0 (by decide)
  have hC : nC T00 = 0 := z 0 1 (by decide)
  have hS : nS T00 = 0 := z 0 2 (by decide)
  have ls : ∀ k i ek, k < 18 → C k i = some (alO (nI 0) G.2.2 0) → C (k + 10) i = none → lSh G ((fun _ _ => []), (fun _ _ => 0), fun _ _ => nI 0) C ad k i ek := fun k i ek hk h1 h2 => ⟨h1, h2, Nat.le_refl _, show 0 < 1000 by decide⟩
  have nz : ∀ k i, k < 30 → (k ≠ 0 ∧ k ≠ 5 ∧ k ≠ 6 ∧ k ≠ 7 ∧ k ≠ 10 ∧ k ≠ 12 ∧ k ≠ 13 ∧ k ≠ 14 ∧ k ≠ 15 ∧ k ≠ 16 ∧ k ≠ 17) → C k i = none := fun k i hk g => by rw [h k i hk, iniF_z g]
  have lz : ∀ k ek, k = 10 ∨ k = 12 ∨ k = 13 ∨ k = 16 ∨ k = 17 → lSh G ((fun _ _ => []), (fun _ _ => 0), fun _ _ => nI 0) C ad k 0 ek := fun k ek g => ls k 0 ek (by omega) (by rw [h k 0 (by omega), iniF_l g]) (nz _ _ (by omega) (by omega))
  have lo : ∀ k i ek, k = 14 ∨ k = 15 → i < 8 → lSh G ((fun _ _ => []), (fun _ _ => 0), fun _ _ => nI 0) C ad k i ek := fun k i ek g hi => ls k i ek (by omega) (by rw [h k i (by omega), iniF_14 g, if_pos hi]) (nz _ _ (by omega) (by omega))
  refine ⟨⟨⟨?_, ?_, ?_, fun i => ?_, fun j => ?_, fun k hk => ?_, fun q => ?_⟩, ⟨lz 10 1 (by omega), lz 12 4 (by omega), lz 13 6 (by omega), fun i hi => ?_, fun k hk => ⟨lo 14 k 4 (by omega) hk, lo 15 k 4 (by omega) hk⟩, fun q hq => ?_, fun i hi => ⟨nz 11 i (by decide) (by decide), nz 21 i (by decide) (by decide)⟩, fun q hq => ?_⟩, ?_, ?_⟩, ?_⟩
  · rw [h 0 0 (by decide), iniF_0]
    unfold reO
    rw [hS]
  · rw [h 7 0 (by decide), iniF_7]
    rfl
  · exact nz 9 0 (by decide) (by decide)
  · rw [nz 1 i (by decide) (by decide), if_neg (by omega)]
  · rw [nz 4 j (by decide) (by decide), if_neg (by omega)]
  · rw [h 5 k (by decide), iniF_5, if_pos hk]
  · rw [hS]
    by_cases e : q = 0
    · rw [e, h 6 0 (by decide), iniF_6, if_pos (Nat.le_refl _)]
    · rw [h 6 q (by decide), iniF_no (by decide) (by decide) e, if_neg (by omega)]
  · omega
  · obtain rfl : q = 0 := by omega
    exact ⟨lz 16 5 (by omega), lz 17 4 (by omega)⟩
  · have hq0 : q ≠ 0 := by omega
    exact ⟨by rw [h 16 q (by decide), iniF_no (by decide) (by decide) hq0], nz 26 q (by decide) (by decide), by rw [h 17 q (by decide), iniF_no (by decide) (by decide) hq0], nz 27 q (by decide) (by decide)⟩
  · refine cNu.mk _ (by omega) (by omega) (by omega) (fun i hi => by omega) (fun j hj => by omega) (fun k hk => ?_)
    rw [z 10 k (by decide), T00_11 hk]
    decide
  · refine ⟨⟨by rw [hD]; rfl, Or.inl rfl⟩, ⟨by rw [hC]; rfl, Or.inl rfl⟩, ⟨by rw [hS]; rfl, Or.inl rfl⟩, fun i hi => by omega, fun k hk => ⟨List.Pairwise.nil, fun j => ⟨fun q => (nomatch q), fun q => by omega⟩, Nat.zero_le _, Or.inl rfl⟩, fun k hk => ⟨fun j q => (nomatch q), Nat.zero_le _, Or.inl rfl⟩, fun q hq => ⟨fun x g => (nomatch g), fun x g => (nomatch g), rfl, Nat.zero_le _, Or.inl rfl, Or.inl rfl⟩, fun q hq => by omega⟩
  · intro i hi
    omega
end IN

set_option maxHeartbeats 4000000 in
set_option maxRecDepth 100000 in
theorem c_X4_init {G : rG} {l : Launch} {C : rC} {ad : rA} {v0 v1 v2 v3 v4 : Value} (h0 : C 0 0 = some (.inr (5, [v0, v1, v2, v3, v4]))) (hno : ∀ k i, k < 30 → ¬ (k = 0 ∧ i = 0) → C k i = none) : rMet G l yX4_init cX4_init 2 none (rmM 8 33 120) [.ref (ad 0 0)] C ad (rVoid fun C' ad' => (∃ L', cInv G T00 L' C' ad') ∧ cFr C ad C' ad') := by
  refine rMet.of (by decide) ?_
  intro p e s m below meth c hx hb hml hr hlocks hown hname hK hZ hS
  have hown : s.vm.findClass RX4 = some m.cls := hown
  have hA : ∀ q : Nat, s.heap.size ≤ q → (rF C ad s.heap.size) q := rF.new
  refine r_entry _ (Nat.le_of_ble_eq_true rfl) (fun ls hl => ?_)
  have hl : lv_has ls 2 [(0, .ref (ad 0 0))] := hl
  refine lv_aload_n hx hb dX4_init_0 rfl (lv_at hl 0 rfl) ?_
  refine oi_X4_1 hx hb hown hK (by rw [hml]; exact hl.1) dX4_init_1 (Nat.le_of_ble_eq_true rfl) (Nat.le_of_ble_eq_true rfl) ?_
  refine lv_aload_n hx hb dX4_init_4 rfl (lv_at hl 0 rfl) ?_
  refine nw_X4_7 hx hb hown hK hS hA 10 0 (hno 10 0 (by decide) (by decide)) (by dsimp only [rmM, rmP]; omega) (by dsimp only [rmM, rmP]; omega) dX4_init_5 (fun q3 H hS => ?_)
  obtain ⟨ad3, had3⟩ : ∃ z, z = ru ad 10 0 q3 := ⟨_, rfl⟩
  rw [← had3] at hS
  have ead30 : ad 0 0 = ad3 0 0 := by rw [had3]; exact (ru_n (fun z => absurd z.1 (by decide))).symm
  try rw [ead30] at hl
  try rw [ead30]
  have qad3 : q3 = ad3 10 0 := by rw [had3, ru_e]
  try rw [qad3]
  refine lv_dup hx hb dX4_init_8 rfl ?_
  refine cl_X4_9 hx hb hml hown hK hZ hS hA (c_Jx4a65c_init_da8c8 ru_e) rfl hl.1 (Nat.le_of_ble_eq_true rfl) ⟨Nat.le_of_ble_eq_true rfl, Nat.le_of_ble_eq_true rfl⟩ ⟨(by dsimp only [rmM, rmP]; omega), (by dsimp only [rmM, rmP]; omega)⟩ rfl dX4_init_9 (r_kv (fun C' ad' H locs hQ hS => ?_))
  obtain ⟨rfl, rfl⟩ := hQ
  rw [ru_ru] at hS
  refine pf_X4_10 hx hb hown hK hS hname ((ru_k (by decide)).trans (h0)) rfl rfl (fs' := [.ref (ad3 10 0), v1, v2, v3, v4]) (Nat.le_of_ble_eq_true rfl) rfl dX4_init_12 (fun H locs hS => ?_)
  refine lv_aload_n hx hb dX4_init_15 rfl (lv_at hl 0 rfl) ?_
  refine nw_X4_7 hx hb hown hK hS hA 12 0 (by rw [ru_k (by decide), ru_k (by decide), hno 12 0 (by decide) (by decide)]) (by dsimp only [rmM, rmP]; omega) (by dsimp only [rmM, rmP]; omega) dX4_init_16 (fun q4 H hS => ?_)
  obtain ⟨ad4, had4⟩ : ∃ z, z = ru ad3 12 0 q4 := ⟨_, rfl⟩
  rw [← had4] at hS
  have ead40 : ad3 0 0 = ad4 0 0 := by rw [had4]; exact (ru_n (fun z => absurd z.1 (by decide))).symm
  try rw [ead40] at hl
  try rw [ead40]
  have qad4 : q4 = ad4 12 0 := by rw [had4, ru_e]
  try rw [qad4]
  refine lv_dup hx hb dX4_init_19 rfl ?_
  refine cl_X4_9 hx hb hml hown hK hZ hS hA (c_Jx4a65c_init_da8c8 ru_e) rfl hl.1 (Nat.le_of_ble_eq_true rfl) ⟨Nat.le_of_ble_eq_true rfl, Nat.le_of_ble_eq_true rfl⟩ ⟨(by dsimp only [rmM, rmP]; omega), (by dsimp only [rmM, rmP]; omega)⟩ rfl dX4_init_20 (r_kv (fun C' ad' H locs hQ hS => ?_))
  obtain ⟨rfl, rfl⟩ := hQ
  rw [ru_ru] at hS
  refine pf_X4_16 hx hb hown hK hS hname ((ru_k (by decide)).trans (ru_e)) rfl rfl (fs' := [.ref (ad3 10 0), .ref (ad4 12 0), v2, v3, v4]) (Nat.le_of_ble_eq_true rfl) rfl dX4_init_23 (fun H locs hS => ?_)
  refine lv_aload_n hx hb dX4_init_26 rfl (lv_at hl 0 rfl) ?_
  refine lv_bipush (v := nI 8) hx hb dX4_init_27 (by decide) ?_
  refine aq_X4_19 hx hb hown hK hS hA 7 0 (by rw [ru_k (by decide), ru_k (by decide), ru_k (by decide), ru_k (by decide), hno 7 0 (by decide) (by decide)]) (N' := 8) (by decide) rfl (by decide) (by dsimp only [rmM, rmP]; omega) (by dsimp only [rmM, rmP]; omega) dX4_init_29 (fun q5 H hS => ?_)
  obtain ⟨ad5, had5⟩ : ∃ z, z = ru ad4 7 0 q5 := ⟨_, rfl⟩
  rw [← had5] at hS
  have ead50 : ad4 0 0 = ad5 0 0 := by rw [had5]; exact (ru_n (fun z => absurd z.1 (by decide))).symm
  try rw [ead50] at hl
  try rw [ead50]
  have qad5 : q5 = ad5 7 0 := by rw [had5, ru_e]
  try rw [qad5]
  refine pf_X4_21 hx hb hown hK hS hname ((ru_k (by decide)).trans (ru_e)) rfl rfl (fs' := [.ref (ad3 10 0), .ref (ad4 12 0), .ref (ad5 7 0), v3, v4]) (Nat.le_of_ble_eq_true rfl) rfl dX4_init_32 (fun H locs hS => ?_)
  refine lv_aload_n hx hb dX4_init_35 rfl (lv_at hl 0 rfl) ?_
  refine nw_X4_7 hx hb hown hK hS hA 13 0 (by rw [ru_k (by decide), ru_k (by decide), ru_k (by decide), ru_k (by decide), ru_k (by decide), ru_k (by decide), hno 13 0 (by decide) (by decide)]) (by dsimp only [rmM, rmP]; omega) (by dsimp only [rmM, rmP]; omega) dX4_init_36 (fun q6 H hS => ?_)
  obtain ⟨ad6, had6⟩ : ∃ z, z = ru ad5 13 0 q6 := ⟨_, rfl⟩
  rw [← had6] at hS
  have ead60 : ad5 0 0 = ad6 0 0 := by rw [had6]; exact (ru_n (fun z => absurd z.1 (by decide))).symm
  try rw [ead60] at hl
  try rw [ead60]
  have qad6 : q6 = ad6 13 0 := by rw [had6, ru_e]
  try rw [qad6]
  refine lv_dup hx hb dX4_init_39 rfl ?_
  refine cl_X4_9 hx hb hml hown hK hZ hS hA (c_Jx4a65c_init_da8c8 ru_e) rfl hl.1 (Nat.le_of_ble_eq_true rfl) ⟨Nat.le_of_ble_eq_true rfl, Nat.le_of_ble_eq_true rfl⟩ ⟨(by dsimp only [rmM, rmP]; omega), (by dsimp only [rmM, rmP]; omega)⟩ rfl dX4_init_40 (r_kv (fun C' ad' H locs hQ hS => ?_))
  obtain ⟨rfl, rfl⟩ := hQ
  rw [ru_ru] at hS
  refine pf_X4_25 hx hb hown hK hS hname ((ru_k (by decide)).trans (ru_e)) rfl rfl (fs' := [.ref (ad3 10 0), .ref (ad4 12 0), .ref (ad5 7 0), .ref (ad6 13 0), v4]) (Nat.le_of_ble_eq_true rfl) rfl dX4_init_43 (fun H locs hS => ?_)
  refine lv_aload_n hx hb dX4_init_46 rfl (lv_at hl 0 rfl) ?_
  refine nw_X4_28 hx hb hown hK hS hA 6 0 (by rw [ru_k (by decide), ru_k (by decide), ru_k (by decide), ru_k (by decide), ru_k (by decide), ru_k (by decide), ru_k (by decide), ru_k (by decide), hno 6 0 (by decide) (by decide)]) (by dsimp only [rmM, rmP]; omega) (by dsimp only [rmM, rmP]; omega) dX4_init_47 (fun q7 H hS => ?_)
  obtain ⟨ad7, had7⟩ : ∃ z, z = ru ad6 6 0 q7 := ⟨_, rfl⟩
  rw [← had7] at hS
  have ead70 : ad6 0 0 = ad7 0 0 := by rw [had7]; exact (ru_n (fun z => absurd z.1 (by decide))).symm
  try rw [ead70] at hl
  try rw [ead70]
  have qad7 : q7 = ad7 6 0 := by rw [had7, ru_e]
  try rw [qad7]
  refine lv_dup hx hb dX4_init_50 rfl ?_
  refine cl_X4_30 hx hb hml hown hK hZ hS hA (c_X3_init (q := 0) ru_e (by rw [ru_k (by decide), ru_k (by decide), ru_k (by decide), ru_k (by decide), ru_k (by decide), ru_k (by decide), ru_k (by decide), ru_k (by decide), ru_k (by decide), hno 16 0 (by decide) (by decide)]) (by rw [ru_k (by decide), ru_k (by decide), ru_k (by decide), ru_k (by decide), ru_k (by decide), ru_k (by decide), ru_k (by decide), ru_k (by decide), ru_k (by decide), hno 17 0 (by decide) (by decide)])) rfl hl.1 (Nat.le_of_ble_eq_true rfl) ⟨Nat.le_of_ble_eq_true rfl, Nat.le_of_ble_eq_true rfl⟩ ⟨(by dsimp only [rmM, rmP]; omega), (by dsimp only [rmM, rmP]; omega)⟩ rfl dX4_init_51 (r_kv (fun C' ad' H locs hQ hS => ?_))
  obtain ⟨hC8, qa, qb, hq8⟩ := hQ
  obtain ⟨C8, hC8e⟩ : ∃ z, z = C' := ⟨_, rfl⟩
  obtain ⟨ad8, had8e⟩ : ∃ z, z = ad' := ⟨_, rfl⟩
  rw [← hC8e, ← had8e] at hS
  rw [← hC8e, ← had8e] at hC8
  rw [← had8e] at hq8
  have hE8 : ∀ a, a < 10 → ad8 a = ad7 a := fun a ha => by rw [hq8]; exact funext fun b => (ru_k (by omega)).trans (ru_k (by omega))
  have ead80 : ad7 0 0 = ad8 0 0 := (congrFun (hE8 0 (by decide)) 0).symm
  try rw [ead80] at hl
  try rw [ead80]
  have ead81 : ad7 6 0 = ad8 6 0 := (congrFun (hE8 6 (by decide)) 0).symm
  try rw [ead81] at hl
  try rw [ead81]
  have h08 : C8 0 0 = some (.inr (5, [.ref (ad3 10 0), .ref (ad4 12 0), .ref (ad5 7 0), .ref (ad6 13 0), v4])) := by rw [← hC8]; exact (ru_k (by decide)).trans ((ru_k (by decide)).trans ((ru_k (by decide)).trans ((ru_k (by decide)).trans (ru_e))))
  refine pf_X4_31 hx hb hown hK hS h08 rfl rfl (fs' := [.ref (ad3 10 0), .ref (ad4 12 0), .ref (ad5 7 0), .ref (ad6 13 0), .ref (ad8 6 0)]) (Nat.le_of_ble_eq_true rfl) rfl dX4_init_54 (fun H locs hS => ?_)
  have hi0 : iniP G 0 (ru C8 0 0 (some (.inr (5, [.ref (ad3 10 0), .ref (ad4 12 0), .ref (ad5 7 0), .ref (ad6 13 0), .ref (ad8 6 0)])))) ad8 := by
    intro k i hk
    by_cases g0 : k = 0 ∧ i = 0
    · obtain ⟨rfl, rfl⟩ := g0
      rw [iniF_0, ru_e, hq8, had7, had6, had5, had4]
      rfl
    by_cases g10 : k = 10 ∧ i = 0
    · obtain ⟨rfl, rfl⟩ := g10
      rw [iniF_l (by decide), ru_k (by decide), ← hC8]
      exact (ru_k (by decide)).trans ((ru_k (by decide)).trans ((ru_k (by decide)).trans ((ru_k (by decide)).trans ((ru_k (by decide)).trans ((ru_k (by decide)).trans ((ru_k (by decide)).trans ((ru_k (by decide)).trans ((ru_k (by decide)).trans ((ru_k (by decide)).trans ((ru_k (by decide)).trans (ru_e)))))))))))
    by_cases g12 : k = 12 ∧ i = 0
    · obtain ⟨rfl, rfl⟩ := g12
      rw [iniF_l (by decide), ru_k (by decide), ← hC8]
      exact (ru_k (by decide)).trans ((ru_k (by decide)).trans ((ru_k (by decide)).trans ((ru_k (by decide)).trans ((ru_k (by decide)).trans ((ru_k (by decide)).trans ((ru_k (by decide)).trans ((ru_k (by decide)).trans ((ru_k (by decide)).trans (ru_e)))))))))
    by_cases g13 : k = 13 ∧ i = 0
    · obtain ⟨rfl, rfl⟩ := g13
      rw [iniF_l (by decide), ru_k (by decide), ← hC8]
      exact (ru_k (by decide)).trans ((ru_k (by decide)).trans ((ru_k (by decide)).trans ((ru_k (by decide)).trans ((ru_k (by decide)).trans (ru_e)))))
    by_cases g7 : k = 7 ∧ i = 0
    · obtain ⟨rfl, rfl⟩ := g7
      rw [iniF_7, ru_k (by decide), ← hC8]
      exact (ru_k (by decide)).trans ((ru_k (by decide)).trans ((ru_k (by decide)).trans ((ru_k (by decide)).trans ((ru_k (by decide)).trans ((ru_k (by decide)).trans ((ru_k (by decide)).trans (ru_e)))))))
    by_cases g6 : k = 6 ∧ i = 0
    · obtain ⟨rfl, rfl⟩ := g6
      rw [iniF_6, ru_k (by decide), ← hC8]
      exact ru_e
    by_cases g16 : k = 16 ∧ i = 0
    · obtain ⟨rfl, rfl⟩ := g16
      rw [iniF_l (by decide), ru_k (by decide), ← hC8]
      exact (ru_k (by decide)).trans ((ru_k (by decide)).trans ru_e)
    by_cases g17 : k = 17 ∧ i = 0
    · obtain ⟨rfl, rfl⟩ := g17
      rw [iniF_l (by decide), ru_k (by decide), ← hC8]
      exact (ru_k (by decide)).trans ru_e
    have e : iniF G 0 ad8 k i = none := by
      by_cases h5 : k = 5
      · rw [h5, iniF_5, if_neg (Nat.not_lt_zero _)]
      · by_cases h14 : k = 14 ∨ k = 15
        · rw [iniF_14 h14, if_neg (Nat.not_lt_zero _)]
        · by_cases hi : i = 0
          · exact iniF_z (by omega)
          · exact iniF_no h5 h14 hi
    rw [e, ru_n g0, ← hC8, ru_n g6, ru_n g17, ru_n g16, ru_n g6, ru_n g0, ru_n g13, ru_n g0, ru_n g7, ru_n g0, ru_n g12, ru_n g0, ru_n g10, hno k i hk g0]
  have hE0 : ad8 0 0 = ad 0 0 := by rw [hq8, had7, had6, had5, had4, had3, ru_k (by decide), ru_k (by decide), ru_k (by decide), ru_k (by decide), ru_k (by decide), ru_k (by decide), ru_k (by decide)]
  have hF0 : cFr C ad (ru C8 0 0 (some (.inr (5, [.ref (ad3 10 0), .ref (ad4 12 0), .ref (ad5 7 0), .ref (ad6 13 0), .ref (ad8 6 0)])))) ad8 := ⟨fun k i hk => ⟨by rw [ru_k (by omega), ← hC8, ru_k (by omega), ru_k (by omega), ru_k (by omega), ru_k (by omega), ru_k (by omega), ru_k (by omega), ru_k (by omega), ru_k (by omega), ru_k (by omega), ru_k (by omega), ru_k (by omega), ru_k (by omega)], by rw [hq8, had7, had6, had5, had4, had3, ru_k (by omega), ru_k (by omega), ru_k (by omega), ru_k (by omega), ru_k (by omega), ru_k (by omega), ru_k (by omega)]⟩, hE0⟩
  obtain ⟨C9, hC9⟩ : ∃ z, z = (ru C8 0 0 (some (.inr (5, [.ref (ad3 10 0), .ref (ad4 12 0), .ref (ad5 7 0), .ref (ad6 13 0), .ref (ad8 6 0)])))) := ⟨_, rfl⟩
  rw [← hC9] at hS hi0 hF0
  refine lv_iconst (v := nI 0) hx hb dX4_init_57 (by decide) ?_
  refine lv_istore_n (lv' := [(1, .int (nI 0)), (0, .ref (ad8 0 0))]) hx hb dX4_init_58 rfl hl (by decide) rfl (fun ls hl => ?_)
  refine r_loop (σ := Nat × rC × rA) (fun ⟨n, C2, ad2⟩ => 8 - n) (fun ⟨n, C2, ad2⟩ H locs ls => (n ≤ 8) ∧ (iniP G n C2 ad2) ∧ (cFr C ad C2 ad2) ∧ rS G.1 (rF C ad s.heap.size) s.heap C2 ad2 H locs ∧ lv_has ls 2 [(1, .int (nI n)), (0, .ref (ad2 0 0))]) (fun ⟨n, _, _⟩ => 7 + 3 * n) (fun ⟨n, _, _⟩ => 25 + 11 * n) (fun z ih H locs ls hI => ?_) (0, C9, ad8) (by dsimp only [rmM, rmP]; omega) (by dsimp only [rmM, rmP]; omega) ⟨Nat.zero_le _, hi0, hF0, hS, lv_sub hl [0, 1] rfl⟩
  obtain ⟨n, C2, ad2⟩ := z
  obtain ⟨hn8, hP2, hF2, hS, hl⟩ := hI
  try dsimp only at hn8 hP2 hF2 hS hl ih ⊢
  refine lv_iload_n hx hb dX4_init_59 rfl (lv_at hl 0 rfl) ?_
  refine lv_bipush (v := nI 8) hx hb dX4_init_60 (by decide) ?_
  refine r_icmp_ge (a := n) (b := 8) (tgt := 85) hx hb (by omega) (by omega) dX4_init_62 (by decide) (fun q62 => ?_) (fun q62 => ?_)
  · -- T
    obtain rfl : n = 8 := by omega
    exact r_vret hx hb hr hlocks hS (⟨rfl, ⟨_, hP2.inv⟩, hF2⟩) (by dsimp only [rmM, rmP]; omega) (by dsimp only [rmM, rmP]; omega) dX4_init_85
  · -- F
    have q62 : n < 8 := by omega
    refine lv_aload_n hx hb dX4_init_65 rfl (lv_at hl 1 rfl) ?_
    refine gf_X4_21 hx hb hown hK hS ((hP2 0 0 (by decide)).trans iniF_0) rfl dX4_init_66 ?_
    refine lv_iload_n hx hb dX4_init_69 rfl (lv_at hl 0 rfl) ?_
    refine nw_X4_19 hx hb hown hK hS hA 5 n (by rw [hP2 5 n (by decide), iniF_5, if_neg (Nat.lt_irrefl _)]) (by dsimp only [rmM, rmP]; omega) (by dsimp only [rmM, rmP]; omega) dX4_init_70 (fun q9 H hS => ?_)
    obtain ⟨ad3, had3⟩ : ∃ z, z = ru ad2 5 n q9 := ⟨_, rfl⟩
    rw [← had3] at hS
    have ead30 : ad2 0 0 = ad3 0 0 := by rw [had3]; exact (ru_n (fun z => absurd z.1 (by decide))).symm
    try rw [ead30] at hl
    try rw [ead30]
    have ead31 : ad2 7 0 = ad3 7 0 := by rw [had3]; exact (ru_n (fun z => absurd z.1 (by decide))).symm
    try rw [ead31] at hl
    try rw [ead31]
    have qad3 : q9 = ad3 5 n := by rw [had3, ru_e]
    try rw [qad3]
    refine lv_dup hx hb dX4_init_73 rfl ?_
    refine lv_iload_n hx hb dX4_init_74 rfl (lv_at hl 0 rfl) ?_
    refine cl_X4_35 hx hb hml hown hK hZ hS hA (c_X1_init (k := n) ru_e ((ru_k (by decide)).trans (by rw [hP2 14 n (by decide), iniF_14 (Or.inl rfl), if_neg (Nat.lt_irrefl _)])) ((ru_k (by decide)).trans (by rw [hP2 15 n (by decide), iniF_14 (Or.inr rfl), if_neg (Nat.lt_irrefl _)]))) rfl hl.1 (Nat.le_of_ble_eq_true rfl) ⟨Nat.le_of_ble_eq_true rfl, Nat.le_of_ble_eq_true rfl⟩ ⟨(by dsimp only [rmM, rmP]; omega), (by dsimp only [rmM, rmP]; omega)⟩ rfl dX4_init_75 (r_kv (fun C' ad' H locs hQ hS => ?_))
    obtain ⟨hC4, qa9, qb9, hq4⟩ := hQ
    obtain ⟨C4, hC4e⟩ : ∃ z, z = C' := ⟨_, rfl⟩
    obtain ⟨ad5, had5e⟩ : ∃ z, z = ad' := ⟨_, rfl⟩
    rw [← hC4e, ← had5e] at hS
    rw [← hC4e, ← had5e] at hC4
    rw [← had5e] at hq4
    have hE5 : ∀ a, a < 10 → ad5 a = ad3 a := fun a ha => by rw [hq4]; exact funext fun b => (ru_k (by omega)).trans (ru_k (by omega))
    have ead50 : ad3 0 0 = ad5 0 0 := (congrFun (hE5 0 (by decide)) 0).symm
    try rw [ead50] at hl
    try rw [ead50]
    have ead51 : ad3 5 n = ad5 5 n := (congrFun (hE5 5 (by decide)) n).symm
    try rw [ead51] at hl
    try rw [ead51]
    have ead52 : ad3 7 0 = ad5 7 0 := (congrFun (hE5 7 (by decide)) 0).symm
    try rw [ead52] at hl
    try rw [ead52]
    have h54 : C4 5 n = some (.inr (2, [.int (nI n), .int 0, .int (nI 50), .ref (ad5 14 n), .ref (ad5 15 n)])) := by rw [← hC4]; exact ru_e
    have h74 : C4 7 0 = some (.inl (G.2.1 3, 8, .inr (.inr (.inr (.inr (fun x => if x < n then some (ad2 5 x) else none)))))) := by rw [← hC4, ru_k (by decide), ru_k (by decide), ru_k (by decide), ru_k (by decide), hP2 7 0 (by decide), iniF_7]
    refine r_aastS (r := (RX1, TX1, 5)) (f' := va_up (fun x => if x < n then some (ad2 5 x) else none) n (some (ad5 5 n))) hx hb hK.1 hS 3 h74 rfl h54 rfl (nI_in0 (by omega) (by omega)) (by rw [nI_clamp (by omega)]) dX4_init_78 (fun H locs hS => ?_)
    have aN5 : ∀ a b, ¬ ((a = 5 ∨ a = 14 ∨ a = 15) ∧ b = n) → ad5 a b = ad2 a b := fun a b h2 => by rw [hq4, ru_n (fun z => h2 ⟨Or.inr (Or.inr z.1), z.2⟩), ru_n (fun z => h2 ⟨Or.inr (Or.inl z.1), z.2⟩), had3, ru_n (fun z => h2 ⟨Or.inl z.1, z.2⟩)]
    have hP5 : iniP G (n + 1) (ru C4 7 0 (some (.inl (G.2.1 3, 8, .inr (.inr (.inr (.inr (va_up (fun x => if x < n then some (ad2 5 x) else none) n (some (ad5 5 n)))))))))) ad5 := hP2.next q62 aN5 ((ru_k (by decide)).trans h54) (by rw [ru_k (by decide), ← hC4, ru_k (by decide), ru_k (by decide), ru_e]) (by rw [ru_k (by decide), ← hC4, ru_k (by decide), ru_e]) ru_e (fun a b h1 h2 => by rw [ru_n h2, ← hC4, ru_n (fun z => h1 ⟨Or.inl z.1, z.2⟩), ru_n (fun z => h1 ⟨Or.inr (Or.inr z.1), z.2⟩), ru_n (fun z => h1 ⟨Or.inr (Or.inl z.1), z.2⟩), ru_n (fun z => h1 ⟨Or.inl z.1, z.2⟩)])
    have hF5 : cFr C2 ad2 (ru C4 7 0 (some (.inl (G.2.1 3, 8, .inr (.inr (.inr (.inr (va_up (fun x => if x < n then some (ad2 5 x) else none) n (some (ad5 5 n)))))))))) ad5 := ⟨fun a b ha => ⟨by rw [ru_k (by omega), ← hC4, ru_k (by omega), ru_k (by omega), ru_k (by omega), ru_k (by omega)], aN5 a b (fun z => by omega)⟩, aN5 0 0 (fun z => by omega)⟩
    obtain ⟨C5, hC5⟩ : ∃ z, z = (ru C4 7 0 (some (.inl (G.2.1 3, 8, .inr (.inr (.inr (.inr (va_up (fun x => if x < n then some (ad2 5 x) else none) n (some (ad5 5 n)))))))))) := ⟨_, rfl⟩
    rw [← hC5] at hS hP5 hF5
    refine lv_iinc (v := nI (n + 1)) (lv' := [(1, .int (nI (n + 1))), (0, .ref (ad5 0 0))]) hx hb dX4_init_79 hl (k := 0) rfl (nI_inc _) (by decide) rfl (fun ls hl => ?_)
    refine lv_goto (tgt := 59) hx hb dX4_init_82 (by decide) ?_
    refine W.widen (by dsimp only [rmM, rmP]; omega) (by dsimp only [rmM, rmP]; omega) (ih (n + 1, C5, ad5) (show 8 - (n + 1) < 8 - n by omega) _ _ _ ⟨(show n + 1 ≤ 8 by omega), hP5, (hF2.tr hF5), hS, lv_sub hl [0, 1] rfl⟩)
