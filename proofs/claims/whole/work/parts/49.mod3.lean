/-! the model: the calls that write (printed by wip/whole/gen/mod3.py) -/
theorem inB_t {a b c : Int32} (h : inB a b c = true) : ¬ a < b ∧ a ≤ c := by
  by_cases h1 : a < b
  · rw [inB_1 h1] at h
    cases h
  · by_cases h2 : c < a
    · rw [inB_2 h2] at h
      cases h
    · exact ⟨h1, Int32.not_lt.mp h2⟩
theorem inB_f {a b c : Int32} (h : inB a b c = false) : a < b ∨ ¬ a ≤ c := by
  by_cases h1 : a < b
  · exact Or.inl h1
  · by_cases h2 : c < a
    · exact Or.inr (Int32.not_le.mpr h2)
    · rw [inB_3 h1 h2] at h
      cases h
theorem wN_t {b : Bool} (h : wN b = 1) : b = true := by
  cases b
  · cases h
  · rfl
theorem wN_f {b : Bool} (h : ¬ wN b = 1) : b = false := by
  cases b
  · rfl
  · exact absurd rfl h
theorem dieN_eq {T : rTab} (hz : mZ T) {t df : Nat} : mEq (addT T t df) (ru (ru (ru T 1 (nD T) t) 2 (nD T) df) 0 0 (nD T + 1)) := by
  intro a b h20 _
  have z := hz.1 (nD T) (Nat.le_refl _)
  refine ruc ?_
  refine Eq.trans ?_ (ru_k h20).symm
  rw [ru_id (f := ru (ru (ru T 1 (nD T) t) 2 (nD T) df) 3 (nD T) 0) (k := 4), ru_id (k := 3)]
  · exact (ru_k (by decide)).trans ((ru_k (by decide)).trans z.2.1)
  · exact (ru_k (by decide)).trans ((ru_k (by decide)).trans ((ru_k (by decide)).trans z.2.2))
theorem addD_eq {T : rTab} (hz : mZ T) {t : Nat} : mEq (addT T t 0) (ru (ru T 1 (nD T) t) 0 0 (nD T + 1)) := by
  have z := hz.1 (nD T) (Nat.le_refl _)
  have h := dieN_eq hz (t := t) (df := 0)
  rw [ru_id (f := ru T 1 (nD T) t) (k := 2) ((ru_k (by decide)).trans z.1)] at h
  exact h
theorem coin_eq {T : rTab} {d : Nat} (h7 : T 7 (nC T) = 0) (h8 : T 8 (nC T) = 0) (h9 : T 9 (nC T) = 0) : mEq (ru (ru (ru T 5 (nC T) d) 6 (nC T) (T 2 d)) 0 1 (nC T + 1)) (coinT T d) := by
  intro a b _ h21
  refine ruc ?_
  refine Eq.trans (ru_k h21) ?_
  have k : ∀ x, x ≠ 5 → x ≠ 6 → ru (ru T 5 (nC T) d) 6 (nC T) (T 2 d) x (nC T) = T x (nC T) := fun x g5 g6 => (ru_k g6).trans (ru_k g5)
  rw [ru_id (k := 9), ru_id (k := 8), ru_id (k := 7)]
  · exact (k 7 (by decide) (by decide)).trans h7
  · exact (ru_k (by decide)).trans ((k 8 (by decide) (by decide)).trans h8)
  · exact (ru_k (by decide)).trans ((ru_k (by decide)).trans ((k 9 (by decide) (by decide)).trans h9))
theorem strikeI_i {T : rTab} {d a j : Nat} (h0 : a ≠ 0) : ∀ i, nC T + i ≤ j → strikeI T d i a j = T a j := by
  intro i
  induction i with
  | zero => exact fun _ => rfl
  | succ i ih =>
    intro h
    exact (coinT_i h0 (by rw [strikeI_C]; omega)).trans (ih (by omega))
theorem strike_eq {T : rTab} {d n v : Nat} (hv : v = T 3 d + n) : mEq (strikeT T d n) (ru (strikeI T d n) 3 d v) := by
  subst hv
  exact fun a b h20 _ => (ru_k h20).symm
theorem melt_eq {T : rTab} {j : Nat} : mEq (meltT T j) (ru (ru (ru T 7 j 1) 8 j 0) 9 j 0) := fun a b h20 _ => (ru_k h20).symm
theorem mark_eq {T : rTab} {j : Nat} {w : Bool} {v : Nat} (h : wN w = v) : mEq (markT T j w) (ru T 9 j v) := by
  subst h
  exact fun a b _ h21 => (ru_k h21).symm
def cndM (T : rTab) (d i : Nat) : rTab := fun a b => if a = 4 ∧ b = d then 1 else if a = 10 ∧ b < i then clrB (T 10 b) d else T a b
theorem cndM_0 {T : rTab} {d : Nat} : cndM T d 0 = ru T 4 d 1 := by
  funext a b
  unfold cndM ru
  by_cases e : a = 4 ∧ b = d
  · rw [if_pos e, if_pos e]
  · rw [if_neg e, if_neg e, if_neg (fun z => Nat.not_lt_zero _ z.2)]
theorem cndM_s {T : rTab} {d i : Nat} : cndM T d (i + 1) = ru (cndM T d i) 10 i (clrB (cndM T d i 10 i) d) := by
  have h10 : cndM T d i 10 i = T 10 i := by
    unfold cndM
    rw [if_neg (fun z => absurd z.1 (by decide)), if_neg (fun z => Nat.lt_irrefl _ z.2)]
  rw [h10]
  funext a b
  unfold cndM ru
  dsimp only
  by_cases e : a = 10 ∧ b = i
  · obtain ⟨rfl, rfl⟩ := e
    rw [if_neg (fun z => absurd z.1 (by decide)), if_pos ⟨rfl, Nat.lt_succ_self _⟩, if_pos ⟨rfl, rfl⟩]
  · rw [if_neg e]
    by_cases e4 : a = 4 ∧ b = d
    · rw [if_pos e4, if_pos e4]
    · rw [if_neg e4, if_neg e4]
      by_cases g : a = 10 ∧ b < i
      · rw [if_pos g, if_pos ⟨g.1, by omega⟩]
      · rw [if_neg g, if_neg (fun z => g ⟨z.1, by omega⟩)]
theorem cnd_eq {T : rTab} {d : Nat} (hz : mZ T) : mEq (condT T d) (cndM T d 8) := by
  intro a b h20 _
  unfold cndM condT
  by_cases e : a = 4 ∧ b = d
  · rw [if_pos e, if_pos e]
  · rw [if_neg e, if_neg e, if_neg (show ¬ (a = 20 ∧ b = d) from fun z => h20 z.1)]
    by_cases g : a = 10
    · rw [if_pos g]
      by_cases h8 : b < 8
      · rw [if_pos (show a = 10 ∧ b < 8 from ⟨g, h8⟩)]
      · rw [if_neg (show ¬ (a = 10 ∧ b < 8) from fun z => h8 z.2), g, hz.2.2 b (by omega)]
        exact (Nat.zero_and _).symm
    · rw [if_neg g, if_neg (show ¬ (a = 10 ∧ b < 8) from fun z => g z.1)]
theorem cndM_10 {T : rTab} {d i : Nat} : cndM T d i 10 i = T 10 i := by
  unfold cndM
  rw [if_neg (fun z => absurd z.1 (by decide)), if_neg (fun z => Nat.lt_irrefl _ z.2)]

set_option maxHeartbeats 4000000 in
set_option maxRecDepth 100000 in
theorem c_X5_addDie {G : rG} {l : Launch} {T : rTab} {th : Int32} {rg : Nat → Int32} {C : rC} {ad : rA} (hN : mNu T) (a : Int32) : rMet G l yX5_addDie cX5_addDie 2 (some .int) (rmP 2) [.ref (ad 30 0), .int a] (mC G T th rg C ad) ad (mP G (sAddDie T a) rg C ad) := by
  refine rMet.of (by decide) ?_
  intro p e s m below meth c hx hb hml hr hlocks hown hname hK hZ hS
  have hown : s.vm.findClass RX5 = some m.cls := hown
  have hA : ∀ q : Nat, s.heap.size ≤ q → (rF (mC G T th rg C ad) ad s.heap.size) q := rF.new
  refine r_entry _ (Nat.le_of_ble_eq_true rfl) (fun ls hl => ?_)
  have hl : lv_has ls 2 [(0, .ref (ad 30 0)), (1, .int a)] := hl
  have hnD := hN.hD
  have hnC := hN.hC
  have hnS := hN.hS
  refine lv_aload_n hx hb dX5_addDie_0 rfl (lv_at hl 0 rfl) ?_
  refine lv_iload_n hx hb dX5_addDie_1 rfl (lv_at hl 1 rfl) ?_
  refine lv_iconst (v := nI 0) hx hb dX5_addDie_2 (by decide) ?_
  refine lv_iconst (v := nI 3) hx hb dX5_addDie_3 (by decide) ?_
  refine cl_X5_59 hx hb hml hown hK hZ hS hA (c_X5_in a (nI 0) (nI 3)) rfl hl.1 (Nat.le_of_ble_eq_true rfl) ⟨Nat.le_of_ble_eq_true rfl, Nat.le_of_ble_eq_true rfl⟩ ⟨Nat.zero_le _, Nat.zero_le _⟩ rfl dX5_addDie_4 (r_kp (fun H locs hS => ?_))
  refine r_top (y := bI (ixO a 4).isSome) (by rw [in_ixk (by omega)]) ?_
  refine r_ifb_ne (b := ((ixO a 4).isSome)) (tgt := 14) hx hb dX5_addDie_7 (by decide) (fun q7 => ?_) (fun q7 => ?_)
  · -- T
    obtain ⟨t, ht, hix, rfl⟩ := ix_get q7
    refine lv_aload_n hx hb dX5_addDie_14 rfl (lv_at hl 0 rfl) ?_
    refine gf_X5_56 hx hb hown hK hS mC_30 (v := .int (nI (nD T))) rfl dX5_addDie_15 ?_
    refine lv_bipush (v := nI 16) hx hb dX5_addDie_18 (by decide) ?_
    refine r_icmp_ne (a := nD T) (b := 16) (tgt := 27) hx hb (by omega) (by omega) dX5_addDie_20 (by decide) (fun q20 => ?_) (fun q20 => ?_)
    · -- T
      refine lv_iconst (v := nI 0) hx hb dX5_addDie_27 (by decide) ?_
      refine pf_X5_52 hx hb hown hK hS mC_30 rfl rfl (fs' := [.int (nI (nD T)), .ref (ad 31 0), .ref (ad 32 0), .ref (ad 33 0), .ref (ad 34 0), .int (nI (nC T)), .ref (ad 35 0), .ref (ad 36 0), .ref (ad 37 0), .ref (ad 38 0), .ref (ad 39 0), .ref (ad 40 0), .ref (ad 41 0), .int (nI (nS T)), .ref (ad 42 0), .ref (ad 43 0), .ref (ad 44 0), .int (nI 0)]) (Nat.le_of_ble_eq_true rfl) rfl dX5_addDie_28 (fun H locs hS => ?_)
      rw [mC_pth] at hS
      refine lv_aload_n hx hb dX5_addDie_31 rfl (lv_at hl 0 rfl) ?_
      refine gf_X5_52 hx hb hown hK hS mC_30 rfl dX5_addDie_32 ?_
      refine r_if_le (a := 0) (tgt := 40) hx hb (by decide) dX5_addDie_35 (by decide) (fun q35 => ?_) (fun q35 => ?_)
      · -- T
        refine lv_aload_n hx hb dX5_addDie_40 rfl (lv_at hl 0 rfl) ?_
        refine gf_X5_7 hx hb hown hK hS mC_30 rfl dX5_addDie_41 ?_
        refine lv_aload_n hx hb dX5_addDie_44 rfl (lv_at hl 0 rfl) ?_
        refine gf_X5_56 hx hb hown hK hS mC_30 (v := .int (nI (nD T))) rfl dX5_addDie_45 ?_
        refine lv_iload_n hx hb dX5_addDie_48 rfl (lv_at hl 1 rfl) ?_
        refine r_iast hx hb hK.1 hS 0 mC_31 rfl (nI_in0 (by omega) (by omega)) (f' := tA (ru T 1 (nD T) t) 1) (tA_put (by omega)) dX5_addDie_49 (fun H locs hS => ?_)
        rw [mC_p31] at hS
        refine lv_aload_n hx hb dX5_addDie_50 rfl (lv_at hl 0 rfl) ?_
        refine lv_dup hx hb dX5_addDie_51 rfl ?_
        refine gf_X5_56 hx hb hown hK hS mC_30 (v := .int (nI (nD T))) rfl dX5_addDie_52 ?_
        refine lv_iconst (v := nI 1) hx hb dX5_addDie_55 (by decide) ?_
        refine lv_iadd hx hb dX5_addDie_56 ?_
        refine r_top (nI_add _ _) ?_
        refine pf_X5_56 hx hb hown hK hS mC_30 rfl rfl (fs' := [.int (nI (nD T + 1)), .ref (ad 31 0), .ref (ad 32 0), .ref (ad 33 0), .ref (ad 34 0), .int (nI ((ru T 1 (nD T) t) 0 1)), .ref (ad 35 0), .ref (ad 36 0), .ref (ad 37 0), .ref (ad 38 0), .ref (ad 39 0), .ref (ad 40 0), .ref (ad 41 0), .int (nI ((ru T 1 (nD T) t) 0 2)), .ref (ad 42 0), .ref (ad 43 0), .ref (ad 44 0), .int (nI 0)]) (Nat.le_of_ble_eq_true rfl) rfl dX5_addDie_57 (fun H locs hS => ?_)
        rw [mC_pn0] at hS
        refine lv_aload_n hx hb dX5_addDie_60 rfl (lv_at hl 0 rfl) ?_
        refine gf_X5_56 hx hb hown hK hS mC_30 (v := .int (nI (nD T + 1))) rfl dX5_addDie_61 ?_
        refine lv_iconst (v := nI 1) hx hb dX5_addDie_64 (by decide) ?_
        refine lv_isub hx hb dX5_addDie_65 ?_
        refine r_top (y := nI (nD T)) (pk_sub (a := nD T + 1) (b := 1) (by omega)) ?_
        exact r_iret hx hb hr hlocks hS (mP.mk0 ((sAddDie_0 hix).trans (if_pos (by omega))) rfl (addD_eq hN.z)) (Nat.zero_le _) (Nat.zero_le _) dX5_addDie_66
      · -- F
        exact absurd q35 (by decide)
    · -- F
      refine lv_iconst (v := nI 2) hx hb dX5_addDie_23 (by decide) ?_
      refine lv_goto (tgt := 28) hx hb dX5_addDie_24 (by decide) ?_
      refine pf_X5_52 hx hb hown hK hS mC_30 rfl rfl (fs' := [.int (nI (nD T)), .ref (ad 31 0), .ref (ad 32 0), .ref (ad 33 0), .ref (ad 34 0), .int (nI (nC T)), .ref (ad 35 0), .ref (ad 36 0), .ref (ad 37 0), .ref (ad 38 0), .ref (ad 39 0), .ref (ad 40 0), .ref (ad 41 0), .int (nI (nS T)), .ref (ad 42 0), .ref (ad 43 0), .ref (ad 44 0), .int (nI 2)]) (Nat.le_of_ble_eq_true rfl) rfl dX5_addDie_28 (fun H locs hS => ?_)
      rw [mC_pth] at hS
      refine lv_aload_n hx hb dX5_addDie_31 rfl (lv_at hl 0 rfl) ?_
      refine gf_X5_52 hx hb hown hK hS mC_30 rfl dX5_addDie_32 ?_
      refine r_if_le (a := 2) (tgt := 40) hx hb (by decide) dX5_addDie_35 (by decide) (fun q35 => ?_) (fun q35 => ?_)
      · -- T
        exact absurd q35 (by decide)
      · -- F
        refine lv_iconst (v := nI 0) hx hb dX5_addDie_38 (by decide) ?_
        exact r_iret hx hb hr hlocks hS (mP.mkE (n := 1) ((sAddDie_0 hix).trans (if_neg (by omega)))) (Nat.zero_le _) (Nat.zero_le _) dX5_addDie_39
  · -- F
    have hix := ix_no q7
    refine lv_iconst (v := nI 1) hx hb dX5_addDie_10 (by decide) ?_
    refine lv_goto (tgt := 28) hx hb dX5_addDie_11 (by decide) ?_
    refine pf_X5_52 hx hb hown hK hS mC_30 rfl rfl (fs' := [.int (nI (nD T)), .ref (ad 31 0), .ref (ad 32 0), .ref (ad 33 0), .ref (ad 34 0), .int (nI (nC T)), .ref (ad 35 0), .ref (ad 36 0), .ref (ad 37 0), .ref (ad 38 0), .ref (ad 39 0), .ref (ad 40 0), .ref (ad 41 0), .int (nI (nS T)), .ref (ad 42 0), .ref (ad 43 0), .ref (ad 44 0), .int (nI 1)]) (Nat.le_of_ble_eq_true rfl) rfl dX5_addDie_28 (fun H locs hS => ?_)
    rw [mC_pth] at hS
    refine lv_aload_n hx hb dX5_addDie_31 rfl (lv_at hl 0 rfl) ?_
    refine gf_X5_52 hx hb hown hK hS mC_30 rfl dX5_addDie_32 ?_
    refine r_if_le (a := 1) (tgt := 40) hx hb (by decide) dX5_addDie_35 (by decide) (fun q35 => ?_) (fun q35 => ?_)
    · -- T
      exact absurd q35 (by decide)
    · -- F
      refine lv_iconst (v := nI 0) hx hb dX5_addDie_38 (by decide) ?_
      exact r_iret hx hb hr hlocks hS (mP.mkE (n := 0) (sAddDie_1 hix)) (Nat.zero_le _) (Nat.zero_le _) dX5_addDie_39

set_option maxHeartbeats 4000000 in
set_option maxRecDepth 100000 in
theorem c_X5_crack {G : rG} {l : Launch} {T : rTab} {th : Int32} {rg : Nat → Int32} {C : rC} {ad : rA} (hN : mNu T) (a b : Int32) : rMet G l yX5_crack cX5_crack 3 (some .int) (rmP 3) [.ref (ad 30 0), .int a, .int b] (mC G T th rg C ad) ad (mP G (sCrack T a b) rg C ad) := by
  refine rMet.of (by decide) ?_
  intro p e s m below meth c hx hb hml hr hlocks hown hname hK hZ hS
  have hown : s.vm.findClass RX5 = some m.cls := hown
  have hA : ∀ q : Nat, s.heap.size ≤ q → (rF (mC G T th rg C ad) ad s.heap.size) q := rF.new
  refine r_entry _ (Nat.le_of_ble_eq_true rfl) (fun ls hl => ?_)
  have hl : lv_has ls 3 [(0, .ref (ad 30 0)), (1, .int a), (2, .int b)] := hl
  have hnD := hN.hD
  have hnC := hN.hC
  have hnS := hN.hS
  refine lv_aload_n hx hb dX5_crack_0 rfl (lv_at hl 0 rfl) ?_
  refine lv_aload_n hx hb dX5_crack_1 rfl (lv_at hl 0 rfl) ?_
  refine lv_iload_n hx hb dX5_crack_2 rfl (lv_at hl 1 rfl) ?_
  refine cl_X5_66 hx hb hml hown hK hZ hS hA (c_X5_isDie hN a) mC_30 rfl hl.1 (Nat.le_of_ble_eq_true rfl) ⟨Nat.le_of_ble_eq_true rfl, Nat.le_of_ble_eq_true rfl⟩ ⟨Nat.zero_le _, Nat.zero_le _⟩ rfl dX5_crack_3 (r_kp (fun H locs hS => ?_))
  refine r_ifb_ne (b := ((ixO a (nD T)).isSome)) (tgt := 13) hx hb dX5_crack_6 (by decide) (fun q6 => ?_) (fun q6 => ?_)
  · -- T
    obtain ⟨d, hd, hix, rfl⟩ := ix_get q6
    have hdn := hN.dn hd
    refine lv_iload_n hx hb dX5_crack_13 rfl (lv_at hl 2 rfl) ?_
    refine lv_iconst (v := nI 0) hx hb dX5_crack_14 (by decide) ?_
    refine lv_bipush (v := nI 15) hx hb dX5_crack_15 (by decide) ?_
    refine cl_X5_59 hx hb hml hown hK hZ hS hA (c_X5_in b (nI 0) (nI 15)) rfl hl.1 (Nat.le_of_ble_eq_true rfl) ⟨Nat.le_of_ble_eq_true rfl, Nat.le_of_ble_eq_true rfl⟩ ⟨Nat.zero_le _, Nat.zero_le _⟩ rfl dX5_crack_17 (r_kp (fun H locs hS => ?_))
    refine r_top (y := bI (ixO b 16).isSome) (by rw [in_ixk (by omega)]) ?_
    refine r_ifb_ne (b := ((ixO b 16).isSome)) (tgt := 27) hx hb dX5_crack_20 (by decide) (fun q20 => ?_) (fun q20 => ?_)
    · -- T
      obtain ⟨x, hx16, hiy, rfl⟩ := ix_get q20
      have hw1 := wN_le ((T 2 d).testBit x)
      refine lv_aload_n hx hb dX5_crack_27 rfl (lv_at hl 0 rfl) ?_
      refine gf_X5_19 hx hb hown hK hS mC_30 rfl dX5_crack_28 ?_
      refine lv_iload_n hx hb dX5_crack_31 rfl (lv_at hl 1 rfl) ?_
      refine r_iald hx hb hK.1 hS 0 mC_34 rfl (nI_in0 (by omega) (by omega)) (v := nI (T 4 d)) (tA_at (by omega)) dX5_crack_32 ?_
      refine lv_iconst (v := nI 1) hx hb dX5_crack_33 (by decide) ?_
      refine r_icmp_eq (a := T 4 d) (b := 1) (tgt := 51) hx hb (by omega) (by omega) dX5_crack_34 (by decide) (fun q34 => ?_) (fun q34 => ?_)
      · -- T
        refine lv_iconst (v := nI 3) hx hb dX5_crack_51 (by decide) ?_
        refine lv_goto (tgt := 56) hx hb dX5_crack_52 (by decide) ?_
        refine pf_X5_52 hx hb hown hK hS mC_30 rfl rfl (fs' := [.int (nI (nD T)), .ref (ad 31 0), .ref (ad 32 0), .ref (ad 33 0), .ref (ad 34 0), .int (nI (nC T)), .ref (ad 35 0), .ref (ad 36 0), .ref (ad 37 0), .ref (ad 38 0), .ref (ad 39 0), .ref (ad 40 0), .ref (ad 41 0), .int (nI (nS T)), .ref (ad 42 0), .ref (ad 43 0), .ref (ad 44 0), .int (nI 3)]) (Nat.le_of_ble_eq_true rfl) rfl dX5_crack_56 (fun H locs hS => ?_)
        rw [mC_pth] at hS
        refine lv_aload_n hx hb dX5_crack_59 rfl (lv_at hl 0 rfl) ?_
        refine gf_X5_52 hx hb hown hK hS mC_30 rfl dX5_crack_60 ?_
        refine r_if_le (a := 3) (tgt := 68) hx hb (by decide) dX5_crack_63 (by decide) (fun q63 => ?_) (fun q63 => ?_)
        · -- T
          exact absurd q63 (by decide)
        · -- F
          refine lv_iconst (v := nI 0) hx hb dX5_crack_66 (by decide) ?_
          exact r_iret hx hb hr hlocks hS (mP.mkE (n := 2) ((sCrack_0 hix hiy).trans (if_pos (Or.inl q34)))) (Nat.zero_le _) (Nat.zero_le _) dX5_crack_67
      · -- F
        refine lv_aload_n hx hb dX5_crack_37 rfl (lv_at hl 0 rfl) ?_
        refine gf_X5_13 hx hb hown hK hS mC_30 rfl dX5_crack_38 ?_
        refine lv_iload_n hx hb dX5_crack_41 rfl (lv_at hl 1 rfl) ?_
        refine r_iald hx hb hK.1 hS 0 mC_32 rfl (nI_in0 (by omega) (by omega)) (v := nI (T 2 d)) (tA_at (by omega)) dX5_crack_42 ?_
        refine lv_iload_n hx hb dX5_crack_43 rfl (lv_at hl 2 rfl) ?_
        refine lv_ishr hx hb dX5_crack_44 ?_
        refine r_top (y := nI (T 2 d / 2 ^ x)) (shr_i (by omega) (by omega)) ?_
        refine lv_iconst (v := nI 1) hx hb dX5_crack_45 (by decide) ?_
        refine lv_iand hx hb dX5_crack_46 ?_
        refine r_top (y := nI (wN ((T 2 d).testBit x))) ((nx_and _ _).trans (by rw [shr_and]; rfl)) ?_
        refine lv_iconst (v := nI 1) hx hb dX5_crack_47 (by decide) ?_
        refine r_icmp_ne (a := wN ((T 2 d).testBit x)) (b := 1) (tgt := 55) hx hb (by omega) (by omega) dX5_crack_48 (by decide) (fun q48 => ?_) (fun q48 => ?_)
        · -- T
          refine lv_iconst (v := nI 0) hx hb dX5_crack_55 (by decide) ?_
          refine pf_X5_52 hx hb hown hK hS mC_30 rfl rfl (fs' := [.int (nI (nD T)), .ref (ad 31 0), .ref (ad 32 0), .ref (ad 33 0), .ref (ad 34 0), .int (nI (nC T)), .ref (ad 35 0), .ref (ad 36 0), .ref (ad 37 0), .ref (ad 38 0), .ref (ad 39 0), .ref (ad 40 0), .ref (ad 41 0), .int (nI (nS T)), .ref (ad 42 0), .ref (ad 43 0), .ref (ad 44 0), .int (nI 0)]) (Nat.le_of_ble_eq_true rfl) rfl dX5_crack_56 (fun H locs hS => ?_)
          rw [mC_pth] at hS
          refine lv_aload_n hx hb dX5_crack_59 rfl (lv_at hl 0 rfl) ?_
          refine gf_X5_52 hx hb hown hK hS mC_30 rfl dX5_crack_60 ?_
          refine r_if_le (a := 0) (tgt := 68) hx hb (by decide) dX5_crack_63 (by decide) (fun q63 => ?_) (fun q63 => ?_)
          · -- T
            refine lv_aload_n hx hb dX5_crack_68 rfl (lv_at hl 0 rfl) ?_
            refine gf_X5_13 hx hb hown hK hS mC_30 rfl dX5_crack_69 ?_
            refine lv_iload_n hx hb dX5_crack_72 rfl (lv_at hl 1 rfl) ?_
            refine lv_dup2_11 hx hb dX5_crack_73 rfl rfl ?_
            refine r_iald hx hb hK.1 hS 0 mC_32 rfl (nI_in0 (by omega) (by omega)) (v := nI (T 2 d)) (tA_at (by omega)) dX5_crack_74 ?_
            refine lv_iconst (v := nI 1) hx hb dX5_crack_75 (by decide) ?_
            refine lv_iload_n hx hb dX5_crack_76 rfl (lv_at hl 2 rfl) ?_
            refine lv_ishl hx hb dX5_crack_77 ?_
            refine r_top (y := nI (2 ^ x)) (bit_i _ hx16) ?_
            refine lv_ior hx hb dX5_crack_78 ?_
            refine r_top (y := nI (T 2 d ||| 2 ^ x)) (nx_or _ _) ?_
            refine r_iast hx hb hK.1 hS 0 mC_32 rfl (nI_in0 (by omega) (by omega)) (f' := tA (ru T 2 d (T 2 d ||| 2 ^ x)) 2) (tA_put (by omega)) dX5_crack_79 (fun H locs hS => ?_)
            rw [mC_p32] at hS
            refine lv_aload_n hx hb dX5_crack_80 rfl (lv_at hl 0 rfl) ?_
            refine gf_X5_13 hx hb hown hK hS mC_30 rfl dX5_crack_81 ?_
            refine lv_iload_n hx hb dX5_crack_84 rfl (lv_at hl 1 rfl) ?_
            refine r_iald hx hb hK.1 hS 0 mC_32 rfl (nI_in0 (by omega) (by omega)) (v := nI (T 2 d ||| 2 ^ x)) ((tA_at (by omega)).trans (congrArg nI (ru_e))) dX5_crack_85 ?_
            refine cl_X5_70 hx hb hml hown hK hZ hS hA (c_X5_count (or16 hdn.2.1 hx16)) rfl hl.1 (Nat.le_of_ble_eq_true rfl) ⟨Nat.le_of_ble_eq_true rfl, Nat.le_of_ble_eq_true rfl⟩ ⟨Nat.zero_le _, Nat.zero_le _⟩ rfl dX5_crack_86 (r_kp (fun H locs hS => ?_))
            exact r_iret hx hb hr hlocks hS (mP.mk0 ((sCrack_0 hix hiy).trans (if_neg (fun z => z.elim q34 (fun z2 => by rw [wN_f q48] at z2; cases z2)))) rfl mEq.rf) (Nat.zero_le _) (Nat.zero_le _) dX5_crack_89
          · -- F
            exact absurd q63 (by decide)
        · -- F
          refine lv_iconst (v := nI 3) hx hb dX5_crack_51 (by decide) ?_
          refine lv_goto (tgt := 56) hx hb dX5_crack_52 (by decide) ?_
          refine pf_X5_52 hx hb hown hK hS mC_30 rfl rfl (fs' := [.int (nI (nD T)), .ref (ad 31 0), .ref (ad 32 0), .ref (ad 33 0), .ref (ad 34 0), .int (nI (nC T)), .ref (ad 35 0), .ref (ad 36 0), .ref (ad 37 0), .ref (ad 38 0), .ref (ad 39 0), .ref (ad 40 0), .ref (ad 41 0), .int (nI (nS T)), .ref (ad 42 0), .ref (ad 43 0), .ref (ad 44 0), .int (nI 3)]) (Nat.le_of_ble_eq_true rfl) rfl dX5_crack_56 (fun H locs hS => ?_)
          rw [mC_pth] at hS
          refine lv_aload_n hx hb dX5_crack_59 rfl (lv_at hl 0 rfl) ?_
          refine gf_X5_52 hx hb hown hK hS mC_30 rfl dX5_crack_60 ?_
          refine r_if_le (a := 3) (tgt := 68) hx hb (by decide) dX5_crack_63 (by decide) (fun q63 => ?_) (fun q63 => ?_)
          · -- T
            exact absurd q63 (by decide)
          · -- F
            refine lv_iconst (v := nI 0) hx hb dX5_crack_66 (by decide) ?_
            exact r_iret hx hb hr hlocks hS (mP.mkE (n := 2) ((sCrack_0 hix hiy).trans (if_pos (Or.inr (wN_t q48))))) (Nat.zero_le _) (Nat.zero_le _) dX5_crack_67
    · -- F
      have hiy := ix_no q20
      refine lv_iconst (v := nI 2) hx hb dX5_crack_23 (by decide) ?_
      refine lv_goto (tgt := 56) hx hb dX5_crack_24 (by decide) ?_
      refine pf_X5_52 hx hb hown hK hS mC_30 rfl rfl (fs' := [.int (nI (nD T)), .ref (ad 31 0), .ref (ad 32 0), .ref (ad 33 0), .ref (ad 34 0), .int (nI (nC T)), .ref (ad 35 0), .ref (ad 36 0), .ref (ad 37 0), .ref (ad 38 0), .ref (ad 39 0), .ref (ad 40 0), .ref (ad 41 0), .int (nI (nS T)), .ref (ad 42 0), .ref (ad 43 0), .ref (ad 44 0), .int (nI 2)]) (Nat.le_of_ble_eq_true rfl) rfl dX5_crack_56 (fun H locs hS => ?_)
      rw [mC_pth] at hS
      refine lv_aload_n hx hb dX5_crack_59 rfl (lv_at hl 0 rfl) ?_
      refine gf_X5_52 hx hb hown hK hS mC_30 rfl dX5_crack_60 ?_
      refine r_if_le (a := 2) (tgt := 68) hx hb (by decide) dX5_crack_63 (by decide) (fun q63 => ?_) (fun q63 => ?_)
      · -- T
        exact absurd q63 (by decide)
      · -- F
        refine lv_iconst (v := nI 0) hx hb dX5_crack_66 (by decide) ?_
        exact r_iret hx hb hr hlocks hS (mP.mkE (n := 1) (sCrack_2 hix hiy)) (Nat.zero_le _) (Nat.zero_le _) dX5_crack_67
  · -- F
    have hix := ix_no q6
    refine lv_iconst (v := nI 1) hx hb dX5_crack_9 (by decide) ?_
    refine lv_goto (tgt := 56) hx hb dX5_crack_10 (by decide) ?_
    refine pf_X5_52 hx hb hown hK hS mC_30 rfl rfl (fs' := [.int (nI (nD T)), .ref (ad 31 0), .ref (ad 32 0), .ref (ad 33 0), .ref (ad 34 0), .int (nI (nC T)), .ref (ad 35 0), .ref (ad 36 0), .ref (ad 37 0), .ref (ad 38 0), .ref (ad 39 0), .ref (ad 40 0), .ref (ad 41 0), .int (nI (nS T)), .ref (ad 42 0), .ref (ad 43 0), .ref (ad 44 0), .int (nI 1)]) (Nat.le_of_ble_eq_true rfl) rfl dX5_crack_56 (fun H locs hS => ?_)
    rw [mC_pth] at hS
    refine lv_aload_n hx hb dX5_crack_59 rfl (lv_at hl 0 rfl) ?_
    refine gf_X5_52 hx hb hown hK hS mC_30 rfl dX5_crack_60 ?_
    refine r_if_le (a := 1) (tgt := 68) hx hb (by decide) dX5_crack_63 (by decide) (fun q63 => ?_) (fun q63 => ?_)
    · -- T
      exact absurd q63 (by decide)
    · -- F
      refine lv_iconst (v := nI 0) hx hb dX5_crack_66 (by decide) ?_
      exact r_iret hx hb hr hlocks hS (mP.mkE (n := 0) (sCrack_1 hix)) (Nat.zero_le _) (Nat.zero_le _) dX5_crack_67

set_option maxHeartbeats 4000000 in
set_option maxRecDepth 100000 in
theorem c_X5_strike {G : rG} {l : Launch} {T : rTab} {th : Int32} {rg : Nat → Int32} {C : rC} {ad : rA} (hN : mNu T) (a b : Int32) : rMet G l yX5_strike cX5_strike 4 (some .int) (rmP 3) [.ref (ad 30 0), .int a, .int b] (mC G T th rg C ad) ad (mP G (sStrike T a b) rg C ad) := by
  refine rMet.of (by decide) ?_
  intro p e s m below meth c hx hb hml hr hlocks hown hname hK hZ hS
  have hown : s.vm.findClass RX5 = some m.cls := hown
  have hA : ∀ q : Nat, s.heap.size ≤ q → (rF (mC G T th rg C ad) ad s.heap.size) q := rF.new
  refine r_entry _ (Nat.le_of_ble_eq_true rfl) (fun ls hl => ?_)
  have hl : lv_has ls 4 [(0, .ref (ad 30 0)), (1, .int a), (2, .int b)] := hl
  have hnD := hN.hD
  have hnC := hN.hC
  have hnS := hN.hS
  refine lv_aload_n hx hb dX5_strike_0 rfl (lv_at hl 0 rfl) ?_
  refine lv_aload_n hx hb dX5_strike_1 rfl (lv_at hl 0 rfl) ?_
  refine lv_iload_n hx hb dX5_strike_2 rfl (lv_at hl 1 rfl) ?_
  refine cl_X5_66 hx hb hml hown hK hZ hS hA (c_X5_isDie hN a) mC_30 rfl hl.1 (Nat.le_of_ble_eq_true rfl) ⟨Nat.le_of_ble_eq_true rfl, Nat.le_of_ble_eq_true rfl⟩ ⟨Nat.zero_le _, Nat.zero_le _⟩ rfl dX5_strike_3 (r_kp (fun H locs hS => ?_))
  refine r_ifb_ne (b := ((ixO a (nD T)).isSome)) (tgt := 13) hx hb dX5_strike_6 (by decide) (fun q6 => ?_) (fun q6 => ?_)
  · -- T
    obtain ⟨d, hd, hix, rfl⟩ := ix_get q6
    have hdn := hN.dn hd
    have hk3 := hN.k3 hd
    have hdc := cntB_le (fun j => decide (T 5 j = d)) (nC T)
    have hdc : dcN T d ≤ nC T := hdc
    refine lv_iload_n hx hb dX5_strike_13 rfl (lv_at hl 2 rfl) ?_
    refine lv_iconst (v := nI 1) hx hb dX5_strike_14 (by decide) ?_
    refine lv_bipush (v := nI 20) hx hb dX5_strike_15 (by decide) ?_
    refine cl_X5_59 hx hb hml hown hK hZ hS hA (c_X5_in b (nI 1) (nI 20)) rfl hl.1 (Nat.le_of_ble_eq_true rfl) ⟨Nat.le_of_ble_eq_true rfl, Nat.le_of_ble_eq_true rfl⟩ ⟨Nat.zero_le _, Nat.zero_le _⟩ rfl dX5_strike_17 (r_kp (fun H locs hS => ?_))
    refine r_ifb_ne (b := (inB b (nI 1) (nI 20))) (tgt := 27) hx hb dX5_strike_20 (by decide) (fun q20 => ?_) (fun q20 => ?_)
    · -- T
      obtain ⟨n, hn21, hn0, rfl, hixn⟩ := b4 (inB_t q20).1 (inB_t q20).2
      have hs0 := (sStrike_n hix hixn).trans (if_neg hn0)
      refine lv_aload_n hx hb dX5_strike_27 rfl (lv_at hl 0 rfl) ?_
      refine gf_X5_19 hx hb hown hK hS mC_30 rfl dX5_strike_28 ?_
      refine lv_iload_n hx hb dX5_strike_31 rfl (lv_at hl 1 rfl) ?_
      refine r_iald hx hb hK.1 hS 0 mC_34 rfl (nI_in0 (by omega) (by omega)) (v := nI (T 4 d)) (tA_at (by omega)) dX5_strike_32 ?_
      refine lv_iconst (v := nI 1) hx hb dX5_strike_33 (by decide) ?_
      refine r_icmp_eq (a := T 4 d) (b := 1) (tgt := 62) hx hb (by omega) (by omega) dX5_strike_34 (by decide) (fun q34 => ?_) (fun q34 => ?_)
      · -- T
        refine lv_iconst (v := nI 3) hx hb dX5_strike_62 (by decide) ?_
        refine lv_goto (tgt := 67) hx hb dX5_strike_63 (by decide) ?_
        refine pf_X5_52 hx hb hown hK hS mC_30 rfl rfl (fs' := [.int (nI (nD T)), .ref (ad 31 0), .ref (ad 32 0), .ref (ad 33 0), .ref (ad 34 0), .int (nI (nC T)), .ref (ad 35 0), .ref (ad 36 0), .ref (ad 37 0), .ref (ad 38 0), .ref (ad 39 0), .ref (ad 40 0), .ref (ad 41 0), .int (nI (nS T)), .ref (ad 42 0), .ref (ad 43 0), .ref (ad 44 0), .int (nI 3)]) (Nat.le_of_ble_eq_true rfl) rfl dX5_strike_67 (fun H locs hS => ?_)
        rw [mC_pth] at hS
        refine lv_aload_n hx hb dX5_strike_70 rfl (lv_at hl 0 rfl) ?_
        refine gf_X5_52 hx hb hown hK hS mC_30 rfl dX5_strike_71 ?_
        refine r_if_le (a := 3) (tgt := 79) hx hb (by decide) dX5_strike_74 (by decide) (fun q74 => ?_) (fun q74 => ?_)
        · -- T
          exact absurd q74 (by decide)
        · -- F
          refine lv_iconst (v := nI 0) hx hb dX5_strike_77 (by decide) ?_
          exact r_iret hx hb hr hlocks hS (mP.mkE (n := 2) (hs0.trans (if_pos (by omega)))) (Nat.zero_le _) (Nat.zero_le _) dX5_strike_78
      · -- F
        refine lv_aload_n hx hb dX5_strike_37 rfl (lv_at hl 0 rfl) ?_
        refine gf_X5_16 hx hb hown hK hS mC_30 rfl dX5_strike_38 ?_
        refine lv_iload_n hx hb dX5_strike_41 rfl (lv_at hl 1 rfl) ?_
        refine r_iald hx hb hK.1 hS 0 mC_33 rfl (nI_in0 (by omega) (by omega)) (v := nI (T 3 d)) (tA_at (by omega)) dX5_strike_42 ?_
        refine lv_iload_n hx hb dX5_strike_43 rfl (lv_at hl 2 rfl) ?_
        refine lv_iadd hx hb dX5_strike_44 ?_
        refine r_top (nI_add _ _) ?_
        refine lv_bipush (v := nI 40) hx hb dX5_strike_45 (by decide) ?_
        refine r_icmp_gt (a := T 3 d + n) (b := 40) (tgt := 62) hx hb (by omega) (by omega) dX5_strike_47 (by decide) (fun q47 => ?_) (fun q47 => ?_)
        · -- T
          refine lv_iconst (v := nI 3) hx hb dX5_strike_62 (by decide) ?_
          refine lv_goto (tgt := 67) hx hb dX5_strike_63 (by decide) ?_
          refine pf_X5_52 hx hb hown hK hS mC_30 rfl rfl (fs' := [.int (nI (nD T)), .ref (ad 31 0), .ref (ad 32 0), .ref (ad 33 0), .ref (ad 34 0), .int (nI (nC T)), .ref (ad 35 0), .ref (ad 36 0), .ref (ad 37 0), .ref (ad 38 0), .ref (ad 39 0), .ref (ad 40 0), .ref (ad 41 0), .int (nI (nS T)), .ref (ad 42 0), .ref (ad 43 0), .ref (ad 44 0), .int (nI 3)]) (Nat.le_of_ble_eq_true rfl) rfl dX5_strike_67 (fun H locs hS => ?_)
          rw [mC_pth] at hS
          refine lv_aload_n hx hb dX5_strike_70 rfl (lv_at hl 0 rfl) ?_
          refine gf_X5_52 hx hb hown hK hS mC_30 rfl dX5_strike_71 ?_
          refine r_if_le (a := 3) (tgt := 79) hx hb (by decide) dX5_strike_74 (by decide) (fun q74 => ?_) (fun q74 => ?_)
          · -- T
            exact absurd q74 (by decide)
          · -- F
            refine lv_iconst (v := nI 0) hx hb dX5_strike_77 (by decide) ?_
            exact r_iret hx hb hr hlocks hS (mP.mkE (n := 2) (hs0.trans (if_pos (by omega)))) (Nat.zero_le _) (Nat.zero_le _) dX5_strike_78
        · -- F
          refine lv_aload_n hx hb dX5_strike_50 rfl (lv_at hl 0 rfl) ?_
          refine gf_X5_63 hx hb hown hK hS mC_30 (v := .int (nI (nC T))) rfl dX5_strike_51 ?_
          refine lv_iload_n hx hb dX5_strike_54 rfl (lv_at hl 2 rfl) ?_
          refine lv_iadd hx hb dX5_strike_55 ?_
          refine r_top (nI_add _ _) ?_
          refine lv_sipush (v := nI 150) hx hb dX5_strike_56 (by decide) ?_
          refine r_icmp_le (a := nC T + n) (b := 150) (tgt := 66) hx hb (by omega) (by omega) dX5_strike_59 (by decide) (fun q59 => ?_) (fun q59 => ?_)
          · -- T
            refine lv_iconst (v := nI 0) hx hb dX5_strike_66 (by decide) ?_
            refine pf_X5_52 hx hb hown hK hS mC_30 rfl rfl (fs' := [.int (nI (nD T)), .ref (ad 31 0), .ref (ad 32 0), .ref (ad 33 0), .ref (ad 34 0), .int (nI (nC T)), .ref (ad 35 0), .ref (ad 36 0), .ref (ad 37 0), .ref (ad 38 0), .ref (ad 39 0), .ref (ad 40 0), .ref (ad 41 0), .int (nI (nS T)), .ref (ad 42 0), .ref (ad 43 0), .ref (ad 44 0), .int (nI 0)]) (Nat.le_of_ble_eq_true rfl) rfl dX5_strike_67 (fun H locs hS => ?_)
            rw [mC_pth] at hS
            refine lv_aload_n hx hb dX5_strike_70 rfl (lv_at hl 0 rfl) ?_
            refine gf_X5_52 hx hb hown hK hS mC_30 rfl dX5_strike_71 ?_
            refine r_if_le (a := 0) (tgt := 79) hx hb (by decide) dX5_strike_74 (by decide) (fun q74 => ?_) (fun q74 => ?_)
            · -- T
              have hs1 : sStrike T (nI d) (nI n) = (0, nI (nC T), strikeT T d n) := hs0.trans (if_neg (by omega))
              refine lv_iconst (v := nI 0) hx hb dX5_strike_79 (by decide) ?_
              refine lv_istore_n (lv' := [(3, .int (nI 0)), (0, .ref (ad 30 0)), (1, .int (nI d)), (2, .int (nI n))]) hx hb dX5_strike_80 rfl hl (by decide) rfl (fun ls hl => ?_)
              refine r_loop (σ := Nat) (fun k => n - k) (fun k H locs ls => (k ≤ n) ∧ rS G.1 (rF (mC G T th rg C ad) ad s.heap.size) s.heap (mC G (strikeI T d k) (nI 0) rg C ad) ad H locs ∧ lv_has ls 4 [(3, .int (nI k)), (0, .ref (ad 30 0)), (1, .int (nI d)), (2, .int (nI n))]) (fun _ => 0) (fun _ => 0) (fun z ih H locs ls hI => ?_) 0 (Nat.zero_le _) (Nat.zero_le _) ⟨Nat.zero_le _, hS, lv_sub hl [0, 1, 2, 3] rfl⟩
              obtain ⟨k, rfl⟩ : ∃ y, y = z := ⟨_, rfl⟩
              obtain ⟨hkl, hS, hl⟩ := hI
              try dsimp only at hkl hS hl ih ⊢
              refine lv_iload_n hx hb dX5_strike_81 rfl (lv_at hl 0 rfl) ?_
              refine lv_iload_n hx hb dX5_strike_82 rfl (lv_at hl 3 rfl) ?_
              refine r_icmp_ge (a := k) (b := n) (tgt := 127) hx hb (by omega) (by omega) dX5_strike_83 (by decide) (fun q83 => ?_) (fun q83 => ?_)
              · -- T
                obtain rfl : k = n := by omega
                have hCk := strikeI_C T d k
                have h3k : strikeI T d k 3 d = T 3 d := congrFun (strikeI_k T d k (by decide) (by decide) (by decide) (by decide) (by decide) (by decide) (by decide)) d
                refine lv_aload_n hx hb dX5_strike_127 rfl (lv_at hl 1 rfl) ?_
                refine gf_X5_16 hx hb hown hK hS mC_30 rfl dX5_strike_128 ?_
                refine lv_iload_n hx hb dX5_strike_131 rfl (lv_at hl 2 rfl) ?_
                refine lv_dup2_11 hx hb dX5_strike_132 rfl rfl ?_
                refine r_iald hx hb hK.1 hS 0 mC_33 rfl (nI_in0 (by omega) (by omega)) (v := nI ((strikeI T d k) 3 d)) (tA_at (by omega)) dX5_strike_133 ?_
                refine lv_iload_n hx hb dX5_strike_134 rfl (lv_at hl 3 rfl) ?_
                refine lv_iadd hx hb dX5_strike_135 ?_
                refine r_top (nI_add _ _) ?_
                refine r_iast hx hb hK.1 hS 0 mC_33 rfl (nI_in0 (by omega) (by omega)) (f' := tA (ru (strikeI T d k) 3 d ((strikeI T d k) 3 d + k)) 3) (tA_put (by omega)) dX5_strike_136 (fun H locs hS => ?_)
                rw [mC_p33] at hS
                refine lv_aload_n hx hb dX5_strike_137 rfl (lv_at hl 1 rfl) ?_
                refine gf_X5_63 hx hb hown hK hS mC_30 (v := .int (nI (nC (strikeI T d k)))) rfl dX5_strike_138 ?_
                refine lv_iload_n hx hb dX5_strike_141 rfl (lv_at hl 3 rfl) ?_
                refine lv_isub hx hb dX5_strike_142 ?_
                refine r_top (y := nI (nC T)) ((pk_sub (by omega)).trans (by rw [hCk, Nat.add_sub_cancel])) ?_
                exact r_iret hx hb hr hlocks hS (mP.mk0 hs1 rfl (strike_eq (by rw [h3k]))) (Nat.zero_le _) (Nat.zero_le _) dX5_strike_143
              · -- F
                have hCk := strikeI_C T d k
                refine lv_aload_n hx hb dX5_strike_86 rfl (lv_at hl 1 rfl) ?_
                refine gf_X5_22 hx hb hown hK hS mC_30 rfl dX5_strike_87 ?_
                refine lv_aload_n hx hb dX5_strike_90 rfl (lv_at hl 1 rfl) ?_
                refine gf_X5_63 hx hb hown hK hS mC_30 (v := .int (nI (nC (strikeI T d k)))) rfl dX5_strike_91 ?_
                refine lv_iload_n hx hb dX5_strike_94 rfl (lv_at hl 2 rfl) ?_
                refine r_iast hx hb hK.1 hS 0 mC_35 rfl (nI_in0 (by omega) (by omega)) (f' := tA (ru (strikeI T d k) 5 (nC (strikeI T d k)) d) 5) (tA_put (by omega)) dX5_strike_95 (fun H locs hS => ?_)
                rw [mC_p35] at hS
                refine lv_aload_n hx hb dX5_strike_96 rfl (lv_at hl 1 rfl) ?_
                refine gf_X5_25 hx hb hown hK hS mC_30 rfl dX5_strike_97 ?_
                refine lv_aload_n hx hb dX5_strike_100 rfl (lv_at hl 1 rfl) ?_
                refine gf_X5_63 hx hb hown hK hS mC_30 (v := .int (nI (nC (strikeI T d k)))) rfl dX5_strike_101 ?_
                refine lv_aload_n hx hb dX5_strike_104 rfl (lv_at hl 1 rfl) ?_
                refine gf_X5_13 hx hb hown hK hS mC_30 rfl dX5_strike_105 ?_
                refine lv_iload_n hx hb dX5_strike_108 rfl (lv_at hl 2 rfl) ?_
                refine r_iald hx hb hK.1 hS 0 mC_32 rfl (nI_in0 (by omega) (by omega)) (v := nI ((strikeI T d k) 2 d)) ((tA_at (by omega)).trans (congrArg nI ((ru_k (by decide)).trans (rfl)))) dX5_strike_109 ?_
                refine r_iast hx hb hK.1 hS 0 mC_36 rfl (nI_in0 (by omega) (by omega)) (f' := tA (ru (ru (strikeI T d k) 5 (nC (strikeI T d k)) d) 6 (nC (strikeI T d k)) ((strikeI T d k) 2 d)) 6) (tA_put (by omega)) dX5_strike_110 (fun H locs hS => ?_)
                rw [mC_p36] at hS
                refine lv_aload_n hx hb dX5_strike_111 rfl (lv_at hl 1 rfl) ?_
                refine lv_dup hx hb dX5_strike_112 rfl ?_
                refine gf_X5_63 hx hb hown hK hS mC_30 (v := .int (nI (nC (strikeI T d k)))) rfl dX5_strike_113 ?_
                refine lv_iconst (v := nI 1) hx hb dX5_strike_116 (by decide) ?_
                refine lv_iadd hx hb dX5_strike_117 ?_
                refine r_top (nI_add _ _) ?_
                refine pf_X5_63 hx hb hown hK hS mC_30 rfl rfl (fs' := [.int (nI ((ru (ru (strikeI T d k) 5 (nC (strikeI T d k)) d) 6 (nC (strikeI T d k)) ((strikeI T d k) 2 d)) 0 0)), .ref (ad 31 0), .ref (ad 32 0), .ref (ad 33 0), .ref (ad 34 0), .int (nI (nC (strikeI T d k) + 1)), .ref (ad 35 0), .ref (ad 36 0), .ref (ad 37 0), .ref (ad 38 0), .ref (ad 39 0), .ref (ad 40 0), .ref (ad 41 0), .int (nI ((ru (ru (strikeI T d k) 5 (nC (strikeI T d k)) d) 6 (nC (strikeI T d k)) ((strikeI T d k) 2 d)) 0 2)), .ref (ad 42 0), .ref (ad 43 0), .ref (ad 44 0), .int (nI 0)]) (Nat.le_of_ble_eq_true rfl) rfl dX5_strike_118 (fun H locs hS => ?_)
                rw [mC_pn1] at hS
                rw [mC_eq (coin_eq (T := strikeI T d k) (d := d) ((strikeI_i (by decide) k (by rw [strikeI_C]; exact Nat.le_refl _)).trans (hN.z.2.1 _ (by rw [strikeI_C]; omega)).1) ((strikeI_i (by decide) k (by rw [strikeI_C]; exact Nat.le_refl _)).trans (hN.z.2.1 _ (by rw [strikeI_C]; omega)).2.1) ((strikeI_i (by decide) k (by rw [strikeI_C]; exact Nat.le_refl _)).trans (hN.z.2.1 _ (by rw [strikeI_C]; omega)).2.2))] at hS
                refine lv_iinc (v := nI (k + 1)) (lv' := [(3, .int (nI (k + 1))), (0, .ref (ad 30 0)), (1, .int (nI d)), (2, .int (nI n))]) hx hb dX5_strike_121 hl (k := 0) rfl (nI_inc _) (by decide) rfl (fun ls hl => ?_)
                refine lv_goto (tgt := 81) hx hb dX5_strike_124 (by decide) ?_
                exact ih (k + 1) (show n - (k + 1) < n - k by omega) _ _ _ ⟨(show k + 1 ≤ n by omega), hS, lv_sub hl [0, 1, 2, 3] rfl⟩
            · -- F
              exact absurd q74 (by decide)
          · -- F
            refine lv_iconst (v := nI 3) hx hb dX5_strike_62 (by decide) ?_
            refine lv_goto (tgt := 67) hx hb dX5_strike_63 (by decide) ?_
            refine pf_X5_52 hx hb hown hK hS mC_30 rfl rfl (fs' := [.int (nI (nD T)), .ref (ad 31 0), .ref (ad 32 0), .ref (ad 33 0), .ref (ad 34 0), .int (nI (nC T)), .ref (ad 35 0), .ref (ad 36 0), .ref (ad 37 0), .ref (ad 38 0), .ref (ad 39 0), .ref (ad 40 0), .ref (ad 41 0), .int (nI (nS T)), .ref (ad 42 0), .ref (ad 43 0), .ref (ad 44 0), .int (nI 3)]) (Nat.le_of_ble_eq_true rfl) rfl dX5_strike_67 (fun H locs hS => ?_)
            rw [mC_pth] at hS
            refine lv_aload_n hx hb dX5_strike_70 rfl (lv_at hl 0 rfl) ?_
            refine gf_X5_52 hx hb hown hK hS mC_30 rfl dX5_strike_71 ?_
            refine r_if_le (a := 3) (tgt := 79) hx hb (by decide) dX5_strike_74 (by decide) (fun q74 => ?_) (fun q74 => ?_)
            · -- T
              exact absurd q74 (by decide)
            · -- F
              refine lv_iconst (v := nI 0) hx hb dX5_strike_77 (by decide) ?_
              exact r_iret hx hb hr hlocks hS (mP.mkE (n := 2) (hs0.trans (if_pos (by omega)))) (Nat.zero_le _) (Nat.zero_le _) dX5_strike_78
    · -- F
      have hb9 : sStrike T (nI d) b = (2, 0, T) := (inB_f q20).elim (b2 hix) (b3 hix)
      refine lv_iconst (v := nI 2) hx hb dX5_strike_23 (by decide) ?_
      refine lv_goto (tgt := 67) hx hb dX5_strike_24 (by decide) ?_
      refine pf_X5_52 hx hb hown hK hS mC_30 rfl rfl (fs' := [.int (nI (nD T)), .ref (ad 31 0), .ref (ad 32 0), .ref (ad 33 0), .ref (ad 34 0), .int (nI (nC T)), .ref (ad 35 0), .ref (ad 36 0), .ref (ad 37 0), .ref (ad 38 0), .ref (ad 39 0), .ref (ad 40 0), .ref (ad 41 0), .int (nI (nS T)), .ref (ad 42 0), .ref (ad 43 0), .ref (ad 44 0), .int (nI 2)]) (Nat.le_of_ble_eq_true rfl) rfl dX5_strike_67 (fun H locs hS => ?_)
      rw [mC_pth] at hS
      refine lv_aload_n hx hb dX5_strike_70 rfl (lv_at hl 0 rfl) ?_
      refine gf_X5_52 hx hb hown hK hS mC_30 rfl dX5_strike_71 ?_
      refine r_if_le (a := 2) (tgt := 79) hx hb (by decide) dX5_strike_74 (by decide) (fun q74 => ?_) (fun q74 => ?_)
      · -- T
        exact absurd q74 (by decide)
      · -- F
        refine lv_iconst (v := nI 0) hx hb dX5_strike_77 (by decide) ?_
        exact r_iret hx hb hr hlocks hS (mP.mkE (n := 1) hb9) (Nat.zero_le _) (Nat.zero_le _) dX5_strike_78
  · -- F
    have hix := ix_no q6
    refine lv_iconst (v := nI 1) hx hb dX5_strike_9 (by decide) ?_
    refine lv_goto (tgt := 67) hx hb dX5_strike_10 (by decide) ?_
    refine pf_X5_52 hx hb hown hK hS mC_30 rfl rfl (fs' := [.int (nI (nD T)), .ref (ad 31 0), .ref (ad 32 0), .ref (ad 33 0), .ref (ad 34 0), .int (nI (nC T)), .ref (ad 35 0), .ref (ad 36 0), .ref (ad 37 0), .ref (ad 38 0), .ref (ad 39 0), .ref (ad 40 0), .ref (ad 41 0), .int (nI (nS T)), .ref (ad 42 0), .ref (ad 43 0), .ref (ad 44 0), .int (nI 1)]) (Nat.le_of_ble_eq_true rfl) rfl dX5_strike_67 (fun H locs hS => ?_)
    rw [mC_pth] at hS
    refine lv_aload_n hx hb dX5_strike_70 rfl (lv_at hl 0 rfl) ?_
    refine gf_X5_52 hx hb hown hK hS mC_30 rfl dX5_strike_71 ?_
    refine r_if_le (a := 1) (tgt := 79) hx hb (by decide) dX5_strike_74 (by decide) (fun q74 => ?_) (fun q74 => ?_)
    · -- T
      exact absurd q74 (by decide)
    · -- F
      refine lv_iconst (v := nI 0) hx hb dX5_strike_77 (by decide) ?_
      exact r_iret hx hb hr hlocks hS (mP.mkE (n := 0) (sStrike_1 hix)) (Nat.zero_le _) (Nat.zero_le _) dX5_strike_78

set_option maxHeartbeats 4000000 in
set_option maxRecDepth 100000 in
theorem c_X5_cast {G : rG} {l : Launch} {T : rTab} {th : Int32} {rg : Nat → Int32} {C : rC} {ad : rA} (hN : mNu T) (a : Int32) : rMet G l yX5_cast cX5_cast 2 (some .int) (rmP 3) [.ref (ad 30 0), .int a] (mC G T th rg C ad) ad (mP G (sCast T a) rg C ad) := by
  refine rMet.of (by decide) ?_
  intro p e s m below meth c hx hb hml hr hlocks hown hname hK hZ hS
  have hown : s.vm.findClass RX5 = some m.cls := hown
  have hA : ∀ q : Nat, s.heap.size ≤ q → (rF (mC G T th rg C ad) ad s.heap.size) q := rF.new
  refine r_entry _ (Nat.le_of_ble_eq_true rfl) (fun ls hl => ?_)
  have hl : lv_has ls 2 [(0, .ref (ad 30 0)), (1, .int a)] := hl
  have hnD := hN.hD
  have hnC := hN.hC
  have hnS := hN.hS
  refine lv_aload_n hx hb dX5_cast_0 rfl (lv_at hl 0 rfl) ?_
  refine lv_aload_n hx hb dX5_cast_1 rfl (lv_at hl 0 rfl) ?_
  refine lv_iload_n hx hb dX5_cast_2 rfl (lv_at hl 1 rfl) ?_
  refine cl_X5_74 hx hb hml hown hK hZ hS hA (c_X5_isCoin hN a) mC_30 rfl hl.1 (Nat.le_of_ble_eq_true rfl) ⟨Nat.le_of_ble_eq_true rfl, Nat.le_of_ble_eq_true rfl⟩ ⟨Nat.zero_le _, Nat.zero_le _⟩ rfl dX5_cast_3 (r_kp (fun H locs hS => ?_))
  refine r_ifb_ne (b := ((ixO a (nC T)).isSome)) (tgt := 13) hx hb dX5_cast_6 (by decide) (fun q6 => ?_) (fun q6 => ?_)
  · -- T
    obtain ⟨j, hj, hix, rfl⟩ := ix_get q6
    have hcn := hN.cn hj
    refine lv_aload_n hx hb dX5_cast_13 rfl (lv_at hl 0 rfl) ?_
    refine gf_X5_28 hx hb hown hK hS mC_30 rfl dX5_cast_14 ?_
    refine lv_iload_n hx hb dX5_cast_17 rfl (lv_at hl 1 rfl) ?_
    refine r_iald hx hb hK.1 hS 0 mC_37 rfl (nI_in0 (by omega) (by omega)) (v := nI (T 7 j)) (tA_at (by omega)) dX5_cast_18 ?_
    refine lv_iconst (v := nI 1) hx hb dX5_cast_19 (by decide) ?_
    refine r_icmp_eq (a := T 7 j) (b := 1) (tgt := 32) hx hb (by omega) (by omega) dX5_cast_20 (by decide) (fun q20 => ?_) (fun q20 => ?_)
    · -- T
      refine lv_iconst (v := nI 2) hx hb dX5_cast_32 (by decide) ?_
      refine lv_goto (tgt := 37) hx hb dX5_cast_33 (by decide) ?_
      refine pf_X5_52 hx hb hown hK hS mC_30 rfl rfl (fs' := [.int (nI (nD T)), .ref (ad 31 0), .ref (ad 32 0), .ref (ad 33 0), .ref (ad 34 0), .int (nI (nC T)), .ref (ad 35 0), .ref (ad 36 0), .ref (ad 37 0), .ref (ad 38 0), .ref (ad 39 0), .ref (ad 40 0), .ref (ad 41 0), .int (nI (nS T)), .ref (ad 42 0), .ref (ad 43 0), .ref (ad 44 0), .int (nI 2)]) (Nat.le_of_ble_eq_true rfl) rfl dX5_cast_37 (fun H locs hS => ?_)
      rw [mC_pth] at hS
      refine lv_aload_n hx hb dX5_cast_40 rfl (lv_at hl 0 rfl) ?_
      refine gf_X5_52 hx hb hown hK hS mC_30 rfl dX5_cast_41 ?_
      refine r_if_le (a := 2) (tgt := 49) hx hb (by decide) dX5_cast_44 (by decide) (fun q44 => ?_) (fun q44 => ?_)
      · -- T
        exact absurd q44 (by decide)
      · -- F
        refine lv_iconst (v := nI 0) hx hb dX5_cast_47 (by decide) ?_
        exact r_iret hx hb hr hlocks hS (mP.mkE (n := 1) ((sCast_0 hix).trans (if_pos q20))) (Nat.zero_le _) (Nat.zero_le _) dX5_cast_48
    · -- F
      refine lv_aload_n hx hb dX5_cast_23 rfl (lv_at hl 0 rfl) ?_
      refine gf_X5_56 hx hb hown hK hS mC_30 (v := .int (nI (nD T))) rfl dX5_cast_24 ?_
      refine lv_bipush (v := nI 16) hx hb dX5_cast_27 (by decide) ?_
      refine r_icmp_ne (a := nD T) (b := 16) (tgt := 36) hx hb (by omega) (by omega) dX5_cast_29 (by decide) (fun q29 => ?_) (fun q29 => ?_)
      · -- T
        refine lv_iconst (v := nI 0) hx hb dX5_cast_36 (by decide) ?_
        refine pf_X5_52 hx hb hown hK hS mC_30 rfl rfl (fs' := [.int (nI (nD T)), .ref (ad 31 0), .ref (ad 32 0), .ref (ad 33 0), .ref (ad 34 0), .int (nI (nC T)), .ref (ad 35 0), .ref (ad 36 0), .ref (ad 37 0), .ref (ad 38 0), .ref (ad 39 0), .ref (ad 40 0), .ref (ad 41 0), .int (nI (nS T)), .ref (ad 42 0), .ref (ad 43 0), .ref (ad 44 0), .int (nI 0)]) (Nat.le_of_ble_eq_true rfl) rfl dX5_cast_37 (fun H locs hS => ?_)
        rw [mC_pth] at hS
        refine lv_aload_n hx hb dX5_cast_40 rfl (lv_at hl 0 rfl) ?_
        refine gf_X5_52 hx hb hown hK hS mC_30 rfl dX5_cast_41 ?_
        refine r_if_le (a := 0) (tgt := 49) hx hb (by decide) dX5_cast_44 (by decide) (fun q44 => ?_) (fun q44 => ?_)
        · -- T
          refine lv_aload_n hx hb dX5_cast_49 rfl (lv_at hl 0 rfl) ?_
          refine gf_X5_7 hx hb hown hK hS mC_30 rfl dX5_cast_50 ?_
          refine lv_aload_n hx hb dX5_cast_53 rfl (lv_at hl 0 rfl) ?_
          refine gf_X5_56 hx hb hown hK hS mC_30 (v := .int (nI (nD T))) rfl dX5_cast_54 ?_
          refine lv_aload_n hx hb dX5_cast_57 rfl (lv_at hl 0 rfl) ?_
          refine gf_X5_7 hx hb hown hK hS mC_30 rfl dX5_cast_58 ?_
          refine lv_aload_n hx hb dX5_cast_61 rfl (lv_at hl 0 rfl) ?_
          refine gf_X5_22 hx hb hown hK hS mC_30 rfl dX5_cast_62 ?_
          refine lv_iload_n hx hb dX5_cast_65 rfl (lv_at hl 1 rfl) ?_
          refine r_iald hx hb hK.1 hS 0 mC_35 rfl (nI_in0 (by omega) (by omega)) (v := nI (T 5 j)) (tA_at (by omega)) dX5_cast_66 ?_
          refine r_iald hx hb hK.1 hS 0 mC_31 rfl (nI_in0 (by omega) (by omega)) (v := nI (T 1 (T 5 j))) (tA_at (by omega)) dX5_cast_67 ?_
          refine r_iast hx hb hK.1 hS 0 mC_31 rfl (nI_in0 (by omega) (by omega)) (f' := tA (ru T 1 (nD T) (T 1 (T 5 j))) 1) (tA_put (by omega)) dX5_cast_68 (fun H locs hS => ?_)
          rw [mC_p31] at hS
          refine lv_aload_n hx hb dX5_cast_69 rfl (lv_at hl 0 rfl) ?_
          refine gf_X5_13 hx hb hown hK hS mC_30 rfl dX5_cast_70 ?_
          refine lv_aload_n hx hb dX5_cast_73 rfl (lv_at hl 0 rfl) ?_
          refine gf_X5_56 hx hb hown hK hS mC_30 (v := .int (nI (nD T))) rfl dX5_cast_74 ?_
          refine lv_aload_n hx hb dX5_cast_77 rfl (lv_at hl 0 rfl) ?_
          refine gf_X5_25 hx hb hown hK hS mC_30 rfl dX5_cast_78 ?_
          refine lv_iload_n hx hb dX5_cast_81 rfl (lv_at hl 1 rfl) ?_
          refine r_iald hx hb hK.1 hS 0 mC_36 rfl (nI_in0 (by omega) (by omega)) (v := nI (T 6 j)) ((tA_at (by omega)).trans (congrArg nI ((ru_k (by decide)).trans (rfl)))) dX5_cast_82 ?_
          refine r_iast hx hb hK.1 hS 0 mC_32 rfl (nI_in0 (by omega) (by omega)) (f' := tA (ru (ru T 1 (nD T) (T 1 (T 5 j))) 2 (nD T) (T 6 j)) 2) (tA_put (by omega)) dX5_cast_83 (fun H locs hS => ?_)
          rw [mC_p32] at hS
          refine lv_aload_n hx hb dX5_cast_84 rfl (lv_at hl 0 rfl) ?_
          refine lv_dup hx hb dX5_cast_85 rfl ?_
          refine gf_X5_56 hx hb hown hK hS mC_30 (v := .int (nI (nD T))) rfl dX5_cast_86 ?_
          refine lv_iconst (v := nI 1) hx hb dX5_cast_89 (by decide) ?_
          refine lv_iadd hx hb dX5_cast_90 ?_
          refine r_top (nI_add _ _) ?_
          refine pf_X5_56 hx hb hown hK hS mC_30 rfl rfl (fs' := [.int (nI (nD T + 1)), .ref (ad 31 0), .ref (ad 32 0), .ref (ad 33 0), .ref (ad 34 0), .int (nI ((ru (ru T 1 (nD T) (T 1 (T 5 j))) 2 (nD T) (T 6 j)) 0 1)), .ref (ad 35 0), .ref (ad 36 0), .ref (ad 37 0), .ref (ad 38 0), .ref (ad 39 0), .ref (ad 40 0), .ref (ad 41 0), .int (nI ((ru (ru T 1 (nD T) (T 1 (T 5 j))) 2 (nD T) (T 6 j)) 0 2)), .ref (ad 42 0), .ref (ad 43 0), .ref (ad 44 0), .int (nI 0)]) (Nat.le_of_ble_eq_true rfl) rfl dX5_cast_91 (fun H locs hS => ?_)
          rw [mC_pn0] at hS
          refine lv_aload_n hx hb dX5_cast_94 rfl (lv_at hl 0 rfl) ?_
          refine gf_X5_56 hx hb hown hK hS mC_30 (v := .int (nI (nD T + 1))) rfl dX5_cast_95 ?_
          refine lv_iconst (v := nI 1) hx hb dX5_cast_98 (by decide) ?_
          refine lv_isub hx hb dX5_cast_99 ?_
          refine r_top (y := nI (nD T)) (pk_sub (a := nD T + 1) (b := 1) (by omega)) ?_
          exact r_iret hx hb hr hlocks hS (mP.mk0 (((sCast_0 hix).trans (if_neg q20)).trans (if_pos (by omega))) rfl (dieN_eq hN.z)) (Nat.zero_le _) (Nat.zero_le _) dX5_cast_100
        · -- F
          exact absurd q44 (by decide)
      · -- F
        refine lv_iconst (v := nI 2) hx hb dX5_cast_32 (by decide) ?_
        refine lv_goto (tgt := 37) hx hb dX5_cast_33 (by decide) ?_
        refine pf_X5_52 hx hb hown hK hS mC_30 rfl rfl (fs' := [.int (nI (nD T)), .ref (ad 31 0), .ref (ad 32 0), .ref (ad 33 0), .ref (ad 34 0), .int (nI (nC T)), .ref (ad 35 0), .ref (ad 36 0), .ref (ad 37 0), .ref (ad 38 0), .ref (ad 39 0), .ref (ad 40 0), .ref (ad 41 0), .int (nI (nS T)), .ref (ad 42 0), .ref (ad 43 0), .ref (ad 44 0), .int (nI 2)]) (Nat.le_of_ble_eq_true rfl) rfl dX5_cast_37 (fun H locs hS => ?_)
        rw [mC_pth] at hS
        refine lv_aload_n hx hb dX5_cast_40 rfl (lv_at hl 0 rfl) ?_
        refine gf_X5_52 hx hb hown hK hS mC_30 rfl dX5_cast_41 ?_
        refine r_if_le (a := 2) (tgt := 49) hx hb (by decide) dX5_cast_44 (by decide) (fun q44 => ?_) (fun q44 => ?_)
        · -- T
          exact absurd q44 (by decide)
        · -- F
          refine lv_iconst (v := nI 0) hx hb dX5_cast_47 (by decide) ?_
          exact r_iret hx hb hr hlocks hS (mP.mkE (n := 1) (((sCast_0 hix).trans (if_neg q20)).trans (if_neg (by omega)))) (Nat.zero_le _) (Nat.zero_le _) dX5_cast_48
  · -- F
    have hix := ix_no q6
    refine lv_iconst (v := nI 1) hx hb dX5_cast_9 (by decide) ?_
    refine lv_goto (tgt := 37) hx hb dX5_cast_10 (by decide) ?_
    refine pf_X5_52 hx hb hown hK hS mC_30 rfl rfl (fs' := [.int (nI (nD T)), .ref (ad 31 0), .ref (ad 32 0), .ref (ad 33 0), .ref (ad 34 0), .int (nI (nC T)), .ref (ad 35 0), .ref (ad 36 0), .ref (ad 37 0), .ref (ad 38 0), .ref (ad 39 0), .ref (ad 40 0), .ref (ad 41 0), .int (nI (nS T)), .ref (ad 42 0), .ref (ad 43 0), .ref (ad 44 0), .int (nI 1)]) (Nat.le_of_ble_eq_true rfl) rfl dX5_cast_37 (fun H locs hS => ?_)
    rw [mC_pth] at hS
    refine lv_aload_n hx hb dX5_cast_40 rfl (lv_at hl 0 rfl) ?_
    refine gf_X5_52 hx hb hown hK hS mC_30 rfl dX5_cast_41 ?_
    refine r_if_le (a := 1) (tgt := 49) hx hb (by decide) dX5_cast_44 (by decide) (fun q44 => ?_) (fun q44 => ?_)
    · -- T
      exact absurd q44 (by decide)
    · -- F
      refine lv_iconst (v := nI 0) hx hb dX5_cast_47 (by decide) ?_
      exact r_iret hx hb hr hlocks hS (mP.mkE (n := 0) (sCast_1 hix)) (Nat.zero_le _) (Nat.zero_le _) dX5_cast_48

set_option maxHeartbeats 4000000 in
set_option maxRecDepth 100000 in
theorem c_X5_melt {G : rG} {l : Launch} {T : rTab} {th : Int32} {rg : Nat → Int32} {C : rC} {ad : rA} (hN : mNu T) (a : Int32) : rMet G l yX5_melt cX5_melt 3 (some .int) (rmP 3) [.ref (ad 30 0), .int a] (mC G T th rg C ad) ad (mP G (sMelt T a) rg C ad) := by
  refine rMet.of (by decide) ?_
  intro p e s m below meth c hx hb hml hr hlocks hown hname hK hZ hS
  have hown : s.vm.findClass RX5 = some m.cls := hown
  have hA : ∀ q : Nat, s.heap.size ≤ q → (rF (mC G T th rg C ad) ad s.heap.size) q := rF.new
  refine r_entry _ (Nat.le_of_ble_eq_true rfl) (fun ls hl => ?_)
  have hl : lv_has ls 3 [(0, .ref (ad 30 0)), (1, .int a)] := hl
  have hnD := hN.hD
  have hnC := hN.hC
  have hnS := hN.hS
  refine lv_aload_n hx hb dX5_melt_0 rfl (lv_at hl 0 rfl) ?_
  refine lv_aload_n hx hb dX5_melt_1 rfl (lv_at hl 0 rfl) ?_
  refine lv_iload_n hx hb dX5_melt_2 rfl (lv_at hl 1 rfl) ?_
  refine cl_X5_74 hx hb hml hown hK hZ hS hA (c_X5_isCoin hN a) mC_30 rfl hl.1 (Nat.le_of_ble_eq_true rfl) ⟨Nat.le_of_ble_eq_true rfl, Nat.le_of_ble_eq_true rfl⟩ ⟨Nat.zero_le _, Nat.zero_le _⟩ rfl dX5_melt_3 (r_kp (fun H locs hS => ?_))
  refine r_ifb_ne (b := ((ixO a (nC T)).isSome)) (tgt := 13) hx hb dX5_melt_6 (by decide) (fun q6 => ?_) (fun q6 => ?_)
  · -- T
    obtain ⟨j, hj, hix, rfl⟩ := ix_get q6
    have hcn := hN.cn hj
    refine lv_aload_n hx hb dX5_melt_13 rfl (lv_at hl 0 rfl) ?_
    refine gf_X5_28 hx hb hown hK hS mC_30 rfl dX5_melt_14 ?_
    refine lv_iload_n hx hb dX5_melt_17 rfl (lv_at hl 1 rfl) ?_
    refine r_iald hx hb hK.1 hS 0 mC_37 rfl (nI_in0 (by omega) (by omega)) (v := nI (T 7 j)) (tA_at (by omega)) dX5_melt_18 ?_
    refine lv_iconst (v := nI 1) hx hb dX5_melt_19 (by decide) ?_
    refine r_icmp_ne (a := T 7 j) (b := 1) (tgt := 27) hx hb (by omega) (by omega) dX5_melt_20 (by decide) (fun q20 => ?_) (fun q20 => ?_)
    · -- T
      refine lv_iconst (v := nI 0) hx hb dX5_melt_27 (by decide) ?_
      refine pf_X5_52 hx hb hown hK hS mC_30 rfl rfl (fs' := [.int (nI (nD T)), .ref (ad 31 0), .ref (ad 32 0), .ref (ad 33 0), .ref (ad 34 0), .int (nI (nC T)), .ref (ad 35 0), .ref (ad 36 0), .ref (ad 37 0), .ref (ad 38 0), .ref (ad 39 0), .ref (ad 40 0), .ref (ad 41 0), .int (nI (nS T)), .ref (ad 42 0), .ref (ad 43 0), .ref (ad 44 0), .int (nI 0)]) (Nat.le_of_ble_eq_true rfl) rfl dX5_melt_28 (fun H locs hS => ?_)
      rw [mC_pth] at hS
      refine lv_aload_n hx hb dX5_melt_31 rfl (lv_at hl 0 rfl) ?_
      refine gf_X5_52 hx hb hown hK hS mC_30 rfl dX5_melt_32 ?_
      refine r_if_le (a := 0) (tgt := 40) hx hb (by decide) dX5_melt_35 (by decide) (fun q35 => ?_) (fun q35 => ?_)
      · -- T
        refine lv_aload_n hx hb dX5_melt_40 rfl (lv_at hl 0 rfl) ?_
        refine gf_X5_31 hx hb hown hK hS mC_30 rfl dX5_melt_41 ?_
        refine lv_iload_n hx hb dX5_melt_44 rfl (lv_at hl 1 rfl) ?_
        refine r_iald hx hb hK.1 hS 0 mC_38 rfl (nI_in0 (by omega) (by omega)) (v := nI (T 8 j)) (tA_at (by omega)) dX5_melt_45 ?_
        refine lv_iconst (v := nI 1) hx hb dX5_melt_46 (by decide) ?_
        refine lv_isub hx hb dX5_melt_47 ?_
        refine lv_istore_n (lv' := [(2, .int ((nI (T 8 j)) - (nI 1))), (0, .ref (ad 30 0)), (1, .int (nI j))]) hx hb dX5_melt_48 rfl hl (by decide) rfl (fun ls hl => ?_)
        refine lv_aload_n hx hb dX5_melt_49 rfl (lv_at hl 1 rfl) ?_
        refine gf_X5_28 hx hb hown hK hS mC_30 rfl dX5_melt_50 ?_
        refine lv_iload_n hx hb dX5_melt_53 rfl (lv_at hl 2 rfl) ?_
        refine lv_iconst (v := nI 1) hx hb dX5_melt_54 (by decide) ?_
        refine r_iast hx hb hK.1 hS 0 mC_37 rfl (nI_in0 (by omega) (by omega)) (f' := tA (ru T 7 j 1) 7) (tA_put (by omega)) dX5_melt_55 (fun H locs hS => ?_)
        rw [mC_p37] at hS
        refine lv_aload_n hx hb dX5_melt_56 rfl (lv_at hl 1 rfl) ?_
        refine gf_X5_31 hx hb hown hK hS mC_30 rfl dX5_melt_57 ?_
        refine lv_iload_n hx hb dX5_melt_60 rfl (lv_at hl 2 rfl) ?_
        refine lv_iconst (v := nI 0) hx hb dX5_melt_61 (by decide) ?_
        refine r_iast hx hb hK.1 hS 0 mC_38 rfl (nI_in0 (by omega) (by omega)) (f' := tA (ru (ru T 7 j 1) 8 j 0) 8) (tA_put (by omega)) dX5_melt_62 (fun H locs hS => ?_)
        rw [mC_p38] at hS
        refine lv_aload_n hx hb dX5_melt_63 rfl (lv_at hl 1 rfl) ?_
        refine gf_X5_34 hx hb hown hK hS mC_30 rfl dX5_melt_64 ?_
        refine lv_iload_n hx hb dX5_melt_67 rfl (lv_at hl 2 rfl) ?_
        refine lv_iconst (v := nI 0) hx hb dX5_melt_68 (by decide) ?_
        refine r_iast hx hb hK.1 hS 0 mC_39 rfl (nI_in0 (by omega) (by omega)) (f' := tA (ru (ru (ru T 7 j 1) 8 j 0) 9 j 0) 9) (tA_put (by omega)) dX5_melt_69 (fun H locs hS => ?_)
        rw [mC_p39] at hS
        refine lv_iload_n hx hb dX5_melt_70 rfl (lv_at hl 0 rfl) ?_
        exact r_iret hx hb hr hlocks hS (mP.mk0 ((sMelt_0 hix).trans (if_neg q20)) rfl melt_eq) (Nat.zero_le _) (Nat.zero_le _) dX5_melt_71
      · -- F
        exact absurd q35 (by decide)
    · -- F
      refine lv_iconst (v := nI 2) hx hb dX5_melt_23 (by decide) ?_
      refine lv_goto (tgt := 28) hx hb dX5_melt_24 (by decide) ?_
      refine pf_X5_52 hx hb hown hK hS mC_30 rfl rfl (fs' := [.int (nI (nD T)), .ref (ad 31 0), .ref (ad 32 0), .ref (ad 33 0), .ref (ad 34 0), .int (nI (nC T)), .ref (ad 35 0), .ref (ad 36 0), .ref (ad 37 0), .ref (ad 38 0), .ref (ad 39 0), .ref (ad 40 0), .ref (ad 41 0), .int (nI (nS T)), .ref (ad 42 0), .ref (ad 43 0), .ref (ad 44 0), .int (nI 2)]) (Nat.le_of_ble_eq_true rfl) rfl dX5_melt_28 (fun H locs hS => ?_)
      rw [mC_pth] at hS
      refine lv_aload_n hx hb dX5_melt_31 rfl (lv_at hl 0 rfl) ?_
      refine gf_X5_52 hx hb hown hK hS mC_30 rfl dX5_melt_32 ?_
      refine r_if_le (a := 2) (tgt := 40) hx hb (by decide) dX5_melt_35 (by decide) (fun q35 => ?_) (fun q35 => ?_)
      · -- T
        exact absurd q35 (by decide)
      · -- F
        refine lv_iconst (v := nI 0) hx hb dX5_melt_38 (by decide) ?_
        exact r_iret hx hb hr hlocks hS (mP.mkE (n := 1) ((sMelt_0 hix).trans (if_pos q20))) (Nat.zero_le _) (Nat.zero_le _) dX5_melt_39
  · -- F
    have hix := ix_no q6
    refine lv_iconst (v := nI 1) hx hb dX5_melt_9 (by decide) ?_
    refine lv_goto (tgt := 28) hx hb dX5_melt_10 (by decide) ?_
    refine pf_X5_52 hx hb hown hK hS mC_30 rfl rfl (fs' := [.int (nI (nD T)), .ref (ad 31 0), .ref (ad 32 0), .ref (ad 33 0), .ref (ad 34 0), .int (nI (nC T)), .ref (ad 35 0), .ref (ad 36 0), .ref (ad 37 0), .ref (ad 38 0), .ref (ad 39 0), .ref (ad 40 0), .ref (ad 41 0), .int (nI (nS T)), .ref (ad 42 0), .ref (ad 43 0), .ref (ad 44 0), .int (nI 1)]) (Nat.le_of_ble_eq_true rfl) rfl dX5_melt_28 (fun H locs hS => ?_)
    rw [mC_pth] at hS
    refine lv_aload_n hx hb dX5_melt_31 rfl (lv_at hl 0 rfl) ?_
    refine gf_X5_52 hx hb hown hK hS mC_30 rfl dX5_melt_32 ?_
    refine r_if_le (a := 1) (tgt := 40) hx hb (by decide) dX5_melt_35 (by decide) (fun q35 => ?_) (fun q35 => ?_)
    · -- T
      exact absurd q35 (by decide)
    · -- F
      refine lv_iconst (v := nI 0) hx hb dX5_melt_38 (by decide) ?_
      exact r_iret hx hb hr hlocks hS (mP.mkE (n := 0) (sMelt_1 hix)) (Nat.zero_le _) (Nat.zero_le _) dX5_melt_39

set_option maxHeartbeats 4000000 in
set_option maxRecDepth 100000 in
theorem c_X5_condemn {G : rG} {l : Launch} {T : rTab} {th : Int32} {rg : Nat → Int32} {C : rC} {ad : rA} (hN : mNu T) (a : Int32) : rMet G l yX5_condemn cX5_condemn 4 (some .int) (rmP 3) [.ref (ad 30 0), .int a] (mC G T th rg C ad) ad (mP G (sCond T a) rg C ad) := by
  refine rMet.of (by decide) ?_
  intro p e s m below meth c hx hb hml hr hlocks hown hname hK hZ hS
  have hown : s.vm.findClass RX5 = some m.cls := hown
  have hA : ∀ q : Nat, s.heap.size ≤ q → (rF (mC G T th rg C ad) ad s.heap.size) q := rF.new
  refine r_entry _ (Nat.le_of_ble_eq_true rfl) (fun ls hl => ?_)
  have hl : lv_has ls 4 [(0, .ref (ad 30 0)), (1, .int a)] := hl
  have hnD := hN.hD
  have hnC := hN.hC
  have hnS := hN.hS
  refine lv_aload_n hx hb dX5_condemn_0 rfl (lv_at hl 0 rfl) ?_
  refine lv_aload_n hx hb dX5_condemn_1 rfl (lv_at hl 0 rfl) ?_
  refine lv_iload_n hx hb dX5_condemn_2 rfl (lv_at hl 1 rfl) ?_
  refine cl_X5_66 hx hb hml hown hK hZ hS hA (c_X5_isDie hN a) mC_30 rfl hl.1 (Nat.le_of_ble_eq_true rfl) ⟨Nat.le_of_ble_eq_true rfl, Nat.le_of_ble_eq_true rfl⟩ ⟨Nat.zero_le _, Nat.zero_le _⟩ rfl dX5_condemn_3 (r_kp (fun H locs hS => ?_))
  refine r_ifb_ne (b := ((ixO a (nD T)).isSome)) (tgt := 13) hx hb dX5_condemn_6 (by decide) (fun q6 => ?_) (fun q6 => ?_)
  · -- T
    obtain ⟨d, hd, hix, rfl⟩ := ix_get q6
    have hdn := hN.dn hd
    refine lv_aload_n hx hb dX5_condemn_13 rfl (lv_at hl 0 rfl) ?_
    refine gf_X5_19 hx hb hown hK hS mC_30 rfl dX5_condemn_14 ?_
    refine lv_iload_n hx hb dX5_condemn_17 rfl (lv_at hl 1 rfl) ?_
    refine r_iald hx hb hK.1 hS 0 mC_34 rfl (nI_in0 (by omega) (by omega)) (v := nI (T 4 d)) (tA_at (by omega)) dX5_condemn_18 ?_
    refine lv_iconst (v := nI 1) hx hb dX5_condemn_19 (by decide) ?_
    refine r_icmp_eq (a := T 4 d) (b := 1) (tgt := 32) hx hb (by omega) (by omega) dX5_condemn_20 (by decide) (fun q20 => ?_) (fun q20 => ?_)
    · -- T
      refine lv_iconst (v := nI 2) hx hb dX5_condemn_32 (by decide) ?_
      refine lv_goto (tgt := 37) hx hb dX5_condemn_33 (by decide) ?_
      refine pf_X5_52 hx hb hown hK hS mC_30 rfl rfl (fs' := [.int (nI (nD T)), .ref (ad 31 0), .ref (ad 32 0), .ref (ad 33 0), .ref (ad 34 0), .int (nI (nC T)), .ref (ad 35 0), .ref (ad 36 0), .ref (ad 37 0), .ref (ad 38 0), .ref (ad 39 0), .ref (ad 40 0), .ref (ad 41 0), .int (nI (nS T)), .ref (ad 42 0), .ref (ad 43 0), .ref (ad 44 0), .int (nI 2)]) (Nat.le_of_ble_eq_true rfl) rfl dX5_condemn_37 (fun H locs hS => ?_)
      rw [mC_pth] at hS
      refine lv_aload_n hx hb dX5_condemn_40 rfl (lv_at hl 0 rfl) ?_
      refine gf_X5_52 hx hb hown hK hS mC_30 rfl dX5_condemn_41 ?_
      refine r_if_le (a := 2) (tgt := 49) hx hb (by decide) dX5_condemn_44 (by decide) (fun q44 => ?_) (fun q44 => ?_)
      · -- T
        exact absurd q44 (by decide)
      · -- F
        refine lv_iconst (v := nI 0) hx hb dX5_condemn_47 (by decide) ?_
        exact r_iret hx hb hr hlocks hS (mP.mkE (n := 1) ((sCond_0 hix).trans (if_pos (Or.inl q20)))) (Nat.zero_le _) (Nat.zero_le _) dX5_condemn_48
    · -- F
      refine lv_aload_n hx hb dX5_condemn_23 rfl (lv_at hl 0 rfl) ?_
      refine lv_iload_n hx hb dX5_condemn_24 rfl (lv_at hl 1 rfl) ?_
      refine cl_X5_81 hx hb hml hown hK hZ hS hA (c_X5_proofOf hN hd) mC_30 rfl hl.1 (Nat.le_of_ble_eq_true rfl) ⟨Nat.le_of_ble_eq_true rfl, Nat.le_of_ble_eq_true rfl⟩ ⟨Nat.zero_le _, Nat.zero_le _⟩ rfl dX5_condemn_25 (r_kp (fun H locs hS => ?_))
      refine lv_iconst (v := (-1)) hx hb dX5_condemn_28 (by decide) ?_
      refine r_one (tgt := 36) hx hb (pr_bd hnD) dX5_condemn_29 (by decide) (fun x29 q29 => ?_) (fun q29 => ?_)
      · -- T
        have hs := (sCond_0 hix).trans (if_neg (fun z => z.elim q20 (fun z2 => by rw [q29] at z2; cases z2)))
        refine lv_iconst (v := nI 0) hx hb dX5_condemn_36 (by decide) ?_
        refine pf_X5_52 hx hb hown hK hS mC_30 rfl rfl (fs' := [.int (nI (nD T)), .ref (ad 31 0), .ref (ad 32 0), .ref (ad 33 0), .ref (ad 34 0), .int (nI (nC T)), .ref (ad 35 0), .ref (ad 36 0), .ref (ad 37 0), .ref (ad 38 0), .ref (ad 39 0), .ref (ad 40 0), .ref (ad 41 0), .int (nI (nS T)), .ref (ad 42 0), .ref (ad 43 0), .ref (ad 44 0), .int (nI 0)]) (Nat.le_of_ble_eq_true rfl) rfl dX5_condemn_37 (fun H locs hS => ?_)
        rw [mC_pth] at hS
        refine lv_aload_n hx hb dX5_condemn_40 rfl (lv_at hl 0 rfl) ?_
        refine gf_X5_52 hx hb hown hK hS mC_30 rfl dX5_condemn_41 ?_
        refine r_if_le (a := 0) (tgt := 49) hx hb (by decide) dX5_condemn_44 (by decide) (fun q44 => ?_) (fun q44 => ?_)
        · -- T
          refine lv_aload_n hx hb dX5_condemn_49 rfl (lv_at hl 0 rfl) ?_
          refine lv_iload_n hx hb dX5_condemn_50 rfl (lv_at hl 1 rfl) ?_
          refine cl_X5_87 hx hb hml hown hK hZ hS hA (c_X5_rarityOf hN hd) mC_30 rfl hl.1 (Nat.le_of_ble_eq_true rfl) ⟨Nat.le_of_ble_eq_true rfl, Nat.le_of_ble_eq_true rfl⟩ ⟨Nat.zero_le _, Nat.zero_le _⟩ rfl dX5_condemn_51 (r_kp (fun H locs hS => ?_))
          refine lv_istore_n (lv' := [(2, .int (nI (rar T d))), (0, .ref (ad 30 0)), (1, .int (nI d))]) hx hb dX5_condemn_54 rfl hl (by decide) rfl (fun ls hl => ?_)
          refine lv_aload_n hx hb dX5_condemn_55 rfl (lv_at hl 1 rfl) ?_
          refine gf_X5_19 hx hb hown hK hS mC_30 rfl dX5_condemn_56 ?_
          refine lv_iload_n hx hb dX5_condemn_59 rfl (lv_at hl 2 rfl) ?_
          refine lv_iconst (v := nI 1) hx hb dX5_condemn_60 (by decide) ?_
          refine r_iast hx hb hK.1 hS 0 mC_34 rfl (nI_in0 (by omega) (by omega)) (f' := tA (ru T 4 d 1) 4) (tA_put (by omega)) dX5_condemn_61 (fun H locs hS => ?_)
          rw [mC_p34] at hS
          rw [← cndM_0] at hS
          refine lv_iconst (v := nI 0) hx hb dX5_condemn_62 (by decide) ?_
          refine lv_istore_n (lv' := [(3, .int (nI 0)), (2, .int (nI (rar T d))), (0, .ref (ad 30 0)), (1, .int (nI d))]) hx hb dX5_condemn_63 rfl hl (by decide) rfl (fun ls hl => ?_)
          refine r_loop (σ := Nat) (fun k => 8 - k) (fun k H locs ls => (k ≤ 8) ∧ rS G.1 (rF (mC G T th rg C ad) ad s.heap.size) s.heap (mC G (cndM T d k) (nI 0) rg C ad) ad H locs ∧ lv_has ls 4 [(3, .int (nI k)), (0, .ref (ad 30 0)), (1, .int (nI d)), (2, .int (nI (rar T d)))]) (fun _ => 0) (fun _ => 0) (fun z ih H locs ls hI => ?_) 0 (Nat.zero_le _) (Nat.zero_le _) ⟨Nat.zero_le _, hS, lv_sub hl [0, 2, 3, 1] rfl⟩
          obtain ⟨k, rfl⟩ : ∃ y, y = z := ⟨_, rfl⟩
          obtain ⟨hkl, hS, hl⟩ := hI
          try dsimp only at hkl hS hl ih ⊢
          refine lv_iload_n hx hb dX5_condemn_64 rfl (lv_at hl 0 rfl) ?_
          refine lv_bipush (v := nI 8) hx hb dX5_condemn_65 (by decide) ?_
          refine r_icmp_ge (a := k) (b := 8) (tgt := 90) hx hb (by omega) (by omega) dX5_condemn_67 (by decide) (fun q67 => ?_) (fun q67 => ?_)
          · -- T
            obtain rfl : k = 8 := by omega
            refine lv_iload_n hx hb dX5_condemn_90 rfl (lv_at hl 3 rfl) ?_
            exact r_iret hx hb hr hlocks hS (mP.mk0 hs rfl (cnd_eq hN.z)) (Nat.zero_le _) (Nat.zero_le _) dX5_condemn_91
          · -- F
            have hk8 : k < 8 := by omega
            refine lv_aload_n hx hb dX5_condemn_70 rfl (lv_at hl 1 rfl) ?_
            refine gf_X5_37 hx hb hown hK hS mC_30 rfl dX5_condemn_71 ?_
            refine lv_iload_n hx hb dX5_condemn_74 rfl (lv_at hl 0 rfl) ?_
            refine lv_dup2_11 hx hb dX5_condemn_75 rfl rfl ?_
            refine r_iald hx hb hK.1 hS 0 mC_40 rfl (nI_in0 (by omega) (by omega)) (v := nI ((cndM T d k) 10 k)) (tA_at (by omega)) dX5_condemn_76 ?_
            refine lv_iconst (v := nI 1) hx hb dX5_condemn_77 (by decide) ?_
            refine lv_iload_n hx hb dX5_condemn_78 rfl (lv_at hl 2 rfl) ?_
            refine lv_ishl hx hb dX5_condemn_79 ?_
            refine r_top (y := nI (2 ^ d)) (bit_i _ (by omega)) ?_
            refine lv_iconst (v := (-1)) hx hb dX5_condemn_80 (by decide) ?_
            refine lv_ixor hx hb dX5_condemn_81 ?_
            refine lv_iand hx hb dX5_condemn_82 ?_
            refine r_top (y := nI (clrB (cndM T d k 10 k) d)) (clr_i _ _) ?_
            refine r_iast hx hb hK.1 hS 0 mC_40 rfl (nI_in0 (by omega) (by omega)) (f' := tA (ru (cndM T d k) 10 k (clrB (cndM T d k 10 k) d)) 10) (tA_put (by omega)) dX5_condemn_83 (fun H locs hS => ?_)
            rw [mC_p40] at hS
            rw [← cndM_s] at hS
            refine lv_iinc (v := nI (k + 1)) (lv' := [(3, .int (nI (k + 1))), (0, .ref (ad 30 0)), (1, .int (nI d)), (2, .int (nI (rar T d)))]) hx hb dX5_condemn_84 hl (k := 0) rfl (nI_inc _) (by decide) rfl (fun ls hl => ?_)
            refine lv_goto (tgt := 64) hx hb dX5_condemn_87 (by decide) ?_
            exact ih (k + 1) (show 8 - (k + 1) < 8 - k by omega) _ _ _ ⟨(show k + 1 ≤ 8 by omega), hS, lv_sub hl [0, 1, 2, 3] rfl⟩
        · -- F
          exact absurd q44 (by decide)
      · -- F
        have hs := (sCond_0 hix).trans (if_pos (Or.inr q29))
        refine lv_iconst (v := nI 2) hx hb dX5_condemn_32 (by decide) ?_
        refine lv_goto (tgt := 37) hx hb dX5_condemn_33 (by decide) ?_
        refine pf_X5_52 hx hb hown hK hS mC_30 rfl rfl (fs' := [.int (nI (nD T)), .ref (ad 31 0), .ref (ad 32 0), .ref (ad 33 0), .ref (ad 34 0), .int (nI (nC T)), .ref (ad 35 0), .ref (ad 36 0), .ref (ad 37 0), .ref (ad 38 0), .ref (ad 39 0), .ref (ad 40 0), .ref (ad 41 0), .int (nI (nS T)), .ref (ad 42 0), .ref (ad 43 0), .ref (ad 44 0), .int (nI 2)]) (Nat.le_of_ble_eq_true rfl) rfl dX5_condemn_37 (fun H locs hS => ?_)
        rw [mC_pth] at hS
        refine lv_aload_n hx hb dX5_condemn_40 rfl (lv_at hl 0 rfl) ?_
        refine gf_X5_52 hx hb hown hK hS mC_30 rfl dX5_condemn_41 ?_
        refine r_if_le (a := 2) (tgt := 49) hx hb (by decide) dX5_condemn_44 (by decide) (fun q44 => ?_) (fun q44 => ?_)
        · -- T
          exact absurd q44 (by decide)
        · -- F
          refine lv_iconst (v := nI 0) hx hb dX5_condemn_47 (by decide) ?_
          exact r_iret hx hb hr hlocks hS (mP.mkE (n := 1) hs) (Nat.zero_le _) (Nat.zero_le _) dX5_condemn_48
  · -- F
    have hix := ix_no q6
    refine lv_iconst (v := nI 1) hx hb dX5_condemn_9 (by decide) ?_
    refine lv_goto (tgt := 37) hx hb dX5_condemn_10 (by decide) ?_
    refine pf_X5_52 hx hb hown hK hS mC_30 rfl rfl (fs' := [.int (nI (nD T)), .ref (ad 31 0), .ref (ad 32 0), .ref (ad 33 0), .ref (ad 34 0), .int (nI (nC T)), .ref (ad 35 0), .ref (ad 36 0), .ref (ad 37 0), .ref (ad 38 0), .ref (ad 39 0), .ref (ad 40 0), .ref (ad 41 0), .int (nI (nS T)), .ref (ad 42 0), .ref (ad 43 0), .ref (ad 44 0), .int (nI 1)]) (Nat.le_of_ble_eq_true rfl) rfl dX5_condemn_37 (fun H locs hS => ?_)
    rw [mC_pth] at hS
    refine lv_aload_n hx hb dX5_condemn_40 rfl (lv_at hl 0 rfl) ?_
    refine gf_X5_52 hx hb hown hK hS mC_30 rfl dX5_condemn_41 ?_
    refine r_if_le (a := 1) (tgt := 49) hx hb (by decide) dX5_condemn_44 (by decide) (fun q44 => ?_) (fun q44 => ?_)
    · -- T
      exact absurd q44 (by decide)
    · -- F
      refine lv_iconst (v := nI 0) hx hb dX5_condemn_47 (by decide) ?_
      exact r_iret hx hb hr hlocks hS (mP.mkE (n := 0) (sCond_1 hix)) (Nat.zero_le _) (Nat.zero_le _) dX5_condemn_48

set_option maxHeartbeats 4000000 in
set_option maxRecDepth 100000 in
theorem c_X5_give {G : rG} {l : Launch} {T : rTab} {th : Int32} {rg : Nat → Int32} {C : rC} {ad : rA} (hN : mNu T) (a b : Int32) : rMet G l yX5_give cX5_give 3 (some .int) (rmP 3) [.ref (ad 30 0), .int a, .int b] (mC G T th rg C ad) ad (mP G (sGive T a b) rg C ad) := by
  refine rMet.of (by decide) ?_
  intro p e s m below meth c hx hb hml hr hlocks hown hname hK hZ hS
  have hown : s.vm.findClass RX5 = some m.cls := hown
  have hA : ∀ q : Nat, s.heap.size ≤ q → (rF (mC G T th rg C ad) ad s.heap.size) q := rF.new
  refine r_entry _ (Nat.le_of_ble_eq_true rfl) (fun ls hl => ?_)
  have hl : lv_has ls 3 [(0, .ref (ad 30 0)), (1, .int a), (2, .int b)] := hl
  have hnD := hN.hD
  have hnC := hN.hC
  have hnS := hN.hS
  refine lv_aload_n hx hb dX5_give_0 rfl (lv_at hl 0 rfl) ?_
  refine lv_aload_n hx hb dX5_give_1 rfl (lv_at hl 0 rfl) ?_
  refine lv_iload_n hx hb dX5_give_2 rfl (lv_at hl 1 rfl) ?_
  refine cl_X5_74 hx hb hml hown hK hZ hS hA (c_X5_isCoin hN a) mC_30 rfl hl.1 (Nat.le_of_ble_eq_true rfl) ⟨Nat.le_of_ble_eq_true rfl, Nat.le_of_ble_eq_true rfl⟩ ⟨Nat.zero_le _, Nat.zero_le _⟩ rfl dX5_give_3 (r_kp (fun H locs hS => ?_))
  refine r_ifb_eq (b := ((ixO a (nC T)).isSome)) (tgt := 16) hx hb dX5_give_6 (by decide) (fun q6 => ?_) (fun q6 => ?_)
  · -- T
    have hix := ix_no q6
    refine lv_iconst (v := nI 1) hx hb dX5_give_16 (by decide) ?_
    refine lv_goto (tgt := 21) hx hb dX5_give_17 (by decide) ?_
    refine pf_X5_52 hx hb hown hK hS mC_30 rfl rfl (fs' := [.int (nI (nD T)), .ref (ad 31 0), .ref (ad 32 0), .ref (ad 33 0), .ref (ad 34 0), .int (nI (nC T)), .ref (ad 35 0), .ref (ad 36 0), .ref (ad 37 0), .ref (ad 38 0), .ref (ad 39 0), .ref (ad 40 0), .ref (ad 41 0), .int (nI (nS T)), .ref (ad 42 0), .ref (ad 43 0), .ref (ad 44 0), .int (nI 1)]) (Nat.le_of_ble_eq_true rfl) rfl dX5_give_21 (fun H locs hS => ?_)
    rw [mC_pth] at hS
    refine lv_aload_n hx hb dX5_give_24 rfl (lv_at hl 0 rfl) ?_
    refine gf_X5_52 hx hb hown hK hS mC_30 rfl dX5_give_25 ?_
    refine r_if_le (a := 1) (tgt := 33) hx hb (by decide) dX5_give_28 (by decide) (fun q28 => ?_) (fun q28 => ?_)
    · -- T
      exact absurd q28 (by decide)
    · -- F
      refine lv_iconst (v := nI 0) hx hb dX5_give_31 (by decide) ?_
      exact r_iret hx hb hr hlocks hS (mP.mkE (n := 0) (sGive_1 hix)) (Nat.zero_le _) (Nat.zero_le _) dX5_give_32
  · -- F
    obtain ⟨j, hj, hix, rfl⟩ := ix_get q6
    have hcn := hN.cn hj
    refine lv_iload_n hx hb dX5_give_9 rfl (lv_at hl 2 rfl) ?_
    refine cl_X5_99 hx hb hml hown hK hZ hS hA (c_X5_isCollector b) rfl hl.1 (Nat.le_of_ble_eq_true rfl) ⟨Nat.le_of_ble_eq_true rfl, Nat.le_of_ble_eq_true rfl⟩ ⟨Nat.zero_le _, Nat.zero_le _⟩ rfl dX5_give_10 (r_kp (fun H locs hS => ?_))
    refine r_ifb_ne (b := ((ixO b 8).isSome)) (tgt := 20) hx hb dX5_give_13 (by decide) (fun q13 => ?_) (fun q13 => ?_)
    · -- T
      obtain ⟨k, hk, hiy, rfl⟩ := ix_get q13
      have how := hN.ow hk
      refine lv_iconst (v := nI 0) hx hb dX5_give_20 (by decide) ?_
      refine pf_X5_52 hx hb hown hK hS mC_30 rfl rfl (fs' := [.int (nI (nD T)), .ref (ad 31 0), .ref (ad 32 0), .ref (ad 33 0), .ref (ad 34 0), .int (nI (nC T)), .ref (ad 35 0), .ref (ad 36 0), .ref (ad 37 0), .ref (ad 38 0), .ref (ad 39 0), .ref (ad 40 0), .ref (ad 41 0), .int (nI (nS T)), .ref (ad 42 0), .ref (ad 43 0), .ref (ad 44 0), .int (nI 0)]) (Nat.le_of_ble_eq_true rfl) rfl dX5_give_21 (fun H locs hS => ?_)
      rw [mC_pth] at hS
      refine lv_aload_n hx hb dX5_give_24 rfl (lv_at hl 0 rfl) ?_
      refine gf_X5_52 hx hb hown hK hS mC_30 rfl dX5_give_25 ?_
      refine r_if_le (a := 0) (tgt := 33) hx hb (by decide) dX5_give_28 (by decide) (fun q28 => ?_) (fun q28 => ?_)
      · -- T
        refine lv_aload_n hx hb dX5_give_33 rfl (lv_at hl 0 rfl) ?_
        refine lv_aload_n hx hb dX5_give_34 rfl (lv_at hl 0 rfl) ?_
        refine gf_X5_28 hx hb hown hK hS mC_30 rfl dX5_give_35 ?_
        refine lv_iload_n hx hb dX5_give_38 rfl (lv_at hl 1 rfl) ?_
        refine r_iald hx hb hK.1 hS 0 mC_37 rfl (nI_in0 (by omega) (by omega)) (v := nI (T 7 j)) (tA_at (by omega)) dX5_give_39 ?_
        refine lv_iconst (v := nI 1) hx hb dX5_give_40 (by decide) ?_
        refine r_icmp_eq (a := T 7 j) (b := 1) (tgt := 63) hx hb (by omega) (by omega) dX5_give_41 (by decide) (fun q41 => ?_) (fun q41 => ?_)
        · -- T
          refine lv_iconst (v := nI 2) hx hb dX5_give_63 (by decide) ?_
          refine lv_goto (tgt := 68) hx hb dX5_give_64 (by decide) ?_
          refine pf_X5_52 hx hb hown hK hS mC_30 rfl rfl (fs' := [.int (nI (nD T)), .ref (ad 31 0), .ref (ad 32 0), .ref (ad 33 0), .ref (ad 34 0), .int (nI (nC T)), .ref (ad 35 0), .ref (ad 36 0), .ref (ad 37 0), .ref (ad 38 0), .ref (ad 39 0), .ref (ad 40 0), .ref (ad 41 0), .int (nI (nS T)), .ref (ad 42 0), .ref (ad 43 0), .ref (ad 44 0), .int (nI 2)]) (Nat.le_of_ble_eq_true rfl) rfl dX5_give_68 (fun H locs hS => ?_)
          rw [mC_pth] at hS
          refine lv_aload_n hx hb dX5_give_71 rfl (lv_at hl 0 rfl) ?_
          refine gf_X5_52 hx hb hown hK hS mC_30 rfl dX5_give_72 ?_
          refine r_if_le (a := 2) (tgt := 80) hx hb (by decide) dX5_give_75 (by decide) (fun q75 => ?_) (fun q75 => ?_)
          · -- T
            exact absurd q75 (by decide)
          · -- F
            refine lv_iconst (v := nI 0) hx hb dX5_give_78 (by decide) ?_
            exact r_iret hx hb hr hlocks hS (mP.mkE (n := 1) ((sGive_0 hix hiy).trans (if_pos (by omega)))) (Nat.zero_le _) (Nat.zero_le _) dX5_give_79
        · -- F
          refine lv_aload_n hx hb dX5_give_44 rfl (lv_at hl 0 rfl) ?_
          refine gf_X5_31 hx hb hown hK hS mC_30 rfl dX5_give_45 ?_
          refine lv_iload_n hx hb dX5_give_48 rfl (lv_at hl 1 rfl) ?_
          refine r_iald hx hb hK.1 hS 0 mC_38 rfl (nI_in0 (by omega) (by omega)) (v := nI (T 8 j)) (tA_at (by omega)) dX5_give_49 ?_
          refine r_if_gt (a := T 8 j) (tgt := 63) hx hb (by omega) dX5_give_50 (by decide) (fun q50 => ?_) (fun q50 => ?_)
          · -- T
            refine lv_iconst (v := nI 2) hx hb dX5_give_63 (by decide) ?_
            refine lv_goto (tgt := 68) hx hb dX5_give_64 (by decide) ?_
            refine pf_X5_52 hx hb hown hK hS mC_30 rfl rfl (fs' := [.int (nI (nD T)), .ref (ad 31 0), .ref (ad 32 0), .ref (ad 33 0), .ref (ad 34 0), .int (nI (nC T)), .ref (ad 35 0), .ref (ad 36 0), .ref (ad 37 0), .ref (ad 38 0), .ref (ad 39 0), .ref (ad 40 0), .ref (ad 41 0), .int (nI (nS T)), .ref (ad 42 0), .ref (ad 43 0), .ref (ad 44 0), .int (nI 2)]) (Nat.le_of_ble_eq_true rfl) rfl dX5_give_68 (fun H locs hS => ?_)
            rw [mC_pth] at hS
            refine lv_aload_n hx hb dX5_give_71 rfl (lv_at hl 0 rfl) ?_
            refine gf_X5_52 hx hb hown hK hS mC_30 rfl dX5_give_72 ?_
            refine r_if_le (a := 2) (tgt := 80) hx hb (by decide) dX5_give_75 (by decide) (fun q75 => ?_) (fun q75 => ?_)
            · -- T
              exact absurd q75 (by decide)
            · -- F
              refine lv_iconst (v := nI 0) hx hb dX5_give_78 (by decide) ?_
              exact r_iret hx hb hr hlocks hS (mP.mkE (n := 1) ((sGive_0 hix hiy).trans (if_pos (by omega)))) (Nat.zero_le _) (Nat.zero_le _) dX5_give_79
          · -- F
            refine lv_aload_n hx hb dX5_give_53 rfl (lv_at hl 0 rfl) ?_
            refine lv_iload_n hx hb dX5_give_54 rfl (lv_at hl 2 rfl) ?_
            refine cl_X5_102 hx hb hml hown hK hZ hS hA (c_X5_owned hnC (fun i hi => (hN.cn hi).2.2.2.1) hk) mC_30 rfl hl.1 (Nat.le_of_ble_eq_true rfl) ⟨Nat.le_of_ble_eq_true rfl, Nat.le_of_ble_eq_true rfl⟩ ⟨Nat.zero_le _, Nat.zero_le _⟩ rfl dX5_give_55 (r_kp (fun H locs hS => ?_))
            refine lv_bipush (v := nI 10) hx hb dX5_give_58 (by decide) ?_
            refine r_icmp_ne (a := ownedN T k) (b := 10) (tgt := 67) hx hb (by omega) (by omega) dX5_give_60 (by decide) (fun q60 => ?_) (fun q60 => ?_)
            · -- T
              refine lv_iconst (v := nI 0) hx hb dX5_give_67 (by decide) ?_
              refine pf_X5_52 hx hb hown hK hS mC_30 rfl rfl (fs' := [.int (nI (nD T)), .ref (ad 31 0), .ref (ad 32 0), .ref (ad 33 0), .ref (ad 34 0), .int (nI (nC T)), .ref (ad 35 0), .ref (ad 36 0), .ref (ad 37 0), .ref (ad 38 0), .ref (ad 39 0), .ref (ad 40 0), .ref (ad 41 0), .int (nI (nS T)), .ref (ad 42 0), .ref (ad 43 0), .ref (ad 44 0), .int (nI 0)]) (Nat.le_of_ble_eq_true rfl) rfl dX5_give_68 (fun H locs hS => ?_)
              rw [mC_pth] at hS
              refine lv_aload_n hx hb dX5_give_71 rfl (lv_at hl 0 rfl) ?_
              refine gf_X5_52 hx hb hown hK hS mC_30 rfl dX5_give_72 ?_
              refine r_if_le (a := 0) (tgt := 80) hx hb (by decide) dX5_give_75 (by decide) (fun q75 => ?_) (fun q75 => ?_)
              · -- T
                have hs := (sGive_0 hix hiy).trans (if_neg (by omega))
                refine lv_aload_n hx hb dX5_give_80 rfl (lv_at hl 0 rfl) ?_
                refine lv_iload_n hx hb dX5_give_81 rfl (lv_at hl 2 rfl) ?_
                refine lv_iload_n hx hb dX5_give_82 rfl (lv_at hl 1 rfl) ?_
                refine cl_X5_105 hx hb hml hown hK hZ hS hA (c_X5_gets hnC hk hj (by omega)) mC_30 rfl hl.1 (Nat.le_of_ble_eq_true rfl) ⟨Nat.le_of_ble_eq_true rfl, Nat.le_of_ble_eq_true rfl⟩ ⟨Nat.zero_le _, Nat.zero_le _⟩ rfl dX5_give_83 (r_kv (fun C' ad' H locs hQ hS => ?_))
                obtain ⟨rfl, rfl⟩ := hQ
                have g8 : ∀ i, i < nC (gainT T k j) → (gainT T k j) 8 i ≤ 8 := fun i hi => by
                  have hi : i < nC T := hi
                  have := (hN.cn hi).2.2.2.1
                  show ru (ru (ru (ru T 8 j (k + 1)) 9 j 0) 21 j 0) 10 k _ 8 i ≤ 8
                  rw [ru_k (by decide), ru_k (by decide), ru_k (by decide)]
                  by_cases e : i = j
                  · rw [e, ru_e]
                    omega
                  · rw [ru_i e]
                    exact this
                refine lv_aload_n hx hb dX5_give_86 rfl (lv_at hl 0 rfl) ?_
                refine lv_iload_n hx hb dX5_give_87 rfl (lv_at hl 2 rfl) ?_
                refine cl_X5_102 hx hb hml hown hK hZ hS hA (c_X5_owned (T := gainT T k j) (show nC (gainT T k j) ≤ 150 from hnC) g8 hk) mC_30 rfl hl.1 (Nat.le_of_ble_eq_true rfl) ⟨Nat.le_of_ble_eq_true rfl, Nat.le_of_ble_eq_true rfl⟩ ⟨Nat.zero_le _, Nat.zero_le _⟩ rfl dX5_give_88 (r_kp (fun H locs hS => ?_))
                exact r_iret hx hb hr hlocks hS (mP.mk0 hs rfl mEq.rf) (Nat.zero_le _) (Nat.zero_le _) dX5_give_91
              · -- F
                exact absurd q75 (by decide)
            · -- F
              refine lv_iconst (v := nI 2) hx hb dX5_give_63 (by decide) ?_
              refine lv_goto (tgt := 68) hx hb dX5_give_64 (by decide) ?_
              refine pf_X5_52 hx hb hown hK hS mC_30 rfl rfl (fs' := [.int (nI (nD T)), .ref (ad 31 0), .ref (ad 32 0), .ref (ad 33 0), .ref (ad 34 0), .int (nI (nC T)), .ref (ad 35 0), .ref (ad 36 0), .ref (ad 37 0), .ref (ad 38 0), .ref (ad 39 0), .ref (ad 40 0), .ref (ad 41 0), .int (nI (nS T)), .ref (ad 42 0), .ref (ad 43 0), .ref (ad 44 0), .int (nI 2)]) (Nat.le_of_ble_eq_true rfl) rfl dX5_give_68 (fun H locs hS => ?_)
              rw [mC_pth] at hS
              refine lv_aload_n hx hb dX5_give_71 rfl (lv_at hl 0 rfl) ?_
              refine gf_X5_52 hx hb hown hK hS mC_30 rfl dX5_give_72 ?_
              refine r_if_le (a := 2) (tgt := 80) hx hb (by decide) dX5_give_75 (by decide) (fun q75 => ?_) (fun q75 => ?_)
              · -- T
                exact absurd q75 (by decide)
              · -- F
                refine lv_iconst (v := nI 0) hx hb dX5_give_78 (by decide) ?_
                exact r_iret hx hb hr hlocks hS (mP.mkE (n := 1) ((sGive_0 hix hiy).trans (if_pos (by omega)))) (Nat.zero_le _) (Nat.zero_le _) dX5_give_79
      · -- F
        exact absurd q28 (by decide)
    · -- F
      have hiy := ix_no q13
      refine lv_iconst (v := nI 1) hx hb dX5_give_16 (by decide) ?_
      refine lv_goto (tgt := 21) hx hb dX5_give_17 (by decide) ?_
      refine pf_X5_52 hx hb hown hK hS mC_30 rfl rfl (fs' := [.int (nI (nD T)), .ref (ad 31 0), .ref (ad 32 0), .ref (ad 33 0), .ref (ad 34 0), .int (nI (nC T)), .ref (ad 35 0), .ref (ad 36 0), .ref (ad 37 0), .ref (ad 38 0), .ref (ad 39 0), .ref (ad 40 0), .ref (ad 41 0), .int (nI (nS T)), .ref (ad 42 0), .ref (ad 43 0), .ref (ad 44 0), .int (nI 1)]) (Nat.le_of_ble_eq_true rfl) rfl dX5_give_21 (fun H locs hS => ?_)
      rw [mC_pth] at hS
      refine lv_aload_n hx hb dX5_give_24 rfl (lv_at hl 0 rfl) ?_
      refine gf_X5_52 hx hb hown hK hS mC_30 rfl dX5_give_25 ?_
      refine r_if_le (a := 1) (tgt := 33) hx hb (by decide) dX5_give_28 (by decide) (fun q28 => ?_) (fun q28 => ?_)
      · -- T
        exact absurd q28 (by decide)
      · -- F
        refine lv_iconst (v := nI 0) hx hb dX5_give_31 (by decide) ?_
        exact r_iret hx hb hr hlocks hS (mP.mkE (n := 0) (sGive_2 hix hiy)) (Nat.zero_le _) (Nat.zero_le _) dX5_give_32

set_option maxHeartbeats 4000000 in
set_option maxRecDepth 100000 in
theorem c_X5_want {G : rG} {l : Launch} {T : rTab} {th : Int32} {rg : Nat → Int32} {C : rC} {ad : rA} (hN : mNu T) (a b : Int32) (w : Bool) : rMet G l yX5_want cX5_want 4 (some .int) (rmP 3) [.ref (ad 30 0), .int a, .int b, .int (bI w)] (mC G T th rg C ad) ad (mP G (sWant T a b w) rg C ad) := by
  refine rMet.of (by decide) ?_
  intro p e s m below meth c hx hb hml hr hlocks hown hname hK hZ hS
  have hown : s.vm.findClass RX5 = some m.cls := hown
  have hA : ∀ q : Nat, s.heap.size ≤ q → (rF (mC G T th rg C ad) ad s.heap.size) q := rF.new
  refine r_entry _ (Nat.le_of_ble_eq_true rfl) (fun ls hl => ?_)
  have hl : lv_has ls 4 [(0, .ref (ad 30 0)), (1, .int a), (2, .int b), (3, .int (bI w))] := hl
  have hnD := hN.hD
  have hnC := hN.hC
  have hnS := hN.hS
  refine lv_aload_n hx hb dX5_want_0 rfl (lv_at hl 0 rfl) ?_
  refine lv_iload_n hx hb dX5_want_1 rfl (lv_at hl 1 rfl) ?_
  refine cl_X5_99 hx hb hml hown hK hZ hS hA (c_X5_isCollector a) rfl hl.1 (Nat.le_of_ble_eq_true rfl) ⟨Nat.le_of_ble_eq_true rfl, Nat.le_of_ble_eq_true rfl⟩ ⟨Nat.zero_le _, Nat.zero_le _⟩ rfl dX5_want_2 (r_kp (fun H locs hS => ?_))
  refine r_ifb_eq (b := ((ixO a 8).isSome)) (tgt := 16) hx hb dX5_want_5 (by decide) (fun q5 => ?_) (fun q5 => ?_)
  · -- T
    have hix := ix_no q5
    refine lv_iconst (v := nI 1) hx hb dX5_want_16 (by decide) ?_
    refine lv_goto (tgt := 39) hx hb dX5_want_17 (by decide) ?_
    refine pf_X5_52 hx hb hown hK hS mC_30 rfl rfl (fs' := [.int (nI (nD T)), .ref (ad 31 0), .ref (ad 32 0), .ref (ad 33 0), .ref (ad 34 0), .int (nI (nC T)), .ref (ad 35 0), .ref (ad 36 0), .ref (ad 37 0), .ref (ad 38 0), .ref (ad 39 0), .ref (ad 40 0), .ref (ad 41 0), .int (nI (nS T)), .ref (ad 42 0), .ref (ad 43 0), .ref (ad 44 0), .int (nI 1)]) (Nat.le_of_ble_eq_true rfl) rfl dX5_want_39 (fun H locs hS => ?_)
    rw [mC_pth] at hS
    refine lv_aload_n hx hb dX5_want_42 rfl (lv_at hl 0 rfl) ?_
    refine gf_X5_52 hx hb hown hK hS mC_30 rfl dX5_want_43 ?_
    refine r_if_le (a := 1) (tgt := 51) hx hb (by decide) dX5_want_46 (by decide) (fun q46 => ?_) (fun q46 => ?_)
    · -- T
      exact absurd q46 (by decide)
    · -- F
      refine lv_iconst (v := nI 0) hx hb dX5_want_49 (by decide) ?_
      exact r_iret hx hb hr hlocks hS (mP.mkE (n := 0) (sWant_1 hix)) (Nat.zero_le _) (Nat.zero_le _) dX5_want_50
  · -- F
    obtain ⟨k, hk, hix, rfl⟩ := ix_get q5
    have hkn := hN.kn hk
    refine lv_aload_n hx hb dX5_want_8 rfl (lv_at hl 0 rfl) ?_
    refine lv_iload_n hx hb dX5_want_9 rfl (lv_at hl 2 rfl) ?_
    refine cl_X5_66 hx hb hml hown hK hZ hS hA (c_X5_isDie hN b) mC_30 rfl hl.1 (Nat.le_of_ble_eq_true rfl) ⟨Nat.le_of_ble_eq_true rfl, Nat.le_of_ble_eq_true rfl⟩ ⟨Nat.zero_le _, Nat.zero_le _⟩ rfl dX5_want_10 (r_kp (fun H locs hS => ?_))
    refine r_ifb_ne (b := ((ixO b (nD T)).isSome)) (tgt := 20) hx hb dX5_want_13 (by decide) (fun q13 => ?_) (fun q13 => ?_)
    · -- T
      obtain ⟨d, hd, hiy, rfl⟩ := ix_get q13
      have hdn := hN.dn hd
      refine lv_iload_n hx hb dX5_want_20 rfl (lv_at hl 3 rfl) ?_
      refine r_ifb_eq (b := w) (tgt := 38) hx hb dX5_want_21 (by decide) (fun q21 => ?_) (fun q21 => ?_)
      · -- T
        refine lv_iconst (v := nI 0) hx hb dX5_want_38 (by decide) ?_
        refine pf_X5_52 hx hb hown hK hS mC_30 rfl rfl (fs' := [.int (nI (nD T)), .ref (ad 31 0), .ref (ad 32 0), .ref (ad 33 0), .ref (ad 34 0), .int (nI (nC T)), .ref (ad 35 0), .ref (ad 36 0), .ref (ad 37 0), .ref (ad 38 0), .ref (ad 39 0), .ref (ad 40 0), .ref (ad 41 0), .int (nI (nS T)), .ref (ad 42 0), .ref (ad 43 0), .ref (ad 44 0), .int (nI 0)]) (Nat.le_of_ble_eq_true rfl) rfl dX5_want_39 (fun H locs hS => ?_)
        rw [mC_pth] at hS
        refine lv_aload_n hx hb dX5_want_42 rfl (lv_at hl 0 rfl) ?_
        refine gf_X5_52 hx hb hown hK hS mC_30 rfl dX5_want_43 ?_
        refine r_if_le (a := 0) (tgt := 51) hx hb (by decide) dX5_want_46 (by decide) (fun q46 => ?_) (fun q46 => ?_)
        · -- T
          refine lv_aload_n hx hb dX5_want_51 rfl (lv_at hl 0 rfl) ?_
          refine gf_X5_37 hx hb hown hK hS mC_30 rfl dX5_want_52 ?_
          refine lv_iload_n hx hb dX5_want_55 rfl (lv_at hl 1 rfl) ?_
          refine lv_iload_n hx hb dX5_want_56 rfl (lv_at hl 3 rfl) ?_
          refine r_ifb_eq (b := w) (tgt := 73) hx hb dX5_want_57 (by decide) (fun q57 => ?_) (fun q57 => ?_)
          · -- T
            refine lv_aload_n hx hb dX5_want_73 rfl (lv_at hl 0 rfl) ?_
            refine gf_X5_37 hx hb hown hK hS mC_30 rfl dX5_want_74 ?_
            refine lv_iload_n hx hb dX5_want_77 rfl (lv_at hl 1 rfl) ?_
            refine r_iald hx hb hK.1 hS 0 mC_40 rfl (nI_in0 (by omega) (by omega)) (v := nI (T 10 k)) (tA_at (by omega)) dX5_want_78 ?_
            refine lv_iconst (v := nI 1) hx hb dX5_want_79 (by decide) ?_
            refine lv_iload_n hx hb dX5_want_80 rfl (lv_at hl 2 rfl) ?_
            refine lv_ishl hx hb dX5_want_81 ?_
            refine r_top (y := nI (2 ^ d)) (bit_i _ (by omega)) ?_
            refine lv_iconst (v := (-1)) hx hb dX5_want_82 (by decide) ?_
            refine lv_ixor hx hb dX5_want_83 ?_
            refine lv_iand hx hb dX5_want_84 ?_
            refine r_top (y := nI (clrB (T 10 k) d)) (clr_i _ _) ?_
            refine r_iast hx hb hK.1 hS 0 mC_40 rfl (nI_in0 (by omega) (by omega)) (f' := tA (ru T 10 k (clrB (T 10 k) d)) 10) (tA_put (by omega)) dX5_want_85 (fun H locs hS => ?_)
            rw [mC_p40] at hS
            refine lv_aload_n hx hb dX5_want_86 rfl (lv_at hl 0 rfl) ?_
            refine gf_X5_37 hx hb hown hK hS mC_30 rfl dX5_want_87 ?_
            refine lv_iload_n hx hb dX5_want_90 rfl (lv_at hl 1 rfl) ?_
            refine r_iald hx hb hK.1 hS 0 mC_40 rfl (nI_in0 (by omega) (by omega)) (v := nI (clrB (T 10 k) d)) ((tA_at (by omega)).trans (congrArg nI (ru_e))) dX5_want_91 ?_
            refine cl_X5_70 hx hb hml hown hK hZ hS hA (c_X5_count (Nat.lt_of_le_of_lt (clrB_le _ _) hkn.1)) rfl hl.1 (Nat.le_of_ble_eq_true rfl) ⟨Nat.le_of_ble_eq_true rfl, Nat.le_of_ble_eq_true rfl⟩ ⟨Nat.zero_le _, Nat.zero_le _⟩ rfl dX5_want_92 (r_kp (fun H locs hS => ?_))
            exact r_iret hx hb hr hlocks hS (mP.mk0 ((sWant_0 hix hiy).trans (if_neg (fun z => by rw [q21] at z; cases z.1))) (by rw [if_neg (by rw [q21]; exact Bool.false_ne_true)]) (by unfold wantT; rw [if_neg (by rw [q21]; exact Bool.false_ne_true)]; exact mEq.rf)) (Nat.zero_le _) (Nat.zero_le _) dX5_want_95
          · -- F
            exact absurd (q21.symm.trans q57) (by decide)
        · -- F
          exact absurd q46 (by decide)
      · -- F
        refine lv_aload_n hx hb dX5_want_24 rfl (lv_at hl 0 rfl) ?_
        refine gf_X5_19 hx hb hown hK hS mC_30 rfl dX5_want_25 ?_
        refine lv_iload_n hx hb dX5_want_28 rfl (lv_at hl 2 rfl) ?_
        refine r_iald hx hb hK.1 hS 0 mC_34 rfl (nI_in0 (by omega) (by omega)) (v := nI (T 4 d)) (tA_at (by omega)) dX5_want_29 ?_
        refine lv_iconst (v := nI 1) hx hb dX5_want_30 (by decide) ?_
        refine r_icmp_ne (a := T 4 d) (b := 1) (tgt := 38) hx hb (by omega) (by omega) dX5_want_31 (by decide) (fun q31 => ?_) (fun q31 => ?_)
        · -- T
          refine lv_iconst (v := nI 0) hx hb dX5_want_38 (by decide) ?_
          refine pf_X5_52 hx hb hown hK hS mC_30 rfl rfl (fs' := [.int (nI (nD T)), .ref (ad 31 0), .ref (ad 32 0), .ref (ad 33 0), .ref (ad 34 0), .int (nI (nC T)), .ref (ad 35 0), .ref (ad 36 0), .ref (ad 37 0), .ref (ad 38 0), .ref (ad 39 0), .ref (ad 40 0), .ref (ad 41 0), .int (nI (nS T)), .ref (ad 42 0), .ref (ad 43 0), .ref (ad 44 0), .int (nI 0)]) (Nat.le_of_ble_eq_true rfl) rfl dX5_want_39 (fun H locs hS => ?_)
          rw [mC_pth] at hS
          refine lv_aload_n hx hb dX5_want_42 rfl (lv_at hl 0 rfl) ?_
          refine gf_X5_52 hx hb hown hK hS mC_30 rfl dX5_want_43 ?_
          refine r_if_le (a := 0) (tgt := 51) hx hb (by decide) dX5_want_46 (by decide) (fun q46 => ?_) (fun q46 => ?_)
          · -- T
            refine lv_aload_n hx hb dX5_want_51 rfl (lv_at hl 0 rfl) ?_
            refine gf_X5_37 hx hb hown hK hS mC_30 rfl dX5_want_52 ?_
            refine lv_iload_n hx hb dX5_want_55 rfl (lv_at hl 1 rfl) ?_
            refine lv_iload_n hx hb dX5_want_56 rfl (lv_at hl 3 rfl) ?_
            refine r_ifb_eq (b := w) (tgt := 73) hx hb dX5_want_57 (by decide) (fun q57 => ?_) (fun q57 => ?_)
            · -- T
              exact absurd (q21.symm.trans q57) (by decide)
            · -- F
              refine lv_aload_n hx hb dX5_want_60 rfl (lv_at hl 0 rfl) ?_
              refine gf_X5_37 hx hb hown hK hS mC_30 rfl dX5_want_61 ?_
              refine lv_iload_n hx hb dX5_want_64 rfl (lv_at hl 1 rfl) ?_
              refine r_iald hx hb hK.1 hS 0 mC_40 rfl (nI_in0 (by omega) (by omega)) (v := nI (T 10 k)) (tA_at (by omega)) dX5_want_65 ?_
              refine lv_iconst (v := nI 1) hx hb dX5_want_66 (by decide) ?_
              refine lv_iload_n hx hb dX5_want_67 rfl (lv_at hl 2 rfl) ?_
              refine lv_ishl hx hb dX5_want_68 ?_
              refine r_top (y := nI (2 ^ d)) (bit_i _ (by omega)) ?_
              refine lv_ior hx hb dX5_want_69 ?_
              refine r_top (y := nI (T 10 k ||| 2 ^ d)) (nx_or _ _) ?_
              refine lv_goto (tgt := 85) hx hb dX5_want_70 (by decide) ?_
              refine r_iast hx hb hK.1 hS 0 mC_40 rfl (nI_in0 (by omega) (by omega)) (f' := tA (ru T 10 k (T 10 k ||| 2 ^ d)) 10) (tA_put (by omega)) dX5_want_85 (fun H locs hS => ?_)
              rw [mC_p40] at hS
              refine lv_aload_n hx hb dX5_want_86 rfl (lv_at hl 0 rfl) ?_
              refine gf_X5_37 hx hb hown hK hS mC_30 rfl dX5_want_87 ?_
              refine lv_iload_n hx hb dX5_want_90 rfl (lv_at hl 1 rfl) ?_
              refine r_iald hx hb hK.1 hS 0 mC_40 rfl (nI_in0 (by omega) (by omega)) (v := nI (T 10 k ||| 2 ^ d)) ((tA_at (by omega)).trans (congrArg nI (ru_e))) dX5_want_91 ?_
              refine cl_X5_70 hx hb hml hown hK hZ hS hA (c_X5_count (or16 hkn.1 (by omega))) rfl hl.1 (Nat.le_of_ble_eq_true rfl) ⟨Nat.le_of_ble_eq_true rfl, Nat.le_of_ble_eq_true rfl⟩ ⟨Nat.zero_le _, Nat.zero_le _⟩ rfl dX5_want_92 (r_kp (fun H locs hS => ?_))
              exact r_iret hx hb hr hlocks hS (mP.mk0 ((sWant_0 hix hiy).trans (if_neg (fun z => q31 z.2))) (by rw [if_pos q21]) (by unfold wantT; rw [if_pos q21]; exact mEq.rf)) (Nat.zero_le _) (Nat.zero_le _) dX5_want_95
          · -- F
            exact absurd q46 (by decide)
        · -- F
          refine lv_iconst (v := nI 2) hx hb dX5_want_34 (by decide) ?_
          refine lv_goto (tgt := 39) hx hb dX5_want_35 (by decide) ?_
          refine pf_X5_52 hx hb hown hK hS mC_30 rfl rfl (fs' := [.int (nI (nD T)), .ref (ad 31 0), .ref (ad 32 0), .ref (ad 33 0), .ref (ad 34 0), .int (nI (nC T)), .ref (ad 35 0), .ref (ad 36 0), .ref (ad 37 0), .ref (ad 38 0), .ref (ad 39 0), .ref (ad 40 0), .ref (ad 41 0), .int (nI (nS T)), .ref (ad 42 0), .ref (ad 43 0), .ref (ad 44 0), .int (nI 2)]) (Nat.le_of_ble_eq_true rfl) rfl dX5_want_39 (fun H locs hS => ?_)
          rw [mC_pth] at hS
          refine lv_aload_n hx hb dX5_want_42 rfl (lv_at hl 0 rfl) ?_
          refine gf_X5_52 hx hb hown hK hS mC_30 rfl dX5_want_43 ?_
          refine r_if_le (a := 2) (tgt := 51) hx hb (by decide) dX5_want_46 (by decide) (fun q46 => ?_) (fun q46 => ?_)
          · -- T
            exact absurd q46 (by decide)
          · -- F
            refine lv_iconst (v := nI 0) hx hb dX5_want_49 (by decide) ?_
            exact r_iret hx hb hr hlocks hS (mP.mkE (n := 1) ((sWant_0 hix hiy).trans (if_pos ⟨q21, q31⟩))) (Nat.zero_le _) (Nat.zero_le _) dX5_want_50
    · -- F
      have hiy := ix_no q13
      refine lv_iconst (v := nI 1) hx hb dX5_want_16 (by decide) ?_
      refine lv_goto (tgt := 39) hx hb dX5_want_17 (by decide) ?_
      refine pf_X5_52 hx hb hown hK hS mC_30 rfl rfl (fs' := [.int (nI (nD T)), .ref (ad 31 0), .ref (ad 32 0), .ref (ad 33 0), .ref (ad 34 0), .int (nI (nC T)), .ref (ad 35 0), .ref (ad 36 0), .ref (ad 37 0), .ref (ad 38 0), .ref (ad 39 0), .ref (ad 40 0), .ref (ad 41 0), .int (nI (nS T)), .ref (ad 42 0), .ref (ad 43 0), .ref (ad 44 0), .int (nI 1)]) (Nat.le_of_ble_eq_true rfl) rfl dX5_want_39 (fun H locs hS => ?_)
      rw [mC_pth] at hS
      refine lv_aload_n hx hb dX5_want_42 rfl (lv_at hl 0 rfl) ?_
      refine gf_X5_52 hx hb hown hK hS mC_30 rfl dX5_want_43 ?_
      refine r_if_le (a := 1) (tgt := 51) hx hb (by decide) dX5_want_46 (by decide) (fun q46 => ?_) (fun q46 => ?_)
      · -- T
        exact absurd q46 (by decide)
      · -- F
        refine lv_iconst (v := nI 0) hx hb dX5_want_49 (by decide) ?_
        exact r_iret hx hb hr hlocks hS (mP.mkE (n := 0) (sWant_2 hix hiy)) (Nat.zero_le _) (Nat.zero_le _) dX5_want_50

set_option maxHeartbeats 4000000 in
set_option maxRecDepth 100000 in
theorem c_X5_setFairness {G : rG} {l : Launch} {T : rTab} {th : Int32} {rg : Nat → Int32} {C : rC} {ad : rA} (hN : mNu T) (a b : Int32) : rMet G l yX5_setFairness cX5_setFairness 4 (some .int) (rmP 3) [.ref (ad 30 0), .int a, .int b] (mC G T th rg C ad) ad (mP G (sFair T a b) rg C ad) := by
  refine rMet.of (by decide) ?_
  intro p e s m below meth c hx hb hml hr hlocks hown hname hK hZ hS
  have hown : s.vm.findClass RX5 = some m.cls := hown
  have hA : ∀ q : Nat, s.heap.size ≤ q → (rF (mC G T th rg C ad) ad s.heap.size) q := rF.new
  refine r_entry _ (Nat.le_of_ble_eq_true rfl) (fun ls hl => ?_)
  have hl : lv_has ls 4 [(0, .ref (ad 30 0)), (1, .int a), (2, .int b)] := hl
  have hnD := hN.hD
  have hnC := hN.hC
  have hnS := hN.hS
  refine lv_aload_n hx hb dX5_setFairness_0 rfl (lv_at hl 0 rfl) ?_
  refine lv_iload_n hx hb dX5_setFairness_1 rfl (lv_at hl 1 rfl) ?_
  refine cl_X5_99 hx hb hml hown hK hZ hS hA (c_X5_isCollector a) rfl hl.1 (Nat.le_of_ble_eq_true rfl) ⟨Nat.le_of_ble_eq_true rfl, Nat.le_of_ble_eq_true rfl⟩ ⟨Nat.zero_le _, Nat.zero_le _⟩ rfl dX5_setFairness_2 (r_kp (fun H locs hS => ?_))
  refine r_ifb_ne (b := ((ixO a 8).isSome)) (tgt := 12) hx hb dX5_setFairness_5 (by decide) (fun q5 => ?_) (fun q5 => ?_)
  · -- T
    obtain ⟨k, hk, hix, rfl⟩ := ix_get q5
    refine lv_iload_n hx hb dX5_setFairness_12 rfl (lv_at hl 2 rfl) ?_
    refine lv_iconst (v := nI 0) hx hb dX5_setFairness_13 (by decide) ?_
    refine lv_bipush (v := nI 100) hx hb dX5_setFairness_14 (by decide) ?_
    refine cl_X5_59 hx hb hml hown hK hZ hS hA (c_X5_in b (nI 0) (nI 100)) rfl hl.1 (Nat.le_of_ble_eq_true rfl) ⟨Nat.le_of_ble_eq_true rfl, Nat.le_of_ble_eq_true rfl⟩ ⟨Nat.zero_le _, Nat.zero_le _⟩ rfl dX5_setFairness_16 (r_kp (fun H locs hS => ?_))
    refine r_top (y := bI (ixO b 101).isSome) (by rw [in_ixk (by omega)]) ?_
    refine r_ifb_ne (b := ((ixO b 101).isSome)) (tgt := 26) hx hb dX5_setFairness_19 (by decide) (fun q19 => ?_) (fun q19 => ?_)
    · -- T
      obtain ⟨x, hx1, hiy, rfl⟩ := ix_get q19
      refine lv_iconst (v := nI 0) hx hb dX5_setFairness_26 (by decide) ?_
      refine pf_X5_52 hx hb hown hK hS mC_30 rfl rfl (fs' := [.int (nI (nD T)), .ref (ad 31 0), .ref (ad 32 0), .ref (ad 33 0), .ref (ad 34 0), .int (nI (nC T)), .ref (ad 35 0), .ref (ad 36 0), .ref (ad 37 0), .ref (ad 38 0), .ref (ad 39 0), .ref (ad 40 0), .ref (ad 41 0), .int (nI (nS T)), .ref (ad 42 0), .ref (ad 43 0), .ref (ad 44 0), .int (nI 0)]) (Nat.le_of_ble_eq_true rfl) rfl dX5_setFairness_27 (fun H locs hS => ?_)
      rw [mC_pth] at hS
      refine lv_aload_n hx hb dX5_setFairness_30 rfl (lv_at hl 0 rfl) ?_
      refine gf_X5_52 hx hb hown hK hS mC_30 rfl dX5_setFairness_31 ?_
      refine r_if_le (a := 0) (tgt := 39) hx hb (by decide) dX5_setFairness_34 (by decide) (fun q34 => ?_) (fun q34 => ?_)
      · -- T
        refine lv_aload_n hx hb dX5_setFairness_39 rfl (lv_at hl 0 rfl) ?_
        refine gf_X5_40 hx hb hown hK hS mC_30 rfl dX5_setFairness_40 ?_
        refine lv_iload_n hx hb dX5_setFairness_43 rfl (lv_at hl 1 rfl) ?_
        refine r_iald hx hb hK.1 hS 0 mC_41 rfl (nI_in0 (by omega) (by omega)) (v := nI (T 11 k)) (tA_at (by omega)) dX5_setFairness_44 ?_
        refine lv_istore_n (lv' := [(3, .int (nI (T 11 k))), (0, .ref (ad 30 0)), (1, .int (nI k)), (2, .int (nI x))]) hx hb dX5_setFairness_45 rfl hl (by decide) rfl (fun ls hl => ?_)
        refine lv_aload_n hx hb dX5_setFairness_46 rfl (lv_at hl 1 rfl) ?_
        refine gf_X5_40 hx hb hown hK hS mC_30 rfl dX5_setFairness_47 ?_
        refine lv_iload_n hx hb dX5_setFairness_50 rfl (lv_at hl 2 rfl) ?_
        refine lv_iload_n hx hb dX5_setFairness_51 rfl (lv_at hl 3 rfl) ?_
        refine r_iast hx hb hK.1 hS 0 mC_41 rfl (nI_in0 (by omega) (by omega)) (f' := tA (ru T 11 k x) 11) (tA_put (by omega)) dX5_setFairness_52 (fun H locs hS => ?_)
        rw [mC_p41] at hS
        refine lv_iload_n hx hb dX5_setFairness_53 rfl (lv_at hl 0 rfl) ?_
        exact r_iret hx hb hr hlocks hS (mP.mk0 (sFair_0 hix hiy) rfl mEq.rf) (Nat.zero_le _) (Nat.zero_le _) dX5_setFairness_54
      · -- F
        exact absurd q34 (by decide)
    · -- F
      have hiy := ix_no q19
      refine lv_iconst (v := nI 2) hx hb dX5_setFairness_22 (by decide) ?_
      refine lv_goto (tgt := 27) hx hb dX5_setFairness_23 (by decide) ?_
      refine pf_X5_52 hx hb hown hK hS mC_30 rfl rfl (fs' := [.int (nI (nD T)), .ref (ad 31 0), .ref (ad 32 0), .ref (ad 33 0), .ref (ad 34 0), .int (nI (nC T)), .ref (ad 35 0), .ref (ad 36 0), .ref (ad 37 0), .ref (ad 38 0), .ref (ad 39 0), .ref (ad 40 0), .ref (ad 41 0), .int (nI (nS T)), .ref (ad 42 0), .ref (ad 43 0), .ref (ad 44 0), .int (nI 2)]) (Nat.le_of_ble_eq_true rfl) rfl dX5_setFairness_27 (fun H locs hS => ?_)
      rw [mC_pth] at hS
      refine lv_aload_n hx hb dX5_setFairness_30 rfl (lv_at hl 0 rfl) ?_
      refine gf_X5_52 hx hb hown hK hS mC_30 rfl dX5_setFairness_31 ?_
      refine r_if_le (a := 2) (tgt := 39) hx hb (by decide) dX5_setFairness_34 (by decide) (fun q34 => ?_) (fun q34 => ?_)
      · -- T
        exact absurd q34 (by decide)
      · -- F
        refine lv_iconst (v := nI 0) hx hb dX5_setFairness_37 (by decide) ?_
        exact r_iret hx hb hr hlocks hS (mP.mkE (n := 1) (sFair_2 hix hiy)) (Nat.zero_le _) (Nat.zero_le _) dX5_setFairness_38
  · -- F
    have hix := ix_no q5
    refine lv_iconst (v := nI 1) hx hb dX5_setFairness_8 (by decide) ?_
    refine lv_goto (tgt := 27) hx hb dX5_setFairness_9 (by decide) ?_
    refine pf_X5_52 hx hb hown hK hS mC_30 rfl rfl (fs' := [.int (nI (nD T)), .ref (ad 31 0), .ref (ad 32 0), .ref (ad 33 0), .ref (ad 34 0), .int (nI (nC T)), .ref (ad 35 0), .ref (ad 36 0), .ref (ad 37 0), .ref (ad 38 0), .ref (ad 39 0), .ref (ad 40 0), .ref (ad 41 0), .int (nI (nS T)), .ref (ad 42 0), .ref (ad 43 0), .ref (ad 44 0), .int (nI 1)]) (Nat.le_of_ble_eq_true rfl) rfl dX5_setFairness_27 (fun H locs hS => ?_)
    rw [mC_pth] at hS
    refine lv_aload_n hx hb dX5_setFairness_30 rfl (lv_at hl 0 rfl) ?_
    refine gf_X5_52 hx hb hown hK hS mC_30 rfl dX5_setFairness_31 ?_
    refine r_if_le (a := 1) (tgt := 39) hx hb (by decide) dX5_setFairness_34 (by decide) (fun q34 => ?_) (fun q34 => ?_)
    · -- T
      exact absurd q34 (by decide)
    · -- F
      refine lv_iconst (v := nI 0) hx hb dX5_setFairness_37 (by decide) ?_
      exact r_iret hx hb hr hlocks hS (mP.mkE (n := 0) (sFair_1 hix)) (Nat.zero_le _) (Nat.zero_le _) dX5_setFairness_38

set_option maxHeartbeats 4000000 in
set_option maxRecDepth 100000 in
theorem c_X5_mark {G : rG} {l : Launch} {T : rTab} {th : Int32} {rg : Nat → Int32} {C : rC} {ad : rA} (hN : mNu T) (a : Int32) (w : Bool) : rMet G l yX5_mark cX5_mark 4 (some .boolean) (rmP 3) [.ref (ad 30 0), .int a, .int (bI w)] (mC G T th rg C ad) ad (mP G (sMark T a w) rg C ad) := by
  refine rMet.of (by decide) ?_
  intro p e s m below meth c hx hb hml hr hlocks hown hname hK hZ hS
  have hown : s.vm.findClass RX5 = some m.cls := hown
  have hA : ∀ q : Nat, s.heap.size ≤ q → (rF (mC G T th rg C ad) ad s.heap.size) q := rF.new
  refine r_entry _ (Nat.le_of_ble_eq_true rfl) (fun ls hl => ?_)
  have hl : lv_has ls 4 [(0, .ref (ad 30 0)), (1, .int a), (2, .int (bI w))] := hl
  have hnD := hN.hD
  have hnC := hN.hC
  have hnS := hN.hS
  refine lv_aload_n hx hb dX5_mark_0 rfl (lv_at hl 0 rfl) ?_
  refine lv_aload_n hx hb dX5_mark_1 rfl (lv_at hl 0 rfl) ?_
  refine lv_iload_n hx hb dX5_mark_2 rfl (lv_at hl 1 rfl) ?_
  refine cl_X5_74 hx hb hml hown hK hZ hS hA (c_X5_isCoin hN a) mC_30 rfl hl.1 (Nat.le_of_ble_eq_true rfl) ⟨Nat.le_of_ble_eq_true rfl, Nat.le_of_ble_eq_true rfl⟩ ⟨Nat.zero_le _, Nat.zero_le _⟩ rfl dX5_mark_3 (r_kp (fun H locs hS => ?_))
  refine r_ifb_ne (b := ((ixO a (nC T)).isSome)) (tgt := 13) hx hb dX5_mark_6 (by decide) (fun q6 => ?_) (fun q6 => ?_)
  · -- T
    obtain ⟨j, hj, hix, rfl⟩ := ix_get q6
    have hcn := hN.cn hj
    refine lv_aload_n hx hb dX5_mark_13 rfl (lv_at hl 0 rfl) ?_
    refine gf_X5_31 hx hb hown hK hS mC_30 rfl dX5_mark_14 ?_
    refine lv_iload_n hx hb dX5_mark_17 rfl (lv_at hl 1 rfl) ?_
    refine r_iald hx hb hK.1 hS 0 mC_38 rfl (nI_in0 (by omega) (by omega)) (v := nI (T 8 j)) (tA_at (by omega)) dX5_mark_18 ?_
    refine r_if_ne (a := T 8 j) (tgt := 26) hx hb (by omega) dX5_mark_19 (by decide) (fun q19 => ?_) (fun q19 => ?_)
    · -- T
      have hs := (sMark_0 (w := w) hix).trans (if_neg q19)
      have h9 := hcn.2.2.2.2 q19
      refine lv_iconst (v := nI 0) hx hb dX5_mark_26 (by decide) ?_
      refine pf_X5_52 hx hb hown hK hS mC_30 rfl rfl (fs' := [.int (nI (nD T)), .ref (ad 31 0), .ref (ad 32 0), .ref (ad 33 0), .ref (ad 34 0), .int (nI (nC T)), .ref (ad 35 0), .ref (ad 36 0), .ref (ad 37 0), .ref (ad 38 0), .ref (ad 39 0), .ref (ad 40 0), .ref (ad 41 0), .int (nI (nS T)), .ref (ad 42 0), .ref (ad 43 0), .ref (ad 44 0), .int (nI 0)]) (Nat.le_of_ble_eq_true rfl) rfl dX5_mark_27 (fun H locs hS => ?_)
      rw [mC_pth] at hS
      refine lv_aload_n hx hb dX5_mark_30 rfl (lv_at hl 0 rfl) ?_
      refine gf_X5_52 hx hb hown hK hS mC_30 rfl dX5_mark_31 ?_
      refine r_if_le (a := 0) (tgt := 39) hx hb (by decide) dX5_mark_34 (by decide) (fun q34 => ?_) (fun q34 => ?_)
      · -- T
        refine lv_aload_n hx hb dX5_mark_39 rfl (lv_at hl 0 rfl) ?_
        refine gf_X5_34 hx hb hown hK hS mC_30 rfl dX5_mark_40 ?_
        refine lv_iload_n hx hb dX5_mark_43 rfl (lv_at hl 1 rfl) ?_
        refine r_iald hx hb hK.1 hS 0 mC_39 rfl (nI_in0 (by omega) (by omega)) (v := nI (T 9 j)) (tA_at (by omega)) dX5_mark_44 ?_
        refine lv_iconst (v := nI 1) hx hb dX5_mark_45 (by decide) ?_
        refine r_icmp_ne (a := T 9 j) (b := 1) (tgt := 53) hx hb (by omega) (by omega) dX5_mark_46 (by decide) (fun q46 => ?_) (fun q46 => ?_)
        · -- T
          refine lv_iconst (v := nI 0) hx hb dX5_mark_53 (by decide) ?_
          refine lv_istore_n (lv' := [(3, .int (nI 0)), (0, .ref (ad 30 0)), (1, .int (nI j)), (2, .int (bI w))]) hx hb dX5_mark_54 rfl hl (by decide) rfl (fun ls hl => ?_)
          refine lv_aload_n hx hb dX5_mark_55 rfl (lv_at hl 1 rfl) ?_
          refine gf_X5_34 hx hb hown hK hS mC_30 rfl dX5_mark_56 ?_
          refine lv_iload_n hx hb dX5_mark_59 rfl (lv_at hl 2 rfl) ?_
          refine lv_iload_n hx hb dX5_mark_60 rfl (lv_at hl 3 rfl) ?_
          refine r_ifb_eq (b := w) (tgt := 68) hx hb dX5_mark_61 (by decide) (fun q61 => ?_) (fun q61 => ?_)
          · -- T
            refine lv_iconst (v := nI 0) hx hb dX5_mark_68 (by decide) ?_
            refine r_iast hx hb hK.1 hS 0 mC_39 rfl (nI_in0 (by omega) (by omega)) (f' := tA (ru T 9 j 0) 9) (tA_put (by omega)) dX5_mark_69 (fun H locs hS => ?_)
            rw [mC_p39] at hS
            refine lv_iload_n hx hb dX5_mark_70 rfl (lv_at hl 0 rfl) ?_
            exact r_zret hx hb hr hlocks hS rfl (mP.mk0 hs (by rw [decide_eq_false q46]; rfl) (mark_eq (by rw [q61]; rfl))) (Nat.zero_le _) (Nat.zero_le _) dX5_mark_71
          · -- F
            refine lv_iconst (v := nI 1) hx hb dX5_mark_64 (by decide) ?_
            refine lv_goto (tgt := 69) hx hb dX5_mark_65 (by decide) ?_
            refine r_iast hx hb hK.1 hS 0 mC_39 rfl (nI_in0 (by omega) (by omega)) (f' := tA (ru T 9 j 1) 9) (tA_put (by omega)) dX5_mark_69 (fun H locs hS => ?_)
            rw [mC_p39] at hS
            refine lv_iload_n hx hb dX5_mark_70 rfl (lv_at hl 0 rfl) ?_
            exact r_zret hx hb hr hlocks hS rfl (mP.mk0 hs (by rw [decide_eq_false q46]; rfl) (mark_eq (by rw [q61]; rfl))) (Nat.zero_le _) (Nat.zero_le _) dX5_mark_71
        · -- F
          refine lv_iconst (v := nI 1) hx hb dX5_mark_49 (by decide) ?_
          refine lv_goto (tgt := 54) hx hb dX5_mark_50 (by decide) ?_
          refine lv_istore_n (lv' := [(3, .int (nI 1)), (0, .ref (ad 30 0)), (1, .int (nI j)), (2, .int (bI w))]) hx hb dX5_mark_54 rfl hl (by decide) rfl (fun ls hl => ?_)
          refine lv_aload_n hx hb dX5_mark_55 rfl (lv_at hl 1 rfl) ?_
          refine gf_X5_34 hx hb hown hK hS mC_30 rfl dX5_mark_56 ?_
          refine lv_iload_n hx hb dX5_mark_59 rfl (lv_at hl 2 rfl) ?_
          refine lv_iload_n hx hb dX5_mark_60 rfl (lv_at hl 3 rfl) ?_
          refine r_ifb_eq (b := w) (tgt := 68) hx hb dX5_mark_61 (by decide) (fun q61 => ?_) (fun q61 => ?_)
          · -- T
            refine lv_iconst (v := nI 0) hx hb dX5_mark_68 (by decide) ?_
            refine r_iast hx hb hK.1 hS 0 mC_39 rfl (nI_in0 (by omega) (by omega)) (f' := tA (ru T 9 j 0) 9) (tA_put (by omega)) dX5_mark_69 (fun H locs hS => ?_)
            rw [mC_p39] at hS
            refine lv_iload_n hx hb dX5_mark_70 rfl (lv_at hl 0 rfl) ?_
            exact r_zret hx hb hr hlocks hS rfl (mP.mk0 hs (by rw [decide_eq_true q46]; rfl) (mark_eq (by rw [q61]; rfl))) (Nat.zero_le _) (Nat.zero_le _) dX5_mark_71
          · -- F
            refine lv_iconst (v := nI 1) hx hb dX5_mark_64 (by decide) ?_
            refine lv_goto (tgt := 69) hx hb dX5_mark_65 (by decide) ?_
            refine r_iast hx hb hK.1 hS 0 mC_39 rfl (nI_in0 (by omega) (by omega)) (f' := tA (ru T 9 j 1) 9) (tA_put (by omega)) dX5_mark_69 (fun H locs hS => ?_)
            rw [mC_p39] at hS
            refine lv_iload_n hx hb dX5_mark_70 rfl (lv_at hl 0 rfl) ?_
            exact r_zret hx hb hr hlocks hS rfl (mP.mk0 hs (by rw [decide_eq_true q46]; rfl) (mark_eq (by rw [q61]; rfl))) (Nat.zero_le _) (Nat.zero_le _) dX5_mark_71
      · -- F
        exact absurd q34 (by decide)
    · -- F
      have hs := (sMark_0 (w := w) hix).trans (if_pos q19)
      refine lv_iconst (v := nI 2) hx hb dX5_mark_22 (by decide) ?_
      refine lv_goto (tgt := 27) hx hb dX5_mark_23 (by decide) ?_
      refine pf_X5_52 hx hb hown hK hS mC_30 rfl rfl (fs' := [.int (nI (nD T)), .ref (ad 31 0), .ref (ad 32 0), .ref (ad 33 0), .ref (ad 34 0), .int (nI (nC T)), .ref (ad 35 0), .ref (ad 36 0), .ref (ad 37 0), .ref (ad 38 0), .ref (ad 39 0), .ref (ad 40 0), .ref (ad 41 0), .int (nI (nS T)), .ref (ad 42 0), .ref (ad 43 0), .ref (ad 44 0), .int (nI 2)]) (Nat.le_of_ble_eq_true rfl) rfl dX5_mark_27 (fun H locs hS => ?_)
      rw [mC_pth] at hS
      refine lv_aload_n hx hb dX5_mark_30 rfl (lv_at hl 0 rfl) ?_
      refine gf_X5_52 hx hb hown hK hS mC_30 rfl dX5_mark_31 ?_
      refine r_if_le (a := 2) (tgt := 39) hx hb (by decide) dX5_mark_34 (by decide) (fun q34 => ?_) (fun q34 => ?_)
      · -- T
        exact absurd q34 (by decide)
      · -- F
        refine lv_iconst (v := nI 0) hx hb dX5_mark_37 (by decide) ?_
        exact r_zret hx hb hr hlocks hS rfl (mP.mkE (n := 1) hs) (Nat.zero_le _) (Nat.zero_le _) dX5_mark_38
  · -- F
    have hix := ix_no q6
    refine lv_iconst (v := nI 1) hx hb dX5_mark_9 (by decide) ?_
    refine lv_goto (tgt := 27) hx hb dX5_mark_10 (by decide) ?_
    refine pf_X5_52 hx hb hown hK hS mC_30 rfl rfl (fs' := [.int (nI (nD T)), .ref (ad 31 0), .ref (ad 32 0), .ref (ad 33 0), .ref (ad 34 0), .int (nI (nC T)), .ref (ad 35 0), .ref (ad 36 0), .ref (ad 37 0), .ref (ad 38 0), .ref (ad 39 0), .ref (ad 40 0), .ref (ad 41 0), .int (nI (nS T)), .ref (ad 42 0), .ref (ad 43 0), .ref (ad 44 0), .int (nI 1)]) (Nat.le_of_ble_eq_true rfl) rfl dX5_mark_27 (fun H locs hS => ?_)
    rw [mC_pth] at hS
    refine lv_aload_n hx hb dX5_mark_30 rfl (lv_at hl 0 rfl) ?_
    refine gf_X5_52 hx hb hown hK hS mC_30 rfl dX5_mark_31 ?_
    refine r_if_le (a := 1) (tgt := 39) hx hb (by decide) dX5_mark_34 (by decide) (fun q34 => ?_) (fun q34 => ?_)
    · -- T
      exact absurd q34 (by decide)
    · -- F
      refine lv_iconst (v := nI 0) hx hb dX5_mark_37 (by decide) ?_
      exact r_zret hx hb hr hlocks hS rfl (mP.mkE (n := 0) (sMark_1 hix)) (Nat.zero_le _) (Nat.zero_le _) dX5_mark_38

