/-! condemn (printed by wip/whole/gen/comp10.py) -/
def condT (T : rTab) (d : Nat) : rTab := fun a b => if a = 4 ∧ b = d then 1 else if a = 20 ∧ b = d then 0 else if a = 10 then clrB (T 10 b) d else T a b
def sCond (T : rTab) (a : Int32) : sR := match ixO a (nD T) with
  | none => (1, 0, T)
  | some d => if T 4 d = 1 ∨ proofO T d = none then (2, 0, T) else (0, nI (rar T d), condT T d)
theorem sCond_1 {T : rTab} {a : Int32} (h : ixO a (nD T) = none) : sCond T a = (1, 0, T) := by
  unfold sCond
  rw [h]
theorem sCond_0 {T : rTab} {a : Int32} {d : Nat} (h : ixO a (nD T) = some d) : sCond T a = if T 4 d = 1 ∨ proofO T d = none then (2, 0, T) else (0, nI (rar T d), condT T d) := by
  unfold sCond
  rw [h]
theorem prI_m {T : rTab} {d : Nat} (hD : nD T ≤ 16) : prI T d = -1 ↔ proofO T d = none := by
  cases h : proofO T d with
  | none => exact ⟨fun _ => rfl, fun _ => prI_n h⟩
  | some o =>
    refine ⟨fun z => ?_, fun z => by cases z⟩
    exfalso
    rw [prI_s h] at z
    have ho : o < nD T := by
      cases hf : firstCoin T d with
      | none => rw [proofO_n hf] at h; cases h
      | some f =>
        by_cases hb : bitsN (T 6 f) < 2
        · rw [proofO_b hf hb] at h
          cases h
        · rw [proofO_s hf hb] at h
          exact (fstB_some.mp h).1
    have := congrArg Int32.toInt z
    rw [nI_toInt (by omega)] at this
    have e : (-1 : Int32).toInt = -1 := by decide
    rw [e] at this
    omega
section CD
variable {G : rG} {T T' : rTab} {L : rL} {C C' : rC} {ad ad' : rA}
theorem condT_k {d a : Nat} (h4 : a ≠ 4) (h20 : a ≠ 20) (h10 : a ≠ 10) : condT T d a = T a := funext fun b => by
  unfold condT
  rw [if_neg (fun z => h4 z.1), if_neg (fun z => h20 z.1), if_neg h10]
theorem condT_4 {d : Nat} : condT T d 4 d = 1 := if_pos ⟨rfl, rfl⟩
theorem condT_4n {d i : Nat} (h : i ≠ d) : condT T d 4 i = T 4 i := by
  unfold condT
  rw [if_neg (fun z => h z.2), if_neg (fun z => h z.2), if_neg (by decide)]
theorem condT_20 {d : Nat} : condT T d 20 d = 0 := by
  unfold condT
  rw [if_neg (fun z => absurd z.1 (by decide)), if_pos ⟨rfl, rfl⟩]
theorem condT_20n {d i : Nat} (h : i ≠ d) : condT T d 20 i = T 20 i := by
  unfold condT
  rw [if_neg (fun z => h z.2), if_neg (fun z => h z.2), if_neg (by decide)]
theorem condT_10 {d k : Nat} : condT T d 10 k = clrB (T 10 k) d := by
  unfold condT
  rw [if_neg (fun z => absurd z.1 (by decide)), if_neg (fun z => absurd z.1 (by decide)), if_pos rfl]
def condC (C : rC) (T : rTab) (d : Nat) (ad : rA) (i : Nat) : rC := fun a b => if a = 5 ∧ b < i then some (clO (condT T d) ad b) else ru C 1 d (some (diO (condT T d) ad d)) a b
theorem condC_0 {d : Nat} : condC C T d ad 0 = ru C 1 d (some (.inr (3, [.int (nI d), .int (nI (T 1 d)), .int (nI (valOf (T 1 d))), .int (nI (T 2 d)), .int (nI 1), .int (nI 0), .ref (ad 11 d)]))) := by
  funext a b
  unfold condC diO
  rw [if_neg (fun z => absurd z.2 (Nat.not_lt_zero _)), condT_4, condT_20, condT_k (by decide) (by decide) (by decide), condT_k (by decide) (by decide) (by decide)]
theorem condC_k {d i a b : Nat} (h5 : a ≠ 5) (h1 : a ≠ 1) : condC C T d ad i a b = C a b := by
  unfold condC
  rw [if_neg (fun z => h5 z.1), ru_k h1]
theorem condC_5 {d i k : Nat} (h : i ≤ k) : condC C T d ad i 5 k = C 5 k := by
  unfold condC
  rw [if_neg (fun z => by omega), ru_k (by decide)]
theorem condC_5d {d i k : Nat} (h : k < i) : condC C T d ad i 5 k = some (clO (condT T d) ad k) := if_pos ⟨rfl, h⟩
theorem condC_1 {d i : Nat} : condC C T d ad i 1 d = some (diO (condT T d) ad d) := by
  unfold condC
  rw [if_neg (fun z => absurd z.1 (by decide)), ru_e]
theorem condC_1n {d i j : Nat} (h : j ≠ d) : condC C T d ad i 1 j = C 1 j := by
  unfold condC
  rw [if_neg (fun z => absurd z.1 (by decide)), ru_i h]
theorem condC_s {d i : Nat} : condC C T d ad (i + 1) = ru (condC C T d ad i) 5 i (some (.inr (2, [.int (nI i), .int (nI (clrB (T 10 i) d)), .int (nI (T 11 i)), .ref (ad 14 i), .ref (ad 15 i)]))) := by
  funext a b
  by_cases e : a = 5 ∧ b = i
  · obtain ⟨rfl, rfl⟩ := e
    rw [ru_e, condC_5d (Nat.lt_succ_self _)]
    unfold clO
    rw [condT_10, condT_k (by decide) (by decide) (by decide)]
  · rw [ru_n e]
    unfold condC
    by_cases g : a = 5 ∧ b < i
    · rw [if_pos g, if_pos ⟨g.1, by omega⟩]
    · rw [if_neg g, if_neg (fun z => by omega)]
theorem up_cond (hI : cInv G T L C ad) {d : Nat} (hd : d < nD T) : cInv G (condT T d) L (condC C T d ad 8) ad := by
  have hk : ∀ a, a ≠ 4 → a ≠ 20 → a ≠ 10 → condT T d a = T a := fun a h4 h20 h10 => condT_k h4 h20 h10
  have h0 := hk 0 (by decide) (by decide) (by decide)
  have h5 := hk 5 (by decide) (by decide) (by decide)
  have h7 := hk 7 (by decide) (by decide) (by decide)
  have h8 := hk 8 (by decide) (by decide) (by decide)
  have h11 := hk 11 (by decide) (by decide) (by decide)
  have h21 := hk 21 (by decide) (by decide) (by decide)
  refine ⟨hI.1.up h0 h5 h8 (hk 12 (by decide) (by decide) (by decide)) (hk 13 (by decide) (by decide) (by decide)) (fun a b ha => condC_k (by omega) (by omega)) (hI.1.1.up h0 (fun a b h1 _ h5 _ => condC_k h5 h1) (fun i hi => ?_) (fun i hi => condC_1n (by omega)) (fun j hj => ?_) (fun j hj => condC_k (by decide) (by decide)) (fun k hk => condC_5d hk)) ?_, ?_⟩
  · by_cases e : i = d
    · rw [e, condC_1]
    · rw [condC_1n e, hI.die hi, diO_eq (congrFun (hk 1 (by decide) (by decide) (by decide)) i) (congrFun (hk 2 (by decide) (by decide) (by decide)) i) (condT_4n e) (condT_20n e)]
  · rw [condC_k (by decide) (by decide), hI.coin hj, coO_eq (congrFun h5 j) (congrFun (hk 6 (by decide) (by decide) (by decide)) j) (congrFun h7 j) (congrFun h8 j) (congrFun h21 j)]
  · unfold cNu nD nC nS
    rw [h0, h5, h7, h8, h11, h21, hk 1 (by decide) (by decide) (by decide), hk 2 (by decide) (by decide) (by decide), hk 6 (by decide) (by decide) (by decide), hk 9 (by decide) (by decide) (by decide)]
    refine cNu.mk T hI.hD hI.hC hI.hS (fun i hi => hI.1.dn hi) (fun j hj => hI.cn hj) (fun k hk => hI.kn hk) |> fun z => ⟨z.1, z.2.1, z.2.2.1, fun i hi => ?_, z.2.2.2.2.1, fun k hk => ?_⟩
    · have := z.2.2.2.1 i hi
      refine ⟨this.1, this.2.1, ?_⟩
      by_cases e : i = d
      · rw [e, condT_4]
        exact Nat.le_refl _
      · rw [condT_4n e]
        exact this.2.2
    · rw [condT_10]
      exact ⟨Nat.lt_of_le_of_lt (clrB_le _ _) (hI.kn hk).1, (hI.kn hk).2⟩
  · intro i hi
    rw [show nD (condT T d) = nD T from congrFun h0 0] at hi
    unfold rar
    rw [show nC (condT T d) = nC T from congrFun h0 1]
    by_cases e : i = d
    · rw [e, condT_20]
      refine (cntB_0 fun j hj => ?_).symm
      unfold rarAt
      rw [h5]
      by_cases g : T 5 j = d
      · rw [tru_b (by rw [h5, g, condT_4]; decide), Bool.and_false]
      · rw [decide_eq_false g, Bool.false_and]
    · rw [condT_20n e, hI.2 i hi]
      refine (cntB_congr fun j hj => ?_).symm
      unfold rarAt
      rw [h5]
      by_cases g : T 5 j = i
      · rw [tru_congr (congrFun h7 j) (congrFun h5 j) (condT_4n (by rw [g]; exact e))]
      · rw [decide_eq_false g, Bool.false_and, Bool.false_and]
end CD

set_option maxHeartbeats 4000000 in
set_option maxRecDepth 100000 in
theorem c_X4_condemn {G : rG} {l : Launch} {T : rTab} {L : rL} {C : rC} {ad : rA} (hlt : l.stackTraces = false) (hI : cInv G T L C ad) (a : Int32) : rMetX G l yX4_condemn cX4_condemn 8 (some .int) (rmM 8 2 12) [.ref (ad 0 0), .int a] C ad (pM G C ad (sCond T a)) (xM G C ad (sCond T a) ec2) := by
  refine rMetX.of (by decide) ?_
  intro p e s m below meth c hx hb hml hr hlocks hown hname hK hZ hS hex
  have hown : s.vm.findClass RX4 = some m.cls := hown
  have hA : ∀ q : Nat, s.heap.size ≤ q → (rF C ad s.heap.size) q := rF.new
  refine r_entry _ (Nat.le_of_ble_eq_true rfl) (fun ls hl => ?_)
  have hl : lv_has ls 8 [(0, .ref (ad 0 0)), (1, .int a)] := hl
  refine lv_aload_n hx hb dX4_condemn_0 rfl (lv_at hl 0 rfl) ?_
  refine lv_iload_n hx hb dX4_condemn_1 rfl (lv_at hl 1 rfl) ?_
  refine cl_X4_49 hx hb hml hown hK hZ hS hA (c_X4_theDie hlt hI a) hI.reg rfl hl.1 (Nat.le_of_ble_eq_true rfl) ⟨Nat.le_of_ble_eq_true rfl, Nat.le_of_ble_eq_true rfl⟩ ⟨Nat.le_of_ble_eq_true rfl, Nat.le_of_ble_eq_true rfl⟩ rfl dX4_condemn_2 ?_ (r_kr (fun r C' ad' H locs hQ hS => ?_))
  · -- thrown
    intro E ce q9 C9 ad9 H locs hX9 hS hce hcv hcl
    obtain ⟨⟨rfl, hno⟩, rfl, rfl⟩ := hX9
    exact r_out hex hlocks hS hce hcv hcl (xM.mk (n := 1) (sCond_1 hno) (by decide) hI) (Nat.le_of_ble_eq_true rfl) (Nat.le_of_ble_eq_true rfl)
  obtain ⟨⟨d, hixd, rfl⟩, rfl, rfl⟩ := hQ
  have hd : d < (nD T) := ixO_lt hixd
  have hdn := hI.dn hd
  have hD := hI.hD
  have hs0 := sCond_0 hixd
  refine lv_astore_n (lv' := [(2, .ref (ad 1 d)), (0, .ref (ad 0 0)), (1, .int a)]) hx hb dX4_condemn_5 rfl hl (by decide) rfl (fun ls hl => ?_)
  refine lv_aload_n hx hb dX4_condemn_6 rfl (lv_at hl 0 rfl) ?_
  refine gf_X4_58 hx hb hown hK hS (hI.die hd) rfl dX4_condemn_7 ?_
  refine r_if_ne (a := T 4 d) (tgt := 22) hx hb (by omega) dX4_condemn_10 (by decide) (fun q10 => ?_) (fun q10 => ?_)
  · -- T
    have hs := hs0.trans (if_pos (Or.inl (by omega)))
    exact th_X4_68_149 hx hb hlt hown hK hZ hS (by rw [hml]; exact hl.1) dX4_condemn_22 dX4_condemn_25 dX4_condemn_26 dX4_condemn_28 dX4_condemn_31 hex (Nat.le_of_ble_eq_true rfl) (Nat.le_of_ble_eq_true rfl) (Nat.le_of_ble_eq_true rfl) (Nat.le_of_ble_eq_true rfl) hlocks (xM.mk (n := 2) hs (by decide) hI) (Nat.le_of_ble_eq_true rfl) (Nat.le_of_ble_eq_true rfl)
  · -- F
    refine lv_aload_n hx hb dX4_condemn_13 rfl (lv_at hl 1 rfl) ?_
    refine lv_aload_n hx hb dX4_condemn_14 rfl (lv_at hl 0 rfl) ?_
    refine cl_X4_145 hx hb hml hown hK hZ hS hA (c_X4_provedSource hI hd) hI.reg rfl hl.1 (Nat.le_of_ble_eq_true rfl) ⟨Nat.le_of_ble_eq_true rfl, Nat.le_of_ble_eq_true rfl⟩ ⟨Nat.le_of_ble_eq_true rfl, Nat.le_of_ble_eq_true rfl⟩ rfl dX4_condemn_15 (r_kp (fun H locs hS => ?_))
    refine lv_iconst (v := (-1)) hx hb dX4_condemn_18 (by decide) ?_
    refine lv_icmp_ne (tgt := 32) hx hb dX4_condemn_19 (by decide) (fun q19 => ?_) (fun q19 => ?_)
    · -- T
      have hs := hs0.trans (if_neg (fun z => z.elim (fun z => by omega) (fun z => q19 ((prI_m hD).mpr z))))
      have hu := up_cond hI hd
      refine lv_aload_n hx hb dX4_condemn_32 rfl (lv_at hl 0 rfl) ?_
      refine gf_X4_97 hx hb hown hK hS (hI.die hd) rfl dX4_condemn_33 ?_
      refine lv_istore_n (lv' := [(3, .int (nI (T 20 d))), (2, .ref (ad 1 d)), (0, .ref (ad 0 0)), (1, .int a)]) hx hb dX4_condemn_36 rfl hl (by decide) rfl (fun ls hl => ?_)
      refine lv_aload_n hx hb dX4_condemn_37 rfl (lv_at hl 1 rfl) ?_
      refine lv_iconst (v := nI 1) hx hb dX4_condemn_38 (by decide) ?_
      refine pf_X4_58 hx hb hown hK hS (hI.die hd) rfl rfl (fs' := [.int (nI d), .int (nI (T 1 d)), .int (nI (valOf (T 1 d))), .int (nI (T 2 d)), .int (nI 1), .int (nI (T 20 d)), .ref (ad 11 d)]) (Nat.le_of_ble_eq_true rfl) rfl dX4_condemn_39 (fun H locs hS => ?_)
      refine lv_aload_n hx hb dX4_condemn_42 rfl (lv_at hl 1 rfl) ?_
      refine lv_iconst (v := nI 0) hx hb dX4_condemn_43 (by decide) ?_
      refine pf_X4_97 hx hb hown hK hS ru_e rfl rfl (fs' := [.int (nI d), .int (nI (T 1 d)), .int (nI (valOf (T 1 d))), .int (nI (T 2 d)), .int (nI 1), .int (nI 0), .ref (ad 11 d)]) (Nat.le_of_ble_eq_true rfl) rfl dX4_condemn_44 (fun H locs hS => ?_)
      have hS : rS G.1 (rF C ad s.heap.size) s.heap (condC C T d ad 0) ad H locs := by rw [condC_0, ← ru_ru]; exact hS
      refine lv_aload_n hx hb dX4_condemn_47 rfl (lv_at hl 2 rfl) ?_
      refine gf_X4_21 hx hb hown hK hS ((condC_k (by decide) (by decide)).trans hI.reg) rfl dX4_condemn_48 ?_
      refine lv_astore (lv' := [(4, .ref (ad 7 0)), (3, .int (nI (T 20 d))), (2, .ref (ad 1 d)), (0, .ref (ad 0 0)), (1, .int a)]) hx hb dX4_condemn_51 hl (by decide) rfl (fun ls hl => ?_)
      refine lv_aload hx hb dX4_condemn_53 (lv_at hl 0 rfl) ?_
      refine r_alen hx hb hK.1 hS 3 ((condC_k (by decide) (by decide)).trans hI.arr) rfl (v := nI 8) rfl dX4_condemn_55 ?_
      refine lv_istore (lv' := [(5, .int (nI 8)), (4, .ref (ad 7 0)), (3, .int (nI (T 20 d))), (2, .ref (ad 1 d)), (0, .ref (ad 0 0)), (1, .int a)]) hx hb dX4_condemn_56 hl (by decide) rfl (fun ls hl => ?_)
      refine lv_iconst (v := nI 0) hx hb dX4_condemn_58 (by decide) ?_
      refine lv_istore (lv' := [(6, .int (nI 0)), (5, .int (nI 8)), (4, .ref (ad 7 0)), (3, .int (nI (T 20 d))), (2, .ref (ad 1 d)), (0, .ref (ad 0 0)), (1, .int a)]) hx hb dX4_condemn_59 hl (by decide) rfl (fun ls hl => ?_)
      refine r_loop (σ := Nat) (fun i => 8 - i) (fun i H locs ls => (i ≤ 8) ∧ rS G.1 (rF C ad s.heap.size) s.heap (condC C T d ad i) ad H locs ∧ lv_has ls 8 [(6, .int (nI i)), (5, .int (nI 8)), (4, .ref (ad 7 0)), (3, .int (nI (T 20 d))), (2, .ref (ad 1 d)), (0, .ref (ad 0 0))]) (fun _ => 1) (fun _ => 6) (fun z ih H locs ls hI => ?_) 0 (Nat.le_refl _) (Nat.le_refl _) ⟨Nat.zero_le _, hS, lv_sub hl [0, 1, 2, 3, 4, 5] rfl⟩
      obtain ⟨i, rfl⟩ : ∃ y, y = z := ⟨_, rfl⟩
      obtain ⟨hil, hS, hl⟩ := hI
      try dsimp only at hil hS hl ih ⊢
      refine lv_iload hx hb dX4_condemn_61 (lv_at hl 0 rfl) ?_
      refine lv_iload hx hb dX4_condemn_63 (lv_at hl 1 rfl) ?_
      refine r_icmp_ge (a := i) (b := 8) (tgt := 97) hx hb (by omega) (by omega) dX4_condemn_65 (by decide) (fun q65 => ?_) (fun q65 => ?_)
      · -- T
        obtain rfl : i = 8 := by omega
        refine lv_iload_n hx hb dX4_condemn_97 rfl (lv_at hl 3 rfl) ?_
        refine vx_ret ?_
        exact r_iret hx hb hr hlocks hS (pM.mk (hs.trans (by rw [← hdn.2.2.2])) hu ⟨fun a b ha => ⟨condC_k (by omega) (by omega), rfl⟩, rfl⟩) (Nat.le_of_ble_eq_true rfl) (Nat.le_of_ble_eq_true rfl) dX4_condemn_98
      · -- F
        have hi := q65
        refine lv_aload hx hb dX4_condemn_68 (lv_at hl 2 rfl) ?_
        refine lv_iload hx hb dX4_condemn_70 (lv_at hl 0 rfl) ?_
        refine r_aald hx hb hK.1 hS 3 ((condC_k (by decide) (by decide)).trans hI.arr) rfl (nI_in0 (by omega) (by omega)) (v := .ref (ad 5 i)) (by rw [nI_clamp (by omega), if_pos hi]; rfl) dX4_condemn_72 ?_
        refine lv_astore (lv' := [(7, .ref (ad 5 i)), (6, .int (nI i)), (5, .int (nI 8)), (4, .ref (ad 7 0)), (3, .int (nI (T 20 d))), (2, .ref (ad 1 d)), (0, .ref (ad 0 0))]) hx hb dX4_condemn_73 hl (by decide) rfl (fun ls hl => ?_)
        refine lv_aload hx hb dX4_condemn_75 (lv_at hl 0 rfl) ?_
        refine lv_dup hx hb dX4_condemn_77 rfl ?_
        refine gf_X4_151 hx hb hown hK hS ((condC_5 (Nat.le_refl _)).trans (hI.col hi)) rfl dX4_condemn_78 ?_
        refine lv_aload_n hx hb dX4_condemn_81 rfl (lv_at hl 5 rfl) ?_
        refine cl_X4_139 hx hb hml hown hK hZ hS hA (c_bit condC_1 (by omega)) condC_1 rfl hl.1 (Nat.le_of_ble_eq_true rfl) ⟨Nat.le_of_ble_eq_true rfl, Nat.le_of_ble_eq_true rfl⟩ ⟨Nat.le_of_ble_eq_true rfl, Nat.le_of_ble_eq_true rfl⟩ rfl dX4_condemn_82 (r_kp (fun H locs hS => ?_))
        refine lv_iconst (v := (-1)) hx hb dX4_condemn_85 (by decide) ?_
        refine lv_ixor hx hb dX4_condemn_86 ?_
        refine r_top (y := nI (2 ^ d) ^^^ (-1)) rfl ?_
        refine lv_iand hx hb dX4_condemn_87 ?_
        refine r_top (y := nI (clrB (T 10 i) d)) (clr_i _ _) ?_
        refine pf_X4_151 hx hb hown hK hS ((condC_5 (Nat.le_refl _)).trans (hI.col hi)) rfl rfl (fs' := [.int (nI i), .int (nI (clrB (T 10 i) d)), .int (nI (T 11 i)), .ref (ad 14 i), .ref (ad 15 i)]) (Nat.le_of_ble_eq_true rfl) rfl dX4_condemn_88 (fun H locs hS => ?_)
        have hS : rS G.1 (rF C ad s.heap.size) s.heap (condC C T d ad (i + 1)) ad H locs := by rw [condC_s]; exact hS
        refine lv_iinc (v := nI (i + 1)) (lv' := [(6, .int (nI (i + 1))), (7, .ref (ad 5 i)), (5, .int (nI 8)), (4, .ref (ad 7 0)), (3, .int (nI (T 20 d))), (2, .ref (ad 1 d)), (0, .ref (ad 0 0))]) hx hb dX4_condemn_91 hl (k := 1) rfl (nI_inc _) (by decide) rfl (fun ls hl => ?_)
        refine lv_goto (tgt := 61) hx hb dX4_condemn_94 (by decide) ?_
        exact ih (i + 1) (by omega) _ _ _ ⟨(show i + 1 ≤ 8 by omega), hS, lv_sub hl [0, 2, 3, 4, 5, 6] rfl⟩
    · -- F
      have hs := hs0.trans (if_pos (Or.inr ((prI_m hD).mp q19)))
      exact th_X4_68_149 hx hb hlt hown hK hZ hS (by rw [hml]; exact hl.1) dX4_condemn_22 dX4_condemn_25 dX4_condemn_26 dX4_condemn_28 dX4_condemn_31 hex (Nat.le_of_ble_eq_true rfl) (Nat.le_of_ble_eq_true rfl) (Nat.le_of_ble_eq_true rfl) (Nat.le_of_ble_eq_true rfl) hlocks (xM.mk (n := 2) hs (by decide) hI) (Nat.le_of_ble_eq_true rfl) (Nat.le_of_ble_eq_true rfl)
