/-! calls that write objects (printed by wip/whole/gen/comp5.py) -/
theorem f101 {b : Int32} : b < nI 101 ↔ b ≤ nI 100 := by
  rw [Int32.lt_iff_toInt_lt, Int32.le_iff_toInt_le]
  show b.toInt < 101 ↔ b.toInt ≤ 100
  omega
theorem ruK {f : rTab} {k i v a : Nat} (h : a ≠ k) : ru f k i v a = f a := funext fun _ => ru_k h
def wN (w : Bool) : Nat := if w = true then 1 else 0
theorem wN_i (w : Bool) : bI w = nI (wN w) := by cases w <;> rfl
theorem wN_le (w : Bool) : wN w ≤ 1 := by cases w <;> decide
theorem ownedN_le (T : rTab) (k : Nat) : ownedN T k ≤ nC T := cntB_le _ _
theorem c01 {x : Nat} (h : x ≤ 1) : nI x = bI (decide (x = 1)) := by
  rcases (show x = 0 ∨ x = 1 by omega) with e | e <;> rw [e] <;> rfl
def crackT (T : rTab) (d x : Nat) : rTab := ru T 2 d (T 2 d ||| 2 ^ x)
def sCrack (T : rTab) (a b : Int32) : sR := match ixO a (nD T) with
  | none => (1, 0, T)
  | some d => match ixO b 16 with
    | none => (2, 0, T)
    | some x => if T 4 d = 1 ∨ (T 2 d).testBit x = true then (3, 0, T) else (0, nI (bitsN (T 2 d ||| 2 ^ x)), crackT T d x)
theorem sCrack_1 {T : rTab} {a b : Int32} (h : ixO a (nD T) = none) : sCrack T a b = (1, 0, T) := by
  unfold sCrack
  rw [h]
theorem sCrack_2 {T : rTab} {a b : Int32} {d : Nat} (h : ixO a (nD T) = some d) (h2 : ixO b 16 = none) : sCrack T a b = (2, 0, T) := by
  unfold sCrack
  rw [h]
  show (match ixO b 16 with | none => _ | some x => _) = _
  rw [h2]
theorem sCrack_0 {T : rTab} {a b : Int32} {d x : Nat} (h : ixO a (nD T) = some d) (h2 : ixO b 16 = some x) : sCrack T a b = if T 4 d = 1 ∨ (T 2 d).testBit x = true then (3, 0, T) else (0, nI (bitsN (T 2 d ||| 2 ^ x)), crackT T d x) := by
  unfold sCrack
  rw [h]
  show (match ixO b 16 with | none => _ | some x => _) = _
  rw [h2]
def wantT (T : rTab) (k d : Nat) (w : Bool) : rTab := ru T 10 k (if w = true then T 10 k ||| 2 ^ d else clrB (T 10 k) d)
def sWant (T : rTab) (a b : Int32) (w : Bool) : sR := match ixO a 8 with
  | none => (1, 0, T)
  | some k => match ixO b (nD T) with
    | none => (1, 0, T)
    | some d => if w = true ∧ T 4 d = 1 then (2, 0, T) else (0, nI (bitsN (if w = true then T 10 k ||| 2 ^ d else clrB (T 10 k) d)), wantT T k d w)
theorem sWant_1 {T : rTab} {a b : Int32} {w : Bool} (h : ixO a 8 = none) : sWant T a b w = (1, 0, T) := by
  unfold sWant
  rw [h]
theorem sWant_2 {T : rTab} {a b : Int32} {w : Bool} {k : Nat} (h : ixO a 8 = some k) (h2 : ixO b (nD T) = none) : sWant T a b w = (1, 0, T) := by
  unfold sWant
  rw [h]
  show (match ixO b (nD T) with | none => _ | some x => _) = _
  rw [h2]
theorem sWant_0 {T : rTab} {a b : Int32} {w : Bool} {k d : Nat} (h : ixO a 8 = some k) (h2 : ixO b (nD T) = some d) : sWant T a b w = if w = true ∧ T 4 d = 1 then (2, 0, T) else (0, nI (bitsN (if w = true then T 10 k ||| 2 ^ d else clrB (T 10 k) d)), wantT T k d w) := by
  unfold sWant
  rw [h]
  show (match ixO b (nD T) with | none => _ | some x => _) = _
  rw [h2]
def sFair (T : rTab) (a b : Int32) : sR := match ixO a 8 with
  | none => (1, 0, T)
  | some k => match ixO b 101 with
    | none => (2, 0, T)
    | some x => (0, nI (T 11 k), ru T 11 k x)
theorem sFair_1 {T : rTab} {a b : Int32} (h : ixO a 8 = none) : sFair T a b = (1, 0, T) := by
  unfold sFair
  rw [h]
theorem sFair_2 {T : rTab} {a b : Int32} {k : Nat} (h : ixO a 8 = some k) (h2 : ixO b 101 = none) : sFair T a b = (2, 0, T) := by
  unfold sFair
  rw [h]
  show (match ixO b 101 with | none => _ | some x => _) = _
  rw [h2]
theorem sFair_0 {T : rTab} {a b : Int32} {k x : Nat} (h : ixO a 8 = some k) (h2 : ixO b 101 = some x) : sFair T a b = (0, nI (T 11 k), ru T 11 k x) := by
  unfold sFair
  rw [h]
  show (match ixO b 101 with | none => _ | some x => _) = _
  rw [h2]
def markT (T : rTab) (j : Nat) (w : Bool) : rTab := ru (ru T 9 j (wN w)) 21 j (wN w)
def sMark (T : rTab) (a : Int32) (w : Bool) : sR := match ixO a (nC T) with
  | none => (1, 0, T)
  | some j => if T 8 j = 0 then (2, 0, T) else (0, bI (decide (T 9 j = 1)), markT T j w)
theorem sMark_1 {T : rTab} {a : Int32} {w : Bool} (h : ixO a (nC T) = none) : sMark T a w = (1, 0, T) := by
  unfold sMark
  rw [h]
theorem sMark_0 {T : rTab} {a : Int32} {w : Bool} {j : Nat} (h : ixO a (nC T) = some j) : sMark T a w = if T 8 j = 0 then (2, 0, T) else (0, bI (decide (T 9 j = 1)), markT T j w) := by
  unfold sMark
  rw [h]
theorem cNu.mk (T : rTab) (a : nD T ≤ 16) (b : nC T ≤ 150) (c : nS T ≤ 60) (d : ∀ i, i < nD T → T 1 i < 4 ∧ T 2 i < 65536 ∧ T 4 i ≤ 1) (e : ∀ j, j < nC T → T 5 j < nD T ∧ T 6 j < 65536 ∧ T 7 j ≤ 1 ∧ T 8 j ≤ 8 ∧ T 21 j ≤ 1 ∧ (T 7 j = 1 → T 8 j = 0) ∧ (T 8 j ≠ 0 → T 21 j = T 9 j)) (f : ∀ k, k < 8 → T 10 k < 65536 ∧ T 11 k ≤ 100) : cNu T := ⟨a, b, c, d, e, f⟩
section MU
variable {G : rG} {T : rTab} {L : rL} {C : rC} {ad : rA}
theorem up_crack (hI : cInv G T L C ad) {d x : Nat} (hd : d < nD T) (hx : x < 16) : cInv G (crackT T d x) L (ru C 1 d (some (diO (crackT T d x) ad d))) ad := by
  have hk : ∀ a, a ≠ 2 → crackT T d x a = T a := fun a h => ruK h
  refine ⟨hI.1.up (hk 0 (by decide)) (hk 5 (by decide)) (hk 8 (by decide)) (hk 12 (by decide)) (hk 13 (by decide)) (ru_ge (by decide)) (hI.1.1.die1 (hk 0 (by decide)) hd rfl (fun i hi => diO_eq (congrFun (hk 1 (by decide)) i) (wS hi 2) (congrFun (hk 4 (by decide)) i) (congrFun (hk 20 (by decide)) i)) (fun j => rfl) (fun k => rfl)) ?_, ?_⟩
  · refine cNu.mk _ hI.hD hI.hC hI.hS (fun i hi => ?_) (fun j hj => hI.cn hj) (fun k hk => hI.kn hk)
    have := hI.dn hi
    refine ⟨this.1, ?_, this.2.2.1⟩
    by_cases e : i = d
    · rw [e]
      show ru T 2 d _ 2 d < _
      rw [ru_e]
      exact or16 (hI.dn hd).2.1 hx
    · show ru T 2 d _ 2 i < _
      rw [ru_i e]
      exact this.2.1
  · exact fun i hi => hI.2 i hi
theorem up_want (hI : cInv G T L C ad) {k d : Nat} (w : Bool) (hk0 : k < 8) (hd : d < nD T) : cInv G (wantT T k d w) L (ru C 5 k (some (clO (wantT T k d w) ad k))) ad := by
  have hk : ∀ a, a ≠ 10 → wantT T k d w a = T a := fun a h => ruK h
  refine ⟨hI.1.up (hk 0 (by decide)) (hk 5 (by decide)) (hk 8 (by decide)) (hk 12 (by decide)) (hk 13 (by decide)) (ru_ge (by decide)) (hI.1.1.col1 (hk 0 (by decide)) hk0 rfl (fun j => rfl) (fun j => rfl) (fun i hi => clO_eq (wS hi 10) (congrFun (hk 11 (by decide)) i))) ?_, ?_⟩
  · refine cNu.mk _ hI.hD hI.hC hI.hS (fun i hi => hI.1.dn hi) (fun j hj => hI.cn hj) (fun i hi => ?_)
    refine ⟨?_, (hI.kn hi).2⟩
    by_cases e : i = k
    · rw [e]
      show ru T 10 k _ 10 k < _
      rw [ru_e]
      have h2 := hI.hD
      have h3 := (hI.kn hk0).1
      split
      · exact or16 h3 (by omega)
      · exact Nat.lt_of_le_of_lt (clrB_le _ _) h3
    · show ru T 10 k _ 10 i < _
      rw [ru_i e]
      exact (hI.kn hi).1
  · exact fun i hi => hI.2 i hi
theorem up_fair (hI : cInv G T L C ad) {k x : Nat} (hk0 : k < 8) (hx : x < 101) : cInv G (ru T 11 k x) L (ru C 5 k (some (clO (ru T 11 k x) ad k))) ad := by
  have hk : ∀ a, a ≠ 11 → ru T 11 k x a = T a := fun a h => ruK h
  refine ⟨hI.1.up (hk 0 (by decide)) (hk 5 (by decide)) (hk 8 (by decide)) (hk 12 (by decide)) (hk 13 (by decide)) (ru_ge (by decide)) (hI.1.1.col1 (hk 0 (by decide)) hk0 rfl (fun j => rfl) (fun j => rfl) (fun i hi => clO_eq (congrFun (hk 10 (by decide)) i) (wS hi 11))) ?_, ?_⟩
  · refine cNu.mk _ hI.hD hI.hC hI.hS (fun i hi => hI.1.dn hi) (fun j hj => hI.cn hj) (fun i hi => ?_)
    refine ⟨(hI.kn hi).1, ?_⟩
    by_cases e : i = k
    · rw [e]
      show ru T 11 k _ 11 k ≤ _
      rw [ru_e]
      omega
    · show ru T 11 k _ 11 i ≤ _
      rw [ru_i e]
      exact (hI.kn hi).2
  · exact fun i hi => hI.2 i hi
theorem up_mark (hI : cInv G T L C ad) {j : Nat} (w : Bool) (hj0 : j < nC T) : cInv G (markT T j w) L (ru C 4 j (some (coO (markT T j w) ad j))) ad := by
  have hk : ∀ a, a ≠ 9 → a ≠ 21 → markT T j w a = T a := fun a h h2 => (ruK h2).trans (ruK h)
  refine ⟨hI.1.up (hk 0 (by decide) (by decide)) (hk 5 (by decide) (by decide)) (hk 8 (by decide) (by decide)) (hk 12 (by decide) (by decide)) (hk 13 (by decide) (by decide)) (ru_ge (by decide)) (hI.1.1.coin1 (hk 0 (by decide) (by decide)) hj0 rfl (fun j => rfl) (fun i hi => coO_eq (congrFun (hk 5 (by decide) (by decide)) i) (congrFun (hk 6 (by decide) (by decide)) i) (congrFun (hk 7 (by decide) (by decide)) i) (congrFun (hk 8 (by decide) (by decide)) i) ((wS hi 21).trans (ru_k (by decide)))) (fun k => rfl)) ?_, ?_⟩
  · refine cNu.mk _ hI.hD hI.hC hI.hS (fun i hi => hI.1.dn hi) (fun i hi => ?_) (fun i hi => hI.kn hi)
    have h := hI.cn hi
    refine ⟨h.1, h.2.1, h.2.2.1, h.2.2.2.1, ?_, h.2.2.2.2.2.1, fun h8 => ?_⟩
    · by_cases e : i = j
      · rw [e]
        show ru (ru T 9 j (wN w)) 21 j (wN w) 21 j ≤ 1
        rw [ru_e]
        exact wN_le w
      · show ru (ru T 9 j (wN w)) 21 j (wN w) 21 i ≤ 1
        rw [ru_i e, ru_i e]
        exact h.2.2.2.2.1
    · by_cases e : i = j
      · rw [e]
        show ru (ru T 9 j (wN w)) 21 j (wN w) 21 j = ru (ru T 9 j (wN w)) 21 j (wN w) 9 j
        rw [ru_e, ru_k (by decide), ru_e]
      · show ru (ru T 9 j (wN w)) 21 j (wN w) 21 i = ru (ru T 9 j (wN w)) 21 j (wN w) 9 i
        rw [ru_i e, ru_i e, ru_i e, ru_i e]
        exact h.2.2.2.2.2.2 h8
  · exact fun i hi => hI.2 i hi
end MU

set_option maxHeartbeats 4000000 in
set_option maxRecDepth 100000 in
theorem c_X4_crack {G : rG} {l : Launch} {T : rTab} {L : rL} {C : rC} {ad : rA} (hlt : l.stackTraces = false) (hI : cInv G T L C ad) (a b : Int32) : rMetX G l yX4_crack cX4_crack 5 (some .int) (rmM 8 2 12) [.ref (ad 0 0), .int a, .int b] C ad (pM G C ad (sCrack T a b)) (xM G C ad (sCrack T a b) ec3) := by
  refine rMetX.of (by decide) ?_
  intro p e s m below meth c hx hb hml hr hlocks hown hname hK hZ hS hex
  have hown : s.vm.findClass RX4 = some m.cls := hown
  have hA : ∀ q : Nat, s.heap.size ≤ q → (rF C ad s.heap.size) q := rF.new
  refine r_entry _ (Nat.le_of_ble_eq_true rfl) (fun ls hl => ?_)
  have hl : lv_has ls 5 [(0, .ref (ad 0 0)), (1, .int a), (2, .int b)] := hl
  refine lv_aload_n hx hb dX4_crack_0 rfl (lv_at hl 0 rfl) ?_
  refine lv_iload_n hx hb dX4_crack_1 rfl (lv_at hl 1 rfl) ?_
  refine cl_X4_49 hx hb hml hown hK hZ hS hA (c_X4_theDie hlt hI a) hI.reg rfl hl.1 (Nat.le_of_ble_eq_true rfl) ⟨Nat.le_of_ble_eq_true rfl, Nat.le_of_ble_eq_true rfl⟩ ⟨Nat.le_of_ble_eq_true rfl, Nat.le_of_ble_eq_true rfl⟩ rfl dX4_crack_2 ?_ (r_kr (fun r C' ad' H locs hQ hS => ?_))
  · -- thrown
    intro E ce q9 C9 ad9 H locs hX9 hS hce hcv hcl
    obtain ⟨⟨rfl, hno⟩, rfl, rfl⟩ := hX9
    exact r_out hex hlocks hS hce hcv hcl (xM.mk (n := 1) (sCrack_1 hno) (by decide) hI) (Nat.le_of_ble_eq_true rfl) (Nat.le_of_ble_eq_true rfl)
  obtain ⟨⟨d, hixd, rfl⟩, rfl, rfl⟩ := hQ
  have hd : d < (nD T) := ixO_lt hixd
  have hdn := hI.dn hd
  refine lv_astore_n (lv' := [(3, .ref (ad 1 d)), (0, .ref (ad 0 0)), (1, .int a), (2, .int b)]) hx hb dX4_crack_5 rfl hl (by decide) rfl (fun ls hl => ?_)
  refine lv_iload_n hx hb dX4_crack_6 rfl (lv_at hl 3 rfl) ?_
  refine lv_if_lt (tgt := 16) hx hb dX4_crack_7 (by decide) (fun q7 => ?_) (fun q7 => ?_)
  · -- T
    exact th_X4_53_55 hx hb hlt hown hK hZ hS (by rw [hml]; exact hl.1) dX4_crack_16 dX4_crack_19 dX4_crack_20 dX4_crack_22 dX4_crack_25 hex (Nat.le_of_ble_eq_true rfl) (Nat.le_of_ble_eq_true rfl) (Nat.le_of_ble_eq_true rfl) (Nat.le_of_ble_eq_true rfl) hlocks (xM.mk (n := 2) (sCrack_2 hixd (ixO_neg q7)) (by decide) hI) (Nat.le_of_ble_eq_true rfl) (Nat.le_of_ble_eq_true rfl)
  · -- F
    refine lv_iload_n hx hb dX4_crack_10 rfl (lv_at hl 3 rfl) ?_
    refine lv_bipush (v := nI 16) hx hb dX4_crack_11 (by decide) ?_
    refine lv_icmp_lt (tgt := 26) hx hb dX4_crack_13 (by decide) (fun q13 => ?_) (fun q13 => ?_)
    · -- T
      obtain ⟨x, hxx, rfl, hix2⟩ := ixO_some (n := 16) (by omega) q7 (fun z => Int32.not_le.mpr q13 z)
      have hs0 := sCrack_0 hixd hix2
      refine lv_iconst (v := nI 1) hx hb dX4_crack_26 (by decide) ?_
      refine lv_iload_n hx hb dX4_crack_27 rfl (lv_at hl 3 rfl) ?_
      refine lv_ishl hx hb dX4_crack_28 ?_
      refine r_top (y := nI (2 ^ x)) (bit_i x hxx) ?_
      refine lv_istore (lv' := [(4, .int (nI (2 ^ x))), (3, .ref (ad 1 d)), (0, .ref (ad 0 0)), (1, .int a), (2, .int (nI x))]) hx hb dX4_crack_29 hl (by decide) rfl (fun ls hl => ?_)
      refine lv_aload_n hx hb dX4_crack_31 rfl (lv_at hl 1 rfl) ?_
      refine gf_X4_58 hx hb hown hK hS (hI.die hd) rfl dX4_crack_32 ?_
      refine r_if_ne (a := T 4 d) (tgt := 48) hx hb (by omega) dX4_crack_35 (by decide) (fun q35 => ?_) (fun q35 => ?_)
      · -- T
        have hs := hs0.trans (if_pos (Or.inl (show T 4 d = 1 by omega)))
        exact th_X4_68_70 hx hb hlt hown hK hZ hS (by rw [hml]; exact hl.1) dX4_crack_48 dX4_crack_51 dX4_crack_52 dX4_crack_54 dX4_crack_57 hex (Nat.le_of_ble_eq_true rfl) (Nat.le_of_ble_eq_true rfl) (Nat.le_of_ble_eq_true rfl) (Nat.le_of_ble_eq_true rfl) hlocks (xM.mk (n := 3) hs (by decide) hI) (Nat.le_of_ble_eq_true rfl) (Nat.le_of_ble_eq_true rfl)
      · -- F
        refine lv_aload_n hx hb dX4_crack_38 rfl (lv_at hl 1 rfl) ?_
        refine gf_X4_64 hx hb hown hK hS (hI.die hd) rfl dX4_crack_39 ?_
        refine lv_iload hx hb dX4_crack_42 (lv_at hl 0 rfl) ?_
        refine lv_iand hx hb dX4_crack_44 ?_
        refine r_top (y := nI (T 2 d &&& 2 ^ x)) (nx_and _ _) ?_
        refine r_if_eq (a := T 2 d &&& 2 ^ x) (tgt := 58) hx hb (Nat.lt_of_le_of_lt Nat.and_le_left (by omega)) dX4_crack_45 (by decide) (fun q45 => ?_) (fun q45 => ?_)
        · -- T
          have hs := hs0.trans (if_neg (fun z => z.elim (fun z => by omega) (fun z => land_ne.mpr z q45)))
          have h16 := or16 hdn.2.1 hxx
          have hu := up_crack hI hd hxx
          refine lv_aload_n hx hb dX4_crack_58 rfl (lv_at hl 1 rfl) ?_
          refine lv_dup hx hb dX4_crack_59 rfl ?_
          refine gf_X4_64 hx hb hown hK hS (hI.die hd) rfl dX4_crack_60 ?_
          refine lv_iload hx hb dX4_crack_63 (lv_at hl 0 rfl) ?_
          refine lv_ior hx hb dX4_crack_65 ?_
          refine r_top (y := nI (T 2 d ||| 2 ^ x)) (nx_or _ _) ?_
          refine pf_X4_64 hx hb hown hK hS (hI.die hd) rfl rfl (fs' := [.int (nI d), .int (nI (T 1 d)), .int (nI (valOf (T 1 d))), .int (nI (T 2 d ||| 2 ^ x)), .int (nI (T 4 d)), .int (nI (T 20 d)), .ref (ad 11 d)]) (Nat.le_of_ble_eq_true rfl) rfl dX4_crack_66 (fun H locs hS => ?_)
          refine lv_aload_n hx hb dX4_crack_69 rfl (lv_at hl 1 rfl) ?_
          refine gf_X4_64 hx hb hown hK hS ru_e rfl dX4_crack_70 ?_
          refine cl_X4_73 hx hb hml hown hK hZ hS hA (c_bitCount h16) rfl hl.1 (Nat.le_of_ble_eq_true rfl) ⟨Nat.le_of_ble_eq_true rfl, Nat.le_of_ble_eq_true rfl⟩ ⟨Nat.le_of_ble_eq_true rfl, Nat.le_of_ble_eq_true rfl⟩ rfl dX4_crack_73 (r_kp (fun H locs hS => ?_))
          refine vx_ret ?_
          exact r_iret hx hb hr hlocks hS (pM.mk hs (by unfold diO at hu; rw [show crackT T d x 2 d = T 2 d ||| 2 ^ x from ru_e] at hu; exact hu) (cFr.ru1 (by decide))) (Nat.le_of_ble_eq_true rfl) (Nat.le_of_ble_eq_true rfl) dX4_crack_76
        · -- F
          have hs := hs0.trans (if_pos (Or.inr (land_ne.mp q45)))
          exact th_X4_68_70 hx hb hlt hown hK hZ hS (by rw [hml]; exact hl.1) dX4_crack_48 dX4_crack_51 dX4_crack_52 dX4_crack_54 dX4_crack_57 hex (Nat.le_of_ble_eq_true rfl) (Nat.le_of_ble_eq_true rfl) (Nat.le_of_ble_eq_true rfl) (Nat.le_of_ble_eq_true rfl) hlocks (xM.mk (n := 3) hs (by decide) hI) (Nat.le_of_ble_eq_true rfl) (Nat.le_of_ble_eq_true rfl)
    · -- F
      exact th_X4_53_55 hx hb hlt hown hK hZ hS (by rw [hml]; exact hl.1) dX4_crack_16 dX4_crack_19 dX4_crack_20 dX4_crack_22 dX4_crack_25 hex (Nat.le_of_ble_eq_true rfl) (Nat.le_of_ble_eq_true rfl) (Nat.le_of_ble_eq_true rfl) (Nat.le_of_ble_eq_true rfl) hlocks (xM.mk (n := 2) (sCrack_2 hixd (ixO_big (n := 16) (by omega) (Int32.not_lt.mp q13))) (by decide) hI) (Nat.le_of_ble_eq_true rfl) (Nat.le_of_ble_eq_true rfl)

set_option maxHeartbeats 4000000 in
set_option maxRecDepth 100000 in
theorem c_X4_want {G : rG} {l : Launch} {T : rTab} {L : rL} {C : rC} {ad : rA} (hlt : l.stackTraces = false) (hI : cInv G T L C ad) (a b : Int32) (w : Bool) : rMetX G l yX4_want cX4_want 6 (some .int) (rmM 8 3 18) [.ref (ad 0 0), .int a, .int b, .int (bI w)] C ad (pM G C ad (sWant T a b w)) (xM G C ad (sWant T a b w) ec2) := by
  refine rMetX.of (by decide) ?_
  intro p e s m below meth c hx hb hml hr hlocks hown hname hK hZ hS hex
  have hown : s.vm.findClass RX4 = some m.cls := hown
  have hA : ∀ q : Nat, s.heap.size ≤ q → (rF C ad s.heap.size) q := rF.new
  refine r_entry _ (Nat.le_of_ble_eq_true rfl) (fun ls hl => ?_)
  have hl : lv_has ls 6 [(0, .ref (ad 0 0)), (1, .int a), (2, .int b), (3, .int (bI w))] := hl
  refine lv_aload_n hx hb dX4_want_0 rfl (lv_at hl 0 rfl) ?_
  refine lv_iload_n hx hb dX4_want_1 rfl (lv_at hl 1 rfl) ?_
  refine cl_X4_157 hx hb hml hown hK hZ hS hA (c_X4_theCollector hlt hI a) hI.reg rfl hl.1 (Nat.le_of_ble_eq_true rfl) ⟨Nat.le_of_ble_eq_true rfl, Nat.le_of_ble_eq_true rfl⟩ ⟨Nat.le_of_ble_eq_true rfl, Nat.le_of_ble_eq_true rfl⟩ rfl dX4_want_2 ?_ (r_kr (fun r C' ad' H locs hQ hS => ?_))
  · -- thrown
    intro E ce q9 C9 ad9 H locs hX9 hS hce hcv hcl
    obtain ⟨⟨rfl, hno⟩, rfl, rfl⟩ := hX9
    exact r_out hex hlocks hS hce hcv hcl (xM.mk (n := 1) (sWant_1 hno) (by decide) hI) (Nat.le_of_ble_eq_true rfl) (Nat.le_of_ble_eq_true rfl)
  obtain ⟨⟨k, hixk, rfl⟩, rfl, rfl⟩ := hQ
  have hk : k < 8 := ixO_lt hixk
  refine lv_astore (lv' := [(4, .ref (ad 5 k)), (0, .ref (ad 0 0)), (1, .int a), (2, .int b), (3, .int (bI w))]) hx hb dX4_want_5 hl (by decide) rfl (fun ls hl => ?_)
  refine lv_aload_n hx hb dX4_want_7 rfl (lv_at hl 1 rfl) ?_
  refine lv_iload_n hx hb dX4_want_8 rfl (lv_at hl 3 rfl) ?_
  refine cl_X4_49 hx hb hml hown hK hZ hS hA (c_X4_theDie hlt hI b) hI.reg rfl hl.1 (Nat.le_of_ble_eq_true rfl) ⟨Nat.le_of_ble_eq_true rfl, Nat.le_of_ble_eq_true rfl⟩ ⟨Nat.le_of_ble_eq_true rfl, Nat.le_of_ble_eq_true rfl⟩ rfl dX4_want_9 ?_ (r_kr (fun r C' ad' H locs hQ hS => ?_))
  · -- thrown
    intro E ce q9 C9 ad9 H locs hX9 hS hce hcv hcl
    obtain ⟨⟨rfl, hno⟩, rfl, rfl⟩ := hX9
    exact r_out hex hlocks hS hce hcv hcl (xM.mk (n := 1) (sWant_2 hixk hno) (by decide) hI) (Nat.le_of_ble_eq_true rfl) (Nat.le_of_ble_eq_true rfl)
  obtain ⟨⟨d, hixd, rfl⟩, rfl, rfl⟩ := hQ
  have hd : d < (nD T) := ixO_lt hixd
  have hdn := hI.dn hd
  have hkn := hI.kn hk
  have hD := hI.hD
  have hs0 := sWant_0 (w := w) hixk hixd
  refine lv_astore (lv' := [(5, .ref (ad 1 d)), (4, .ref (ad 5 k)), (0, .ref (ad 0 0)), (1, .int a), (2, .int b), (3, .int (bI w))]) hx hb dX4_want_12 hl (by decide) rfl (fun ls hl => ?_)
  refine lv_iload_n hx hb dX4_want_14 rfl (lv_at hl 5 rfl) ?_
  refine r_ifb_eq (b := w) (tgt := 36) hx hb dX4_want_15 (by decide) (fun q15 => ?_) (fun q15 => ?_)
  · -- T
    subst q15
    have hs := hs0.trans (if_neg (fun z => Bool.false_ne_true z.1))
    refine lv_iload_n hx hb dX4_want_36 rfl (lv_at hl 5 rfl) ?_
    refine r_ifb_eq (b := false) (tgt := 58) hx hb dX4_want_37 (by decide) (fun q37 => ?_) (fun q37 => ?_)
    · -- T
      have h16 := Nat.lt_of_le_of_lt (clrB_le (T 10 k) d) hkn.1
      have hu := up_want hI false hk hd
      refine lv_aload hx hb dX4_want_58 (lv_at hl 1 rfl) ?_
      refine lv_dup hx hb dX4_want_60 rfl ?_
      refine gf_X4_151 hx hb hown hK hS (hI.col hk) rfl dX4_want_61 ?_
      refine lv_aload hx hb dX4_want_64 (lv_at hl 0 rfl) ?_
      refine cl_X4_139 hx hb hml hown hK hZ hS hA (c_X2_bit hI hd) (hI.die hd) rfl hl.1 (Nat.le_of_ble_eq_true rfl) ⟨Nat.le_of_ble_eq_true rfl, Nat.le_of_ble_eq_true rfl⟩ ⟨Nat.le_of_ble_eq_true rfl, Nat.le_of_ble_eq_true rfl⟩ rfl dX4_want_66 (r_kp (fun H locs hS => ?_))
      refine lv_iconst (v := (-1)) hx hb dX4_want_69 (by decide) ?_
      refine lv_ixor hx hb dX4_want_70 ?_
      refine r_top (y := nI (2 ^ d) ^^^ (-1)) rfl ?_
      refine lv_iand hx hb dX4_want_71 ?_
      refine r_top (y := nI (clrB (T 10 k) d)) (clr_i _ _) ?_
      refine pf_X4_151 hx hb hown hK hS (hI.col hk) rfl rfl (fs' := [.int (nI k), .int (nI (clrB (T 10 k) d)), .int (nI (T 11 k)), .ref (ad 14 k), .ref (ad 15 k)]) (Nat.le_of_ble_eq_true rfl) rfl dX4_want_72 (fun H locs hS => ?_)
      refine lv_aload hx hb dX4_want_75 (lv_at hl 1 rfl) ?_
      refine gf_X4_151 hx hb hown hK hS ru_e rfl dX4_want_77 ?_
      refine cl_X4_73 hx hb hml hown hK hZ hS hA (c_bitCount h16) rfl hl.1 (Nat.le_of_ble_eq_true rfl) ⟨Nat.le_of_ble_eq_true rfl, Nat.le_of_ble_eq_true rfl⟩ ⟨Nat.le_of_ble_eq_true rfl, Nat.le_of_ble_eq_true rfl⟩ rfl dX4_want_80 (r_kp (fun H locs hS => ?_))
      refine vx_ret ?_
      exact r_iret hx hb hr hlocks hS (pM.mk hs (by unfold clO at hu; rw [show wantT T k d false 10 k = clrB (T 10 k) d from ru_e] at hu; exact hu) (cFr.ru1 (by decide))) (Nat.le_of_ble_eq_true rfl) (Nat.le_of_ble_eq_true rfl) dX4_want_83
    · -- F
      cases q37
  · -- F
    subst q15
    refine lv_aload hx hb dX4_want_18 (lv_at hl 0 rfl) ?_
    refine gf_X4_58 hx hb hown hK hS (hI.die hd) rfl dX4_want_20 ?_
    refine r_if_eq (a := T 4 d) (tgt := 36) hx hb (by omega) dX4_want_23 (by decide) (fun q23 => ?_) (fun q23 => ?_)
    · -- T
      have hs := hs0.trans (if_neg (fun z => by omega))
      refine lv_iload_n hx hb dX4_want_36 rfl (lv_at hl 5 rfl) ?_
      refine r_ifb_eq (b := true) (tgt := 58) hx hb dX4_want_37 (by decide) (fun q37 => ?_) (fun q37 => ?_)
      · -- T
        cases q37
      · -- F
        have h16 := or16 hkn.1 (show d < 16 by omega)
        have hu := up_want hI true hk hd
        refine lv_aload hx hb dX4_want_40 (lv_at hl 1 rfl) ?_
        refine lv_dup hx hb dX4_want_42 rfl ?_
        refine gf_X4_151 hx hb hown hK hS (hI.col hk) rfl dX4_want_43 ?_
        refine lv_aload hx hb dX4_want_46 (lv_at hl 0 rfl) ?_
        refine cl_X4_139 hx hb hml hown hK hZ hS hA (c_X2_bit hI hd) (hI.die hd) rfl hl.1 (Nat.le_of_ble_eq_true rfl) ⟨Nat.le_of_ble_eq_true rfl, Nat.le_of_ble_eq_true rfl⟩ ⟨Nat.le_of_ble_eq_true rfl, Nat.le_of_ble_eq_true rfl⟩ rfl dX4_want_48 (r_kp (fun H locs hS => ?_))
        refine lv_ior hx hb dX4_want_51 ?_
        refine r_top (y := nI (T 10 k ||| 2 ^ d)) (nx_or _ _) ?_
        refine pf_X4_151 hx hb hown hK hS (hI.col hk) rfl rfl (fs' := [.int (nI k), .int (nI (T 10 k ||| 2 ^ d)), .int (nI (T 11 k)), .ref (ad 14 k), .ref (ad 15 k)]) (Nat.le_of_ble_eq_true rfl) rfl dX4_want_52 (fun H locs hS => ?_)
        refine lv_goto (tgt := 75) hx hb dX4_want_55 (by decide) ?_
        refine lv_aload hx hb dX4_want_75 (lv_at hl 1 rfl) ?_
        refine gf_X4_151 hx hb hown hK hS ru_e rfl dX4_want_77 ?_
        refine cl_X4_73 hx hb hml hown hK hZ hS hA (c_bitCount h16) rfl hl.1 (Nat.le_of_ble_eq_true rfl) ⟨Nat.le_of_ble_eq_true rfl, Nat.le_of_ble_eq_true rfl⟩ ⟨Nat.le_of_ble_eq_true rfl, Nat.le_of_ble_eq_true rfl⟩ rfl dX4_want_80 (r_kp (fun H locs hS => ?_))
        refine vx_ret ?_
        exact r_iret hx hb hr hlocks hS (pM.mk hs (by unfold clO at hu; rw [show wantT T k d true 10 k = T 10 k ||| 2 ^ d from ru_e] at hu; exact hu) (cFr.ru1 (by decide))) (Nat.le_of_ble_eq_true rfl) (Nat.le_of_ble_eq_true rfl) dX4_want_83
    · -- F
      have hs := hs0.trans (if_pos ⟨rfl, show T 4 d = 1 by omega⟩)
      exact th_X4_68_169 hx hb hlt hown hK hZ hS (by rw [hml]; exact hl.1) dX4_want_26 dX4_want_29 dX4_want_30 dX4_want_32 dX4_want_35 hex (Nat.le_of_ble_eq_true rfl) (Nat.le_of_ble_eq_true rfl) (Nat.le_of_ble_eq_true rfl) (Nat.le_of_ble_eq_true rfl) hlocks (xM.mk (n := 2) hs (by decide) hI) (Nat.le_of_ble_eq_true rfl) (Nat.le_of_ble_eq_true rfl)

set_option maxHeartbeats 4000000 in
set_option maxRecDepth 100000 in
theorem c_X4_setFairness {G : rG} {l : Launch} {T : rTab} {L : rL} {C : rC} {ad : rA} (hlt : l.stackTraces = false) (hI : cInv G T L C ad) (a b : Int32) : rMetX G l yX4_setFairness cX4_setFairness 5 (some .int) (rmM 8 2 12) [.ref (ad 0 0), .int a, .int b] C ad (pM G C ad (sFair T a b)) (xM G C ad (sFair T a b) ec3) := by
  refine rMetX.of (by decide) ?_
  intro p e s m below meth c hx hb hml hr hlocks hown hname hK hZ hS hex
  have hown : s.vm.findClass RX4 = some m.cls := hown
  have hA : ∀ q : Nat, s.heap.size ≤ q → (rF C ad s.heap.size) q := rF.new
  refine r_entry _ (Nat.le_of_ble_eq_true rfl) (fun ls hl => ?_)
  have hl : lv_has ls 5 [(0, .ref (ad 0 0)), (1, .int a), (2, .int b)] := hl
  refine lv_aload_n hx hb dX4_setFairness_0 rfl (lv_at hl 0 rfl) ?_
  refine lv_iload_n hx hb dX4_setFairness_1 rfl (lv_at hl 1 rfl) ?_
  refine cl_X4_157 hx hb hml hown hK hZ hS hA (c_X4_theCollector hlt hI a) hI.reg rfl hl.1 (Nat.le_of_ble_eq_true rfl) ⟨Nat.le_of_ble_eq_true rfl, Nat.le_of_ble_eq_true rfl⟩ ⟨Nat.le_of_ble_eq_true rfl, Nat.le_of_ble_eq_true rfl⟩ rfl dX4_setFairness_2 ?_ (r_kr (fun r C' ad' H locs hQ hS => ?_))
  · -- thrown
    intro E ce q9 C9 ad9 H locs hX9 hS hce hcv hcl
    obtain ⟨⟨rfl, hno⟩, rfl, rfl⟩ := hX9
    exact r_out hex hlocks hS hce hcv hcl (xM.mk (n := 1) (sFair_1 hno) (by decide) hI) (Nat.le_of_ble_eq_true rfl) (Nat.le_of_ble_eq_true rfl)
  obtain ⟨⟨k, hixk, rfl⟩, rfl, rfl⟩ := hQ
  have hk : k < 8 := ixO_lt hixk
  refine lv_astore_n (lv' := [(3, .ref (ad 5 k)), (0, .ref (ad 0 0)), (1, .int a), (2, .int b)]) hx hb dX4_setFairness_5 rfl hl (by decide) rfl (fun ls hl => ?_)
  refine lv_iload_n hx hb dX4_setFairness_6 rfl (lv_at hl 3 rfl) ?_
  refine lv_if_lt (tgt := 16) hx hb dX4_setFairness_7 (by decide) (fun q7 => ?_) (fun q7 => ?_)
  · -- T
    exact th_X4_53_171 hx hb hlt hown hK hZ hS (by rw [hml]; exact hl.1) dX4_setFairness_16 dX4_setFairness_19 dX4_setFairness_20 dX4_setFairness_22 dX4_setFairness_25 hex (Nat.le_of_ble_eq_true rfl) (Nat.le_of_ble_eq_true rfl) (Nat.le_of_ble_eq_true rfl) (Nat.le_of_ble_eq_true rfl) hlocks (xM.mk (n := 2) (sFair_2 hixk (ixO_neg q7)) (by decide) hI) (Nat.le_of_ble_eq_true rfl) (Nat.le_of_ble_eq_true rfl)
  · -- F
    refine lv_iload_n hx hb dX4_setFairness_10 rfl (lv_at hl 3 rfl) ?_
    refine lv_bipush (v := nI 100) hx hb dX4_setFairness_11 (by decide) ?_
    refine lv_icmp_le (tgt := 26) hx hb dX4_setFairness_13 (by decide) (fun q13 => ?_) (fun q13 => ?_)
    · -- T
      obtain ⟨x, hxx, rfl, hix2⟩ := ixO_some (n := 101) (by omega) q7 (fun z => Int32.not_le.mpr (f101.mpr q13) z)
      have hu := up_fair hI hk hxx
      refine lv_aload_n hx hb dX4_setFairness_26 rfl (lv_at hl 0 rfl) ?_
      refine gf_X4_173 hx hb hown hK hS (hI.col hk) rfl dX4_setFairness_27 ?_
      refine lv_istore (lv' := [(4, .int (nI (T 11 k))), (3, .ref (ad 5 k)), (0, .ref (ad 0 0)), (1, .int a), (2, .int (nI x))]) hx hb dX4_setFairness_30 hl (by decide) rfl (fun ls hl => ?_)
      refine lv_aload_n hx hb dX4_setFairness_32 rfl (lv_at hl 1 rfl) ?_
      refine lv_iload_n hx hb dX4_setFairness_33 rfl (lv_at hl 4 rfl) ?_
      refine pf_X4_173 hx hb hown hK hS (hI.col hk) rfl rfl (fs' := [.int (nI k), .int (nI (T 10 k)), .int (nI x), .ref (ad 14 k), .ref (ad 15 k)]) (Nat.le_of_ble_eq_true rfl) rfl dX4_setFairness_34 (fun H locs hS => ?_)
      refine lv_iload hx hb dX4_setFairness_37 (lv_at hl 0 rfl) ?_
      refine vx_ret ?_
      exact r_iret hx hb hr hlocks hS (pM.mk (sFair_0 hixk hix2) (by unfold clO at hu; rw [show ru T 11 k x 11 k = x from ru_e] at hu; exact hu) (cFr.ru1 (by decide))) (Nat.le_of_ble_eq_true rfl) (Nat.le_of_ble_eq_true rfl) dX4_setFairness_39
    · -- F
      exact th_X4_53_171 hx hb hlt hown hK hZ hS (by rw [hml]; exact hl.1) dX4_setFairness_16 dX4_setFairness_19 dX4_setFairness_20 dX4_setFairness_22 dX4_setFairness_25 hex (Nat.le_of_ble_eq_true rfl) (Nat.le_of_ble_eq_true rfl) (Nat.le_of_ble_eq_true rfl) (Nat.le_of_ble_eq_true rfl) hlocks (xM.mk (n := 2) (sFair_2 hixk (ixO_big (n := 101) (by omega) (Int32.not_lt.mp (fun z => q13 (f101.mp z))))) (by decide) hI) (Nat.le_of_ble_eq_true rfl) (Nat.le_of_ble_eq_true rfl)

set_option maxHeartbeats 4000000 in
set_option maxRecDepth 100000 in
theorem c_X4_mark {G : rG} {l : Launch} {T : rTab} {L : rL} {C : rC} {ad : rA} (hlt : l.stackTraces = false) (hI : cInv G T L C ad) (a : Int32) (w : Bool) : rMetX G l yX4_mark cX4_mark 5 (some .boolean) (rmM 8 2 12) [.ref (ad 0 0), .int a, .int (bI w)] C ad (pM G C ad (sMark T a w)) (xM G C ad (sMark T a w) ec2) := by
  refine rMetX.of (by decide) ?_
  intro p e s m below meth c hx hb hml hr hlocks hown hname hK hZ hS hex
  have hown : s.vm.findClass RX4 = some m.cls := hown
  have hA : ∀ q : Nat, s.heap.size ≤ q → (rF C ad s.heap.size) q := rF.new
  refine r_entry _ (Nat.le_of_ble_eq_true rfl) (fun ls hl => ?_)
  have hl : lv_has ls 5 [(0, .ref (ad 0 0)), (1, .int a), (2, .int (bI w))] := hl
  refine lv_aload_n hx hb dX4_mark_0 rfl (lv_at hl 0 rfl) ?_
  refine lv_iload_n hx hb dX4_mark_1 rfl (lv_at hl 1 rfl) ?_
  refine cl_X4_100 hx hb hml hown hK hZ hS hA (c_X4_theCoin hlt hI a) hI.reg rfl hl.1 (Nat.le_of_ble_eq_true rfl) ⟨Nat.le_of_ble_eq_true rfl, Nat.le_of_ble_eq_true rfl⟩ ⟨Nat.le_of_ble_eq_true rfl, Nat.le_of_ble_eq_true rfl⟩ rfl dX4_mark_2 ?_ (r_kr (fun r C' ad' H locs hQ hS => ?_))
  · -- thrown
    intro E ce q9 C9 ad9 H locs hX9 hS hce hcv hcl
    obtain ⟨⟨rfl, hno⟩, rfl, rfl⟩ := hX9
    exact r_out hex hlocks hS hce hcv hcl (xM.mk (n := 1) (sMark_1 hno) (by decide) hI) (Nat.le_of_ble_eq_true rfl) (Nat.le_of_ble_eq_true rfl)
  obtain ⟨⟨j, hixj, rfl⟩, rfl, rfl⟩ := hQ
  have hj : j < (nC T) := ixO_lt hixj
  have hjn := hI.cn hj
  have hs0 := sMark_0 (w := w) hixj
  have hu := up_mark hI w hj
  refine lv_astore_n (lv' := [(3, .ref (ad 4 j)), (0, .ref (ad 0 0)), (1, .int a), (2, .int (bI w))]) hx hb dX4_mark_5 rfl hl (by decide) rfl (fun ls hl => ?_)
  refine lv_aload_n hx hb dX4_mark_6 rfl (lv_at hl 0 rfl) ?_
  refine gf_X4_124 hx hb hown hK hS (hI.coin hj) rfl dX4_mark_7 ?_
  refine r_ifnonnullq (tgt := 23) hx hb dX4_mark_10 (by decide) (fun x10 q10 => ?_) (fun q10 => ?_)
  · -- T
    have h8 : ¬ T 8 j = 0 := fun e => by rw [if_pos e] at q10; cases q10
    refine lv_aload_n hx hb dX4_mark_23 rfl (lv_at hl 0 rfl) ?_
    refine gf_X4_178 hx hb hown hK hS (hI.coin hj) rfl dX4_mark_24 ?_
    refine lv_istore (lv' := [(4, .int (nI (T 21 j))), (3, .ref (ad 4 j)), (0, .ref (ad 0 0)), (1, .int a), (2, .int (bI w))]) hx hb dX4_mark_27 hl (by decide) rfl (fun ls hl => ?_)
    refine lv_aload_n hx hb dX4_mark_29 rfl (lv_at hl 1 rfl) ?_
    refine lv_iload_n hx hb dX4_mark_30 rfl (lv_at hl 4 rfl) ?_
    refine pf_X4_178 hx hb hown hK hS (hI.coin hj) (by cases w <;> rfl) (by cases w <;> rfl) (fs' := [.int (nI j), .ref (ad 1 (T 5 j)), .int (nI (T 6 j)), va_rf (if T 8 j = 0 then none else some (ad 5 (T 8 j - 1))), .int (nI (T 7 j)), .int (bI w)]) (Nat.le_of_ble_eq_true rfl) rfl dX4_mark_31 (fun H locs hS => ?_)
    refine lv_iload hx hb dX4_mark_34 (lv_at hl 0 rfl) ?_
    refine vx_ret ?_
    exact r_zret hx hb hr hlocks hS (by rw [c01 hjn.2.2.2.2.1]; exact bI_z _) (pM.mk ((hs0.trans (if_neg h8)).trans (by rw [c01 hjn.2.2.2.2.1, hjn.2.2.2.2.2.2 h8])) (by unfold coO at hu; rw [show markT T j w 21 j = wN w from ru_e, ← wN_i] at hu; exact hu) (cFr.ru1 (by decide))) (Nat.le_of_ble_eq_true rfl) (Nat.le_of_ble_eq_true rfl) dX4_mark_36
  · -- F
    have h8 : T 8 j = 0 := by
      by_cases e : T 8 j = 0
      · exact e
      · rw [if_neg e] at q10; cases q10
    exact th_X4_68_176 hx hb hlt hown hK hZ hS (by rw [hml]; exact hl.1) dX4_mark_13 dX4_mark_16 dX4_mark_17 dX4_mark_19 dX4_mark_22 hex (Nat.le_of_ble_eq_true rfl) (Nat.le_of_ble_eq_true rfl) (Nat.le_of_ble_eq_true rfl) (Nat.le_of_ble_eq_true rfl) hlocks (xM.mk (n := 2) (hs0.trans (if_pos h8)) (by decide) hI) (Nat.le_of_ble_eq_true rfl) (Nat.le_of_ble_eq_true rfl)
