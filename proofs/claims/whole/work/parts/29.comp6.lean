/-! coins struck (printed by wip/whole/gen/comp6.py) -/
theorem b1 {b : Int32} (h : ¬ 1 ≤ b.toInt ∨ 21 ≤ b.toInt) : ixO b 21 = none ∨ ixO b 21 = some 0 := by
  unfold ixO
  by_cases e : 0 ≤ b.toInt ∧ b.toInt < (21 : Nat)
  · rw [if_pos e]
    right
    congr 1
    omega
  · rw [if_neg e]
    exact Or.inl rfl
def strikeI (T : rTab) (d : Nat) : Nat → rTab
  | 0 => T
  | i + 1 => coinT (strikeI T d i) d
def strikeT (T : rTab) (d n : Nat) : rTab := ru (ru (strikeI T d n) 3 d (T 3 d + n)) 20 d (T 20 d + n)
def dcN (T : rTab) (d : Nat) : Nat := cntB (fun j => decide (T 5 j = d)) (nC T)
def sStrike (T : rTab) (a b : Int32) : sR := match ixO a (nD T) with
  | none => (1, 0, T)
  | some d => match ixO b 21 with
    | none => (2, 0, T)
    | some n => if n = 0 then (2, 0, T) else if T 4 d = 1 ∨ 40 < dcN T d + n ∨ 150 < nC T + n then (3, 0, T) else (0, nI (nC T), strikeT T d n)
theorem sStrike_1 {T : rTab} {a b : Int32} (h : ixO a (nD T) = none) : sStrike T a b = (1, 0, T) := by
  unfold sStrike
  rw [h]
theorem sStrike_2 {T : rTab} {a b : Int32} {d : Nat} (h : ixO a (nD T) = some d) (h2 : ixO b 21 = none) : sStrike T a b = (2, 0, T) := by
  unfold sStrike
  rw [h]
  show (match ixO b 21 with | none => _ | some x => _) = _
  rw [h2]
theorem sStrike_n {T : rTab} {a b : Int32} {d n : Nat} (h : ixO a (nD T) = some d) (h2 : ixO b 21 = some n) : sStrike T a b = if n = 0 then (2, 0, T) else if T 4 d = 1 ∨ 40 < dcN T d + n ∨ 150 < nC T + n then (3, 0, T) else (0, nI (nC T), strikeT T d n) := by
  unfold sStrike
  rw [h]
  show (match ixO b 21 with | none => _ | some x => _) = _
  rw [h2]
theorem strikeI_C (T : rTab) (d i : Nat) : nC (strikeI T d i) = nC T + i := by
  induction i with
  | zero => rfl
  | succ i ih => exact coinT_C.trans (by rw [ih]; rfl)
theorem strikeI_D (T : rTab) (d i : Nat) : nD (strikeI T d i) = nD T := by
  induction i with
  | zero => rfl
  | succ i ih => exact coinT_D.trans ih
theorem strikeI_S (T : rTab) (d i : Nat) : nS (strikeI T d i) = nS T := by
  induction i with
  | zero => rfl
  | succ i ih => exact coinT_S.trans ih
theorem strikeI_k (T : rTab) (d i : Nat) {a : Nat} (h0 : a ≠ 0) (h5 : a ≠ 5) (h6 : a ≠ 6) (h7 : a ≠ 7) (h8 : a ≠ 8) (h9 : a ≠ 9) (h21 : a ≠ 21) : strikeI T d i a = T a := by
  induction i with
  | zero => rfl
  | succ i ih => exact (coinT_k h0 h5 h6 h7 h8 h9 h21).trans ih
theorem coinT_dc {T : rTab} {d x : Nat} : dcN (coinT T d) x = dcN T x + (if x = d then 1 else 0) := by
  unfold dcN
  rw [coinT_C]
  show cntB _ (nC T) + (if decide (coinT T d 5 (nC T) = x) = true then 1 else 0) = _
  rw [coinT_5, cntB_congr (q := fun j => decide (T 5 j = x)) (fun j hj => by rw [coinT_i (by decide) (by omega)])]
  by_cases e : x = d
  · rw [if_pos e, if_pos (decide_eq_true e.symm)]
  · rw [if_neg e, if_neg (by rw [decide_eq_false (fun z => e z.symm)]; exact Bool.false_ne_true)]
theorem strikeI_dc {T : rTab} {d i : Nat} : dcN (strikeI T d i) d = dcN T d + i := by
  induction i with
  | zero => rfl
  | succ i ih =>
    show dcN (coinT (strikeI T d i) d) d = _
    rw [coinT_dc, ih, if_pos rfl]
    rfl
theorem coinT_rar {T : rTab} {d x : Nat} (h4 : T 4 d = 0) : rar (coinT T d) x = rar T x + (if x = d then 1 else 0) := by
  unfold rar
  rw [coinT_C]
  show cntB _ (nC T) + (if rarAt (coinT T d) x (nC T) = true then 1 else 0) = _
  have ht : tru (coinT T d) (nC T) = true := tru_1 coinT_7 (by rw [coinT_5, coinT_k (by decide) (by decide) (by decide) (by decide) (by decide) (by decide) (by decide)]; exact h4)
  have hr : rarAt (coinT T d) x (nC T) = decide (d = x) := by
    unfold rarAt
    rw [ht, coinT_5, Bool.and_true]
  rw [hr, cntB_congr (q := rarAt T x) (fun j hj => by
    unfold rarAt
    rw [coinT_i (by decide) (by omega), tru_congr (coinT_i (by decide) (by omega)) (coinT_i (by decide) (by omega)) (congrFun (coinT_k (by decide) (by decide) (by decide) (by decide) (by decide) (by decide) (by decide)) _)])]
  by_cases e : x = d
  · rw [if_pos e, if_pos (decide_eq_true e.symm)]
  · rw [if_neg e, if_neg (by rw [decide_eq_false (fun z => e z.symm)]; exact Bool.false_ne_true)]
theorem strikeI_rar {T : rTab} {d x i : Nat} (h4 : T 4 d = 0) : rar (strikeI T d i) x = rar T x + (if x = d then i else 0) := by
  induction i with
  | zero =>
    show rar T x = _
    split <;> rfl
  | succ i ih =>
    show rar (coinT (strikeI T d i) d) x = _
    rw [coinT_rar (by rw [strikeI_k T d i (by decide) (by decide) (by decide) (by decide) (by decide) (by decide) (by decide)]; exact h4), ih]
    split <;> rfl
theorem dc_len {G : rG} {T : rTab} {L : rL} {C : rC} {ad : rA} (h : cInvW G T L C ad) {d : Nat} (hd : d < nD T) : (L.1 11 d).length = dcN T d := by
  rw [(h.hdc hd).1]
  exact flt_len _
section SK
variable {G : rG} {T : rTab} {L : rL} {C C' : rC} {ad ad' : rA}
theorem coinT_nu (h : cNu T) {d : Nat} (hd : d < nD T) (hC : nC T < 150) : cNu (coinT T d) := by
  obtain ⟨a, b, c, e, f, g⟩ := h
  refine cNu.mk _ (by rw [coinT_D]; exact a) (by rw [coinT_C]; omega) (by rw [coinT_S]; exact c) (fun i hi => ?_) (fun j hj => ?_) (fun k hk => ?_)
  · rw [coinT_D] at hi
    rw [coinT_k (by decide) (by decide) (by decide) (by decide) (by decide) (by decide) (by decide), coinT_k (by decide) (by decide) (by decide) (by decide) (by decide) (by decide) (by decide), coinT_k (by decide) (by decide) (by decide) (by decide) (by decide) (by decide) (by decide)]
    exact e i hi
  · rw [coinT_C] at hj
    rw [coinT_D]
    by_cases q : j = nC T
    · rw [q, coinT_5, coinT_6, coinT_7, coinT_8, coinT_21, coinT_9]
      exact ⟨hd, (e d hd).2.1, by decide, by decide, by decide, fun _ => rfl, fun _ => rfl⟩
    · rw [coinT_i (by decide) q, coinT_i (by decide) q, coinT_i (by decide) q, coinT_i (by decide) q, coinT_i (by decide) q, coinT_i (by decide) q]
      exact f j (by omega)
  · rw [coinT_k (by decide) (by decide) (by decide) (by decide) (by decide) (by decide) (by decide), coinT_k (by decide) (by decide) (by decide) (by decide) (by decide) (by decide) (by decide)]
    exact g k hk
theorem coinT_ho (h : cInvW G T L C ad) {d : Nat} (hd : d < nD T) (hC : nC T < 150) (h40 : dcN T d < 40) {m1 m2 : Int32} : cHo (coinT T d) (lUp (lUp L 12 0 (L.1 12 0 ++ [nC T]) (lCap (L.1 12 0).length (L.2.1 12 0)) m1) 11 d (L.1 11 d ++ [nC T]) (lCap (L.1 11 d).length (L.2.1 11 d)) m2) := by
  obtain ⟨a1, a2, a3, a4, a5, a6, a7, a8⟩ := h.2.2.2
  have n1 : ∀ {a b : Nat} {xs ys : List Nat} {c1 c2 : Nat}, a ≠ 12 → ¬ (a = 11 ∧ b = d) → (lUp (lUp L 12 0 xs c1 m1) 11 d ys c2 m2).1 a b = L.1 a b ∧ (lUp (lUp L 12 0 xs c1 m1) 11 d ys c2 m2).2.1 a b = L.2.1 a b := fun h1 h2 => ⟨(lUp_n1 h2).trans (lUp_n1 (fun z => h1 z.1)), (lUp_n2 h2).trans (lUp_n2 (fun z => h1 z.1))⟩
  have hsh := (h.dcoins hd).2.2.1
  have hcs := h.coins.2.2.1
  unfold cHo
  rw [coinT_D, coinT_S, coinT_C, coinT_k (a := 12) (by decide) (by decide) (by decide) (by decide) (by decide) (by decide) (by decide), coinT_k (a := 13) (by decide) (by decide) (by decide) (by decide) (by decide) (by decide) (by decide)]
  refine ⟨?_, ?_, ?_, fun i hi => ?_, fun k hk => ?_, fun k hk => ?_, fun q hq => ?_, fun q hq => ?_⟩
  · rw [(n1 (by decide) (fun z => absurd z.1 (by decide))).1, (n1 (by decide) (fun z => absurd z.1 (by decide))).2]
    exact a1
  · rw [show (lUp (lUp L 12 0 (L.1 12 0 ++ [nC T]) (lCap (L.1 12 0).length (L.2.1 12 0)) m1) 11 d (L.1 11 d ++ [nC T]) (lCap (L.1 11 d).length (L.2.1 11 d)) m2).1 12 0 = L.1 12 0 ++ [nC T] from (lUp_n1 (fun z => absurd z.1 (by decide))).trans lUp_e1, show (lUp (lUp L 12 0 (L.1 12 0 ++ [nC T]) (lCap (L.1 12 0).length (L.2.1 12 0)) m1) 11 d (L.1 11 d ++ [nC T]) (lCap (L.1 11 d).length (L.2.1 11 d)) m2).2.1 12 0 = lCap (L.1 12 0).length (L.2.1 12 0) from (lUp_n2 (fun z => absurd z.1 (by decide))).trans lUp_e2]
    exact ⟨by rw [a2.1, List.range_succ], capB_add a2.2 (by rw [h.lcoins]; exact hC) hcs⟩
  · rw [(n1 (by decide) (fun z => absurd z.1 (by decide))).1, (n1 (by decide) (fun z => absurd z.1 (by decide))).2]
    exact a3
  · have hf : ∀ x, (List.range (nC T)).filter (fun j => decide (coinT T d 5 j = x)) = (List.range (nC T)).filter (fun j => decide (T 5 j = x)) := fun x => List.filter_congr fun j hj => by
      have := List.mem_range.mp hj
      rw [coinT_i (by decide) (by omega)]
    rw [List.range_succ, List.filter_append, hf]
    by_cases e : i = d
    · subst e
      rw [lUp_e1, lUp_e2, show List.filter (fun j => decide (coinT T i 5 j = i)) [nC T] = [nC T] from List.filter_cons_of_pos (decide_eq_true coinT_5)]
      refine ⟨by rw [(a4 i hi).1], ?_, capB_add (a4 i hi).2.2 (by rw [dc_len h hd]; exact h40) hsh⟩
      rw [List.length_append, dc_len h hd]
      exact h40
    · rw [(n1 (by decide) (fun z => e z.2)).1, (n1 (by decide) (fun z => e z.2)).2, show List.filter (fun j => decide (coinT T d 5 j = i)) [nC T] = [] from List.filter_cons_of_neg (by rw [decide_eq_false (fun z => e (z.symm.trans coinT_5))]; exact Bool.false_ne_true)]
      refine ⟨?_, (a4 i hi).2⟩
      rw [(a4 i hi).1]
      exact (List.append_nil _).symm
  · rw [(n1 (by decide) (fun z => absurd z.1 (by decide))).1, (n1 (by decide) (fun z => absurd z.1 (by decide))).2]
    refine ⟨(a5 k hk).1, fun j => ?_, (a5 k hk).2.2⟩
    rw [(a5 k hk).2.1 j]
    by_cases e : j = nC T
    · rw [e, coinT_8]
      omega
    · rw [coinT_i (by decide) e]
      omega
  · rw [(n1 (by decide) (fun z => absurd z.1 (by decide))).1, (n1 (by decide) (fun z => absurd z.1 (by decide))).2]
    exact ⟨fun j hj => Nat.lt_succ_of_lt ((a6 k hk).1 j hj), (a6 k hk).2⟩
  · rw [(n1 (by decide) (fun z => absurd z.1 (by decide))).1, (n1 (by decide) (fun z => absurd z.1 (by decide))).2, (n1 (by decide) (fun z => absurd z.1 (by decide))).1, (n1 (by decide) (fun z => absurd z.1 (by decide))).2]
    exact ⟨(a7 q hq).1, fun j hj => Nat.lt_succ_of_lt ((a7 q hq).2.1 j hj), (a7 q hq).2.2⟩
  · rw [(n1 (by decide) (fun z => absurd z.1 (by decide))).1, (n1 (by decide) (fun z => absurd z.1 (by decide))).1]
    exact a8 q hq
/-- the count of strikes and the true coins, at the end -/
theorem strike_end (h : cInv G T L C ad) {d n : Nat} (hd : d < nD T) (h4 : T 4 d = 0) {L' : rL} (hw : cInvW G (strikeI T d n) L' C' ad') : cInv G (strikeT T d n) L' (ru C' 1 d (some (diO (strikeT T d n) ad' d))) ad' := by
  have hk : ∀ a, a ≠ 3 → a ≠ 20 → strikeT T d n a = strikeI T d n a := fun a g1 g2 => (ruK g2).trans (ruK g1)
  have hD : nD (strikeT T d n) = nD (strikeI T d n) := congrFun (hk 0 (by decide) (by decide)) 0
  refine ⟨hw.up (hk 0 (by decide) (by decide)) (hk 5 (by decide) (by decide)) (hk 8 (by decide) (by decide)) (hk 12 (by decide) (by decide)) (hk 13 (by decide) (by decide)) (ru_ge (by decide)) (hw.1.die1 (hk 0 (by decide) (by decide)) (by rw [strikeI_D]; exact hd) rfl (fun i hi => diO_eq (congrFun (hk 1 (by decide) (by decide)) i) (congrFun (hk 2 (by decide) (by decide)) i) (congrFun (hk 4 (by decide) (by decide)) i) ((ru_i hi).trans (ru_k (by decide)))) (fun j => rfl) (fun k => rfl)) hw.2.2.1, ?_⟩
  intro i hi
  rw [hD, strikeI_D] at hi
  show strikeT T d n 20 i = rar (strikeI T d n) i
  rw [strikeI_rar h4]
  by_cases e : i = d
  · subst e
    rw [if_pos rfl]
    unfold strikeT
    rw [ru_e, h.2 i hi]
  · rw [if_neg e]
    unfold strikeT
    rw [ru_i e, ru_k (by decide), strikeI_k T d n (by decide) (by decide) (by decide) (by decide) (by decide) (by decide) (by decide)]
    exact h.2 i hi
end SK

theorem b23 {T : rTab} {a b : Int32} {d : Nat} (h : ixO a (nD T) = some d) (hb : ¬ 1 ≤ b.toInt ∨ 21 ≤ b.toInt) : sStrike T a b = (2, 0, T) := by
  rcases b1 hb with e | e
  · exact sStrike_2 h e
  · exact (sStrike_n h e).trans (if_pos rfl)
theorem b2 {T : rTab} {a b : Int32} {d : Nat} (h : ixO a (nD T) = some d) (hb : b < nI 1) : sStrike T a b = (2, 0, T) := b23 h (Or.inl (by
  have h1 : b.toInt < 1 := Int32.lt_iff_toInt_lt.mp hb
  omega))
theorem b3 {T : rTab} {a b : Int32} {d : Nat} (h : ixO a (nD T) = some d) (hb : ¬ b ≤ nI 20) : sStrike T a b = (2, 0, T) := b23 h (Or.inr (by
  have h1 : ¬ b.toInt ≤ 20 := fun z => hb (Int32.le_iff_toInt_le.mpr z)
  omega))
theorem b4 {b : Int32} (h1 : ¬ b < nI 1) (h2 : b ≤ nI 20) : ∃ n, n < 21 ∧ n ≠ 0 ∧ b = nI n ∧ ixO b 21 = some n := by
  have g1 : ¬ b.toInt < 1 := fun z => h1 (Int32.lt_iff_toInt_lt.mpr z)
  have g2 : b.toInt ≤ 20 := Int32.le_iff_toInt_le.mp h2
  refine ⟨b.toInt.toNat, by omega, by omega, ?_, ?_⟩
  · rw [← Int32.toInt_inj, nI_toInt (by omega)]
    omega
  · unfold ixO
    rw [if_pos (by omega)]

set_option maxHeartbeats 4000000 in
set_option maxRecDepth 100000 in
theorem c_X0_init {G : rG} {l : Launch} {C : rC} {ad : rA} {j d : Nat} {v0 v1 v2 v3 v4 v5 u0 u1 u2 u4 u5 u6 : Value} {df n : Int32} (hc : C 4 j = some (.inr (1, [v0, v1, v2, v3, v4, v5]))) (hd : C 1 d = some (.inr (3, [u0, u1, u2, .int df, u4, u5, u6]))) : rMet G l yX0_init cX0_init 3 none (rmP 3) [.ref (ad 4 j), .int n, .ref (ad 1 d)] C ad (rVoid fun C' ad' => ru C 4 j (some (.inr (1, [.int n, .ref (ad 1 d), .int df, v3, v4, v5]))) = C' ∧ ad = ad') := by
  refine rMet.of (by decide) ?_
  intro p e s m below meth c hx hb hml hr hlocks hown hname hK hZ hS
  have hown : s.vm.findClass RX0 = some m.cls := hown
  have hA : ∀ q : Nat, s.heap.size ≤ q → (rF C ad s.heap.size) q := rF.new
  refine r_entry _ (Nat.le_of_ble_eq_true rfl) (fun ls hl => ?_)
  have hl : lv_has ls 3 [(0, .ref (ad 4 j)), (1, .int n), (2, .ref (ad 1 d))] := hl
  refine lv_aload_n hx hb dX0_init_0 rfl (lv_at hl 0 rfl) ?_
  refine oi_X0_3 hx hb hown hK (by rw [hml]; exact hl.1) dX0_init_1 (Nat.le_of_ble_eq_true rfl) (Nat.le_of_ble_eq_true rfl) ?_
  refine lv_aload_n hx hb dX0_init_4 rfl (lv_at hl 0 rfl) ?_
  refine lv_iload_n hx hb dX0_init_5 rfl (lv_at hl 1 rfl) ?_
  refine pf_X0_9 hx hb hown hK hS hname hc rfl rfl (fs' := [.int n, v1, v2, v3, v4, v5]) (Nat.le_of_ble_eq_true rfl) rfl dX0_init_6 (fun H locs hS => ?_)
  refine lv_aload_n hx hb dX0_init_9 rfl (lv_at hl 0 rfl) ?_
  refine lv_aload_n hx hb dX0_init_10 rfl (lv_at hl 2 rfl) ?_
  refine pf_X0_15 hx hb hown hK hS hname ru_e rfl rfl (fs' := [.int n, .ref (ad 1 d), v2, v3, v4, v5]) (Nat.le_of_ble_eq_true rfl) rfl dX0_init_11 (fun H locs hS => ?_)
  rw [ru_ru] at hS
  refine lv_aload_n hx hb dX0_init_14 rfl (lv_at hl 0 rfl) ?_
  refine lv_aload_n hx hb dX0_init_15 rfl (lv_at hl 2 rfl) ?_
  refine gf_X0_19 hx hb hown hK hS ((ru_k (by decide)).trans hd) rfl dX0_init_16 ?_
  refine pf_X0_24 hx hb hown hK hS hname ru_e rfl rfl (fs' := [.int n, .ref (ad 1 d), .int df, v3, v4, v5]) (Nat.le_of_ble_eq_true rfl) rfl dX0_init_19 (fun H locs hS => ?_)
  rw [ru_ru] at hS
  exact r_vret hx hb hr hlocks hS (⟨rfl, rfl, rfl⟩) (Nat.zero_le _) (Nat.zero_le _) dX0_init_22

set_option maxHeartbeats 4000000 in
set_option maxRecDepth 100000 in
theorem c_X4_strike {G : rG} {l : Launch} {T : rTab} {L : rL} {C : rC} {ad : rA} (hlt : l.stackTraces = false) (hI : cInv G T L C ad) (a b : Int32) : rMetX G l yX4_strike cX4_strike 7 (some .int) (rmM 10 62 6240) [.ref (ad 0 0), .int a, .int b] C ad (pM G C ad (sStrike T a b)) (xM G C ad (sStrike T a b) ec3) := by
  refine rMetX.of (by decide) ?_
  intro p e s m below meth c hx hb hml hr hlocks hown hname hK hZ hS hex
  have hown : s.vm.findClass RX4 = some m.cls := hown
  have hA : ∀ q : Nat, s.heap.size ≤ q → (rF C ad s.heap.size) q := rF.new
  refine r_entry _ (Nat.le_of_ble_eq_true rfl) (fun ls hl => ?_)
  have hl : lv_has ls 7 [(0, .ref (ad 0 0)), (1, .int a), (2, .int b)] := hl
  refine lv_aload_n hx hb dX4_strike_0 rfl (lv_at hl 0 rfl) ?_
  refine lv_iload_n hx hb dX4_strike_1 rfl (lv_at hl 1 rfl) ?_
  refine cl_X4_49 hx hb hml hown hK hZ hS hA (c_X4_theDie hlt hI a) hI.reg rfl hl.1 (Nat.le_of_ble_eq_true rfl) ⟨Nat.le_of_ble_eq_true rfl, Nat.le_of_ble_eq_true rfl⟩ ⟨Nat.le_of_ble_eq_true rfl, Nat.le_of_ble_eq_true rfl⟩ rfl dX4_strike_2 ?_ (r_kr (fun r C' ad' H locs hQ hS => ?_))
  · -- thrown
    intro E ce q9 C9 ad9 H locs hX9 hS hce hcv hcl
    obtain ⟨⟨rfl, hno⟩, rfl, rfl⟩ := hX9
    exact r_out hex hlocks hS hce hcv hcl (xM.mk (n := 1) (sStrike_1 hno) (by decide) hI) (Nat.le_of_ble_eq_true rfl) (Nat.le_of_ble_eq_true rfl)
  obtain ⟨⟨d, hixd, rfl⟩, rfl, rfl⟩ := hQ
  have hd : d < (nD T) := ixO_lt hixd
  have hdn := hI.dn hd
  have hC := hI.hC
  refine lv_astore_n (lv' := [(3, .ref (ad 1 d)), (0, .ref (ad 0 0)), (1, .int a), (2, .int b)]) hx hb dX4_strike_5 rfl hl (by decide) rfl (fun ls hl => ?_)
  refine lv_iload_n hx hb dX4_strike_6 rfl (lv_at hl 3 rfl) ?_
  refine lv_iconst (v := nI 1) hx hb dX4_strike_7 (by decide) ?_
  refine lv_icmp_lt (tgt := 17) hx hb dX4_strike_8 (by decide) (fun q8 => ?_) (fun q8 => ?_)
  · -- T
    exact th_X4_53_79 hx hb hlt hown hK hZ hS (by rw [hml]; exact hl.1) dX4_strike_17 dX4_strike_20 dX4_strike_21 dX4_strike_23 dX4_strike_26 hex (Nat.le_of_ble_eq_true rfl) (Nat.le_of_ble_eq_true rfl) (Nat.le_of_ble_eq_true rfl) (Nat.le_of_ble_eq_true rfl) hlocks (xM.mk (n := 2) (b2 hixd q8) (by decide) hI) (Nat.le_of_ble_eq_true rfl) (Nat.le_of_ble_eq_true rfl)
  · -- F
    refine lv_iload_n hx hb dX4_strike_11 rfl (lv_at hl 3 rfl) ?_
    refine lv_bipush (v := nI 20) hx hb dX4_strike_12 (by decide) ?_
    refine lv_icmp_le (tgt := 27) hx hb dX4_strike_14 (by decide) (fun q14 => ?_) (fun q14 => ?_)
    · -- T
      obtain ⟨n, hn21, hn0, rfl, hixn⟩ := b4 q8 q14
      have hs0 := (sStrike_n hixd hixn).trans (if_neg hn0)
      refine lv_aload_n hx hb dX4_strike_27 rfl (lv_at hl 1 rfl) ?_
      refine gf_X4_16 hx hb hown hK hS hI.reg rfl dX4_strike_28 ?_
      refine cl_X4_81 hx hb hml hown hK hZ hS hA (l_size (hI.coins)) ((hI.coins).1) rfl hl.1 (Nat.le_of_ble_eq_true rfl) ⟨Nat.le_of_ble_eq_true rfl, Nat.le_of_ble_eq_true rfl⟩ ⟨Nat.le_of_ble_eq_true rfl, Nat.le_of_ble_eq_true rfl⟩ rfl dX4_strike_31 (r_kp (fun H locs hS => ?_))
      refine r_top (y := nI (nC T)) (by rw [hI.lcoins]) ?_
      refine lv_istore (lv' := [(4, .int (nI (nC T))), (3, .ref (ad 1 d)), (0, .ref (ad 0 0)), (1, .int a), (2, .int (nI n))]) hx hb dX4_strike_34 hl (by decide) rfl (fun ls hl => ?_)
      refine lv_aload_n hx hb dX4_strike_36 rfl (lv_at hl 1 rfl) ?_
      refine gf_X4_58 hx hb hown hK hS (hI.die hd) rfl dX4_strike_37 ?_
      refine r_if_ne (a := T 4 d) (tgt := 67) hx hb (by omega) dX4_strike_40 (by decide) (fun q40 => ?_) (fun q40 => ?_)
      · -- T
        have hs := hs0.trans (if_pos (Or.inl (show T 4 d = 1 by omega)))
        exact th_X4_68_86 hx hb hlt hown hK hZ hS (by rw [hml]; exact hl.1) dX4_strike_67 dX4_strike_70 dX4_strike_71 dX4_strike_73 dX4_strike_76 hex (Nat.le_of_ble_eq_true rfl) (Nat.le_of_ble_eq_true rfl) (Nat.le_of_ble_eq_true rfl) (Nat.le_of_ble_eq_true rfl) hlocks (xM.mk (n := 3) hs (by decide) hI) (Nat.le_of_ble_eq_true rfl) (Nat.le_of_ble_eq_true rfl)
      · -- F
        refine lv_aload_n hx hb dX4_strike_43 rfl (lv_at hl 1 rfl) ?_
        refine gf_X4_85 hx hb hown hK hS (hI.die hd) rfl dX4_strike_44 ?_
        refine cl_X4_81 hx hb hml hown hK hZ hS hA (l_size (hI.dcoins hd)) ((hI.dcoins hd).1) rfl hl.1 (Nat.le_of_ble_eq_true rfl) ⟨Nat.le_of_ble_eq_true rfl, Nat.le_of_ble_eq_true rfl⟩ ⟨Nat.le_of_ble_eq_true rfl, Nat.le_of_ble_eq_true rfl⟩ rfl dX4_strike_47 (r_kp (fun H locs hS => ?_))
        refine r_top (y := nI (dcN T d)) (by rw [dc_len hI.1 hd]) ?_
        refine lv_iload_n hx hb dX4_strike_50 rfl (lv_at hl 4 rfl) ?_
        refine lv_iadd hx hb dX4_strike_51 ?_
        refine r_top (nI_add _ _) ?_
        refine lv_bipush (v := nI 40) hx hb dX4_strike_52 (by decide) ?_
        have hdc40 : dcN T d ≤ 40 := by rw [← dc_len hI.1 hd]; exact (hI.hdc hd).2.1
        refine r_icmp_gt (a := dcN T d + n) (b := 40) (tgt := 67) hx hb (by omega) (by omega) dX4_strike_54 (by decide) (fun q54 => ?_) (fun q54 => ?_)
        · -- T
          have hs := hs0.trans (if_pos (Or.inr (Or.inl q54)))
          exact th_X4_68_86 hx hb hlt hown hK hZ hS (by rw [hml]; exact hl.1) dX4_strike_67 dX4_strike_70 dX4_strike_71 dX4_strike_73 dX4_strike_76 hex (Nat.le_of_ble_eq_true rfl) (Nat.le_of_ble_eq_true rfl) (Nat.le_of_ble_eq_true rfl) (Nat.le_of_ble_eq_true rfl) hlocks (xM.mk (n := 3) hs (by decide) hI) (Nat.le_of_ble_eq_true rfl) (Nat.le_of_ble_eq_true rfl)
        · -- F
          refine lv_iload hx hb dX4_strike_57 (lv_at hl 0 rfl) ?_
          refine lv_iload_n hx hb dX4_strike_59 rfl (lv_at hl 4 rfl) ?_
          refine lv_iadd hx hb dX4_strike_60 ?_
          refine r_top (nI_add _ _) ?_
          refine lv_sipush (v := nI 150) hx hb dX4_strike_61 (by decide) ?_
          refine r_icmp_le (a := nC T + n) (b := 150) (tgt := 77) hx hb (by omega) (by omega) dX4_strike_64 (by decide) (fun q64 => ?_) (fun q64 => ?_)
          · -- T
            have h4 : T 4 d = 0 := q40
            have hs := hs0.trans (if_neg (fun z => by omega))
            refine lv_iconst (v := nI 0) hx hb dX4_strike_77 (by decide) ?_
            refine lv_istore (lv' := [(5, .int (nI 0)), (4, .int (nI (nC T))), (3, .ref (ad 1 d)), (0, .ref (ad 0 0)), (1, .int a), (2, .int (nI n))]) hx hb dX4_strike_78 hl (by decide) rfl (fun ls hl => ?_)
            refine r_loop (σ := Nat × rL × rC × rA) (fun ⟨i, L2, C2, ad2⟩ => n - i) (fun ⟨i, L2, C2, ad2⟩ H locs ls => (i ≤ n) ∧ (cInvW G (strikeI T d i) L2 C2 ad2) ∧ (cFr C ad C2 ad2) ∧ rS G.1 (rF C ad s.heap.size) s.heap C2 ad2 H locs ∧ lv_has ls 7 [(5, .int (nI i)), (4, .int (nI (nC T))), (3, .ref (ad2 1 d)), (0, .ref (ad2 0 0)), (2, .int (nI n))]) (fun ⟨i, _, _, _⟩ => 1 + 3 * i) (fun ⟨i, _, _, _⟩ => 6 + 311 * i) (fun z ih H locs ls hI => ?_) (0, L, C, ad) (Nat.le_of_ble_eq_true rfl) (Nat.le_of_ble_eq_true rfl) ⟨Nat.zero_le _, hI.1, cFr.rf, hS, lv_sub hl [0, 1, 2, 3, 5] rfl⟩
            obtain ⟨i, L2, C2, ad2⟩ := z
            obtain ⟨hil, hw, hFr, hS, hl⟩ := hI
            try dsimp only at hil hw hFr hS hl ih ⊢
            refine lv_iload hx hb dX4_strike_80 (lv_at hl 0 rfl) ?_
            refine lv_iload_n hx hb dX4_strike_82 rfl (lv_at hl 4 rfl) ?_
            refine r_icmp_ge (a := i) (b := n) (tgt := 127) hx hb (by omega) (by omega) dX4_strike_83 (by decide) (fun q83 => ?_) (fun q83 => ?_)
            · -- T
              obtain rfl : n = i := by omega
              have hd2 : d < nD (strikeI T d n) := by rw [strikeI_D]; exact hd
              have hu := strike_end hI hd h4 hw
              have h20 : strikeI T d n 20 d = T 20 d := congrFun (strikeI_k T d n (by decide) (by decide) (by decide) (by decide) (by decide) (by decide) (by decide)) d
              refine lv_aload_n hx hb dX4_strike_127 rfl (lv_at hl 2 rfl) ?_
              refine lv_dup hx hb dX4_strike_128 rfl ?_
              refine gf_X4_97 hx hb hown hK hS (hw.die hd2) rfl dX4_strike_129 ?_
              refine lv_iload_n hx hb dX4_strike_132 rfl (lv_at hl 4 rfl) ?_
              refine lv_iadd hx hb dX4_strike_133 ?_
              refine r_top (y := nI (strikeI T d n 20 d + n)) (nI_add _ _) ?_
              refine pf_X4_97 hx hb hown hK hS (hw.die hd2) rfl rfl (fs' := [.int (nI d), .int (nI ((strikeI T d n) 1 d)), .int (nI (valOf ((strikeI T d n) 1 d))), .int (nI ((strikeI T d n) 2 d)), .int (nI ((strikeI T d n) 4 d)), .int (nI (strikeI T d n 20 d + n)), .ref (ad2 11 d)]) (Nat.le_of_ble_eq_true rfl) rfl dX4_strike_134 (fun H locs hS => ?_)
              refine lv_iload hx hb dX4_strike_137 (lv_at hl 1 rfl) ?_
              refine vx_ret ?_
              exact r_iret hx hb hr hlocks hS (pM.mk hs (by unfold diO at hu; rw [show strikeT T d n 20 d = strikeI T d n 20 d + n from ru_e.trans (by rw [h20])] at hu; exact hu) (hFr.tr (cFr.ru1 (by decide)))) (by dsimp only [rmM, rmP]; omega) (by dsimp only [rmM, rmP]; omega) dX4_strike_139
            · -- F
              have hd2 : d < nD (strikeI T d i) := by rw [strikeI_D]; exact hd
              have hCi := strikeI_C T d i
              have h40 : dcN (strikeI T d i) d < 40 := by rw [strikeI_dc]; omega
              obtain ⟨T2, hT2⟩ : ∃ z, strikeI T d i = z := ⟨_, rfl⟩
              rw [hT2] at hw hd2 hCi h40
              have hd3 : d < nD (coinT T2 d) := by rw [coinT_D]; exact hd2
              refine nw_X4_88 hx hb hown hK hS hA 4 (nC T2) (by rw [hw.1.2.2.2.2.1, if_neg (Nat.lt_irrefl _)]) (by dsimp only [rmM, rmP]; omega) (by dsimp only [rmM, rmP]; omega) dX4_strike_86 (fun q3 H hS => ?_)
              obtain ⟨ad3, had3⟩ : ∃ z, z = ru ad2 4 (nC T2) q3 := ⟨_, rfl⟩
              rw [← had3] at hS
              have ead30 : ad2 1 d = ad3 1 d := by rw [had3]; exact (ru_n (fun z => absurd z.1 (by decide))).symm
              try rw [ead30] at hl
              try rw [ead30]
              have ead31 : ad2 0 0 = ad3 0 0 := by rw [had3]; exact (ru_n (fun z => absurd z.1 (by decide))).symm
              try rw [ead31] at hl
              try rw [ead31]
              have qad3 : q3 = ad3 4 (nC T2) := by rw [had3, ru_e]
              try rw [qad3]
              refine lv_dup hx hb dX4_strike_89 rfl ?_
              refine lv_iload hx hb dX4_strike_90 (lv_at hl 1 rfl) ?_
              refine lv_iload hx hb dX4_strike_92 (lv_at hl 0 rfl) ?_
              refine lv_iadd hx hb dX4_strike_94 ?_
              refine r_top (y := nI (nC T2)) ((nI_add _ _).trans (by rw [hCi])) ?_
              refine lv_aload_n hx hb dX4_strike_95 rfl (lv_at hl 2 rfl) ?_
              refine cl_X4_90 hx hb hml hown hK hZ hS hA (c_X0_init ru_e ((ru_k (by decide)).trans (hw.die hd2))) rfl hl.1 (Nat.le_of_ble_eq_true rfl) ⟨Nat.le_of_ble_eq_true rfl, Nat.le_of_ble_eq_true rfl⟩ ⟨(by dsimp only [rmM, rmP]; omega), (by dsimp only [rmM, rmP]; omega)⟩ rfl dX4_strike_96 (r_kv (fun C' ad' H locs hQ hS => ?_))
              obtain ⟨rfl, rfl⟩ := hQ
              rw [ru_ru] at hS
              have hob : cOb G (coinT T2 d) (ru C2 4 (nC T2) (some (.inr (1, [.int (nI (nC T2)), .ref (ad3 1 d), .int (nI (T2 2 d)), .null, .int 0, .int 0])))) ad3 := by subst had3; exact hw.1.coinN
              have hls : cLs G (coinT T2 d) L2 (ru C2 4 (nC T2) (some (.inr (1, [.int (nI (nC T2)), .ref (ad3 1 d), .int (nI (T2 2 d)), .null, .int 0, .int 0])))) ad3 := by subst had3; exact cLs.coinN hw
              have hF3 : cFr C2 ad2 (ru C2 4 (nC T2) (some (.inr (1, [.int (nI (nC T2)), .ref (ad3 1 d), .int (nI (T2 2 d)), .null, .int 0, .int 0])))) ad3 := by subst had3; exact ⟨fun a b ha => ⟨ru_k (by omega), ru_k (by omega)⟩, ru_k (by decide)⟩
              obtain ⟨C4, hC4⟩ : ∃ z, z = ru C2 4 (nC T2) (some (.inr (1, [.int (nI (nC T2)), .ref (ad3 1 d), .int (nI (T2 2 d)), .null, .int 0, .int 0]))) := ⟨_, rfl⟩
              rw [← hC4] at hS hob hls hF3
              refine lv_astore (lv' := [(6, .ref (ad3 4 (nC T2))), (5, .int (nI i)), (4, .int (nI (nC T))), (3, .ref (ad3 1 d)), (0, .ref (ad3 0 0)), (2, .int (nI n))]) hx hb dX4_strike_99 hl (by decide) rfl (fun ls hl => ?_)
              refine lv_aload_n hx hb dX4_strike_101 rfl (lv_at hl 4 rfl) ?_
              refine gf_X4_16 hx hb hown hK hS hob.1 rfl dX4_strike_102 ?_
              refine lv_aload hx hb dX4_strike_105 (lv_at hl 0 rfl) ?_
              refine cl_X4_93 hx hb hml hown hK hZ hS hA (add_coin hob hls (Or.inr (Or.inl ⟨rfl, rfl, rfl⟩)) hls.2.1 (M := 150) (y := nC T2) (by rw [coinT_C]; exact Nat.lt_succ_self _) (fun x hx => by rw [hw.hcoins] at hx; rw [coinT_C]; exact Nat.lt_succ_of_lt (List.mem_range.mp hx)) (Nat.le_refl _) hw.2.2.2.2.1.2 (by rw [hw.lcoins]; omega)) hls.2.1.1 rfl hl.1 (Nat.le_of_ble_eq_true rfl) ⟨Nat.le_of_ble_eq_true rfl, Nat.le_of_ble_eq_true rfl⟩ ⟨(by dsimp only [rmM, rmP]; omega), (by dsimp only [rmM, rmP]; omega)⟩ rfl dX4_strike_107 (r_kr (fun r C5 ad5 H locs hQ hS => ?_))
              obtain ⟨rfl, m1, hob2, hls2, hch2, hF5, hE5⟩ := hQ
              have ead50 : ad3 4 (nC T2) = ad5 4 (nC T2) := (congrFun (hE5 4 (by decide)) (nC T2)).symm
              try rw [ead50] at hl
              try rw [ead50]
              have ead51 : ad3 1 d = ad5 1 d := (congrFun (hE5 1 (by decide)) d).symm
              try rw [ead51] at hl
              try rw [ead51]
              have ead52 : ad3 0 0 = ad5 0 0 := (congrFun (hE5 0 (by decide)) 0).symm
              try rw [ead52] at hl
              try rw [ead52]
              refine lv_pop hx hb dX4_strike_110 rfl ?_
              refine lv_aload_n hx hb dX4_strike_111 rfl (lv_at hl 3 rfl) ?_
              refine gf_X4_85 hx hb hown hK hS ((hob2.2.2.2.1 d).trans (if_pos hd3)) rfl dX4_strike_112 ?_
              refine lv_aload hx hb dX4_strike_115 (lv_at hl 0 rfl) ?_
              refine cl_X4_93 hx hb hml hown hK hZ hS hA (add_coin hob2 hls2 (k := 11) (i := d) (Or.inr (Or.inr (Or.inr (Or.inl ⟨rfl, hd3, rfl⟩)))) (hls2.2.2.2.1 d hd3) (M := 40) (y := nC T2) (by rw [coinT_C]; exact Nat.lt_succ_self _) (fun x hx => by rw [lUp_n1 (fun z => absurd z.1 (by decide)), (hw.hdc hd2).1] at hx; rw [coinT_C]; exact Nat.lt_succ_of_lt (flt_mem.mp hx).1) (by decide) (by rw [lUp_n2 (fun z => absurd z.1 (by decide))]; exact (hw.hdc hd2).2.2) (by rw [lUp_n1 (fun z => absurd z.1 (by decide)), dc_len hw hd2]; exact h40)) ((hls2.2.2.2.1 d hd3).1) rfl hl.1 (Nat.le_of_ble_eq_true rfl) ⟨Nat.le_of_ble_eq_true rfl, Nat.le_of_ble_eq_true rfl⟩ ⟨(by dsimp only [rmM, rmP]; omega), (by dsimp only [rmM, rmP]; omega)⟩ rfl dX4_strike_117 (r_kr (fun r C6 ad6 H locs hQ hS => ?_))
              obtain ⟨rfl, m2, hob3, hls3, hch3, hF6, hE6⟩ := hQ
              have ead60 : ad5 4 (nC T2) = ad6 4 (nC T2) := (congrFun (hE6 4 (by decide)) (nC T2)).symm
              try rw [ead60] at hl
              try rw [ead60]
              have ead61 : ad5 1 d = ad6 1 d := (congrFun (hE6 1 (by decide)) d).symm
              try rw [ead61] at hl
              try rw [ead61]
              have ead62 : ad5 0 0 = ad6 0 0 := (congrFun (hE6 0 (by decide)) 0).symm
              try rw [ead62] at hl
              try rw [ead62]
              rw [lUp_n1 (fun z => absurd z.1 (by decide)), lUp_n2 (fun z => absurd z.1 (by decide))] at hls3
              obtain ⟨L4, hL4⟩ : ∃ z, z = lUp (lUp L2 12 0 (L2.1 12 0 ++ [nC T2]) (lCap (L2.1 12 0).length (L2.2.1 12 0)) m1) 11 d (L2.1 11 d ++ [nC T2]) (lCap (L2.1 11 d).length (L2.2.1 11 d)) m2 := ⟨_, rfl⟩
              have hw2 : cInvW G (strikeI T d (i + 1)) L4 C6 ad6 := by
                show cInvW G (coinT (strikeI T d i) d) L4 C6 ad6
                rw [hT2, hL4]
                exact ⟨hob3, hls3, coinT_nu hw.2.2.1 hd2 (by omega), coinT_ho hw hd2 (by omega) h40⟩
              have hFr2 : cFr C ad C6 ad6 := (hFr.tr hF3).tr (hF5.tr hF6)
              refine lv_pop hx hb dX4_strike_120 rfl ?_
              refine lv_iinc (v := nI (i + 1)) (lv' := [(5, .int (nI (i + 1))), (6, .ref (ad6 4 (nC T2))), (4, .int (nI (nC T))), (3, .ref (ad6 1 d)), (0, .ref (ad6 0 0)), (2, .int (nI n))]) hx hb dX4_strike_121 hl (k := 1) rfl (nI_inc _) (by decide) rfl (fun ls hl => ?_)
              refine lv_goto (tgt := 80) hx hb dX4_strike_124 (by decide) ?_
              refine W.widen (by dsimp only [rmM, rmP]; omega) (by dsimp only [rmM, rmP]; omega) (ih (i + 1, L4, C6, ad6) (show n - (i + 1) < n - i by omega) _ _ _ ⟨(show i + 1 ≤ n by omega), hw2, hFr2, hS, lv_sub hl [0, 2, 3, 4, 5] rfl⟩)
          · -- F
            have hs := hs0.trans (if_pos (Or.inr (Or.inr q64)))
            exact th_X4_68_86 hx hb hlt hown hK hZ hS (by rw [hml]; exact hl.1) dX4_strike_67 dX4_strike_70 dX4_strike_71 dX4_strike_73 dX4_strike_76 hex (Nat.le_of_ble_eq_true rfl) (Nat.le_of_ble_eq_true rfl) (Nat.le_of_ble_eq_true rfl) (Nat.le_of_ble_eq_true rfl) hlocks (xM.mk (n := 3) hs (by decide) hI) (Nat.le_of_ble_eq_true rfl) (Nat.le_of_ble_eq_true rfl)
    · -- F
      exact th_X4_53_79 hx hb hlt hown hK hZ hS (by rw [hml]; exact hl.1) dX4_strike_17 dX4_strike_20 dX4_strike_21 dX4_strike_23 dX4_strike_26 hex (Nat.le_of_ble_eq_true rfl) (Nat.le_of_ble_eq_true rfl) (Nat.le_of_ble_eq_true rfl) (Nat.le_of_ble_eq_true rfl) hlocks (xM.mk (n := 2) (b3 hixd q14) (by decide) hI) (Nat.le_of_ble_eq_true rfl) (Nat.le_of_ble_eq_true rfl)
