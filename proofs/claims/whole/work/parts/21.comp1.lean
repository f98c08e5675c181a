/-! dies and coins: what is read (printed by wip/whole/gen/comp1.py) -/
theorem opt_rf {o : Option Nat} {f : Nat → Nat} : va_rf (o.map f) = match o with | none => .null | some x => .ref (f x) := by cases o <;> rfl
theorem cInv.inj4 {G : rG} {T : rTab} {L : rL} {C : rC} {ad : rA} (hI : cInv G T L C ad) {D : va_G} {A : Nat → Prop} {H0 H : Heap} {locs : List Loc} (hS : rS D A H0 C ad H locs) {i j : Nat} (hi : i < nC T) (hj : j < nC T) (h : ad 4 i = ad 4 j) : i = j := (hS.1.2 _ _ _ _ _ _ (hI.coin hi) (hI.coin hj) h).2
theorem cInv.inj1 {G : rG} {T : rTab} {L : rL} {C : rC} {ad : rA} (hI : cInv G T L C ad) {D : va_G} {A : Nat → Prop} {H0 H : Heap} {locs : List Loc} (hS : rS D A H0 C ad H locs) {i j : Nat} (hi : i < nD T) (hj : j < nD T) (h : ad 1 i = ad 1 j) : i = j := (hS.1.2 _ _ _ _ _ _ (hI.die hi) (hI.die hj) h).2
theorem cInv.inj5 {G : rG} {T : rTab} {L : rL} {C : rC} {ad : rA} (hI : cInv G T L C ad) {D : va_G} {A : Nat → Prop} {H0 H : Heap} {locs : List Loc} (hS : rS D A H0 C ad H locs) {i j : Nat} (hi : i < 8) (hj : j < 8) (h : ad 5 i = ad 5 j) : i = j := (hS.1.2 _ _ _ _ _ _ (hI.col hi) (hI.col hj) h).2
theorem cInv.dcAt {G : rG} {T : rTab} {L : rL} {C : rC} {ad : rA} (hI : cInv G T L C ad) {d : Nat} (hd : d < nD T) {x : Nat} (hx : x < (L.1 11 d).length) : ∃ y, (L.1 11 d)[x]? = some y ∧ y < nC T ∧ T 5 y = d := by
  have h1 : (L.1 11 d)[x]? = some (L.1 11 d)[x] := List.getElem?_eq_getElem hx
  refine ⟨_, h1, ?_, ?_⟩
  · have h4 : ∀ z, z ∈ L.1 11 d → z < nC T := fun z hz => by
      rw [(hI.hdc hd).1] at hz
      exact (flt_mem.mp hz).1
    exact h4 _ (List.mem_of_getElem? h1)
  · have h4 : ∀ z, z ∈ L.1 11 d → T 5 z = d := fun z hz => by
      rw [(hI.hdc hd).1] at hz
      exact of_decide_eq_true (flt_mem.mp hz).2
    exact h4 _ (List.mem_of_getElem? h1)
theorem cInv.dcOf {G : rG} {T : rTab} {L : rL} {C : rC} {ad : rA} (hI : cInv G T L C ad) {d j : Nat} (hd : d < nD T) (hj : j < nC T) (h5 : T 5 j = d) : ∃ x, x < (L.1 11 d).length ∧ (L.1 11 d)[x]? = some j := by
  have h1 : j ∈ L.1 11 d := by
    rw [(hI.hdc hd).1]
    exact flt_mem.mpr ⟨hj, decide_eq_true h5⟩
  obtain ⟨x, hx⟩ := List.mem_iff_getElem?.mp h1
  exact ⟨x, (List.getElem?_eq_some_iff.mp hx).1, hx⟩
theorem cInv.dcLt {G : rG} {T : rTab} {L : rL} {C : rC} {ad : rA} (hI : cInv G T L C ad) {d x y a b : Nat} (hd : d < nD T) (hx : (L.1 11 d)[x]? = some a) (hy : (L.1 11 d)[y]? = some b) (h : a < b) : x < y := by
  rw [(hI.hdc hd).1] at hx hy
  exact flt_lt hx hy h
theorem firstOf_hit {G : rG} {T : rTab} {L : rL} {C : rC} {ad : rA} (hI : cInv G T L C ad) {d st i y : Nat} (hd : d < nD T) (hz : ∀ x a, x < i → (L.1 11 d)[x]? = some a → ¬ T 6 a = st) (hy : (L.1 11 d)[i]? = some y) (hyC : y < nC T) (h5 : T 5 y = d) (h6 : T 6 y = st) : firstOf T d st = some y := by
  refine fstB_some.mpr ⟨hyC, by unfold isFirst; rw [decide_eq_true h5, decide_eq_true h6]; rfl, fun j hj => ?_⟩
  unfold isFirst
  by_cases e5 : T 5 j = d
  · obtain ⟨x, -, hx⟩ := hI.dcOf hd (show j < nC T by omega) e5
    rw [decide_eq_true e5, decide_eq_false (hz x j (hI.dcLt hd hx hy hj) hx)]
    rfl
  · rw [decide_eq_false e5]
    rfl
theorem firstOf_miss {G : rG} {T : rTab} {L : rL} {C : rC} {ad : rA} (hI : cInv G T L C ad) {d st i : Nat} (hd : d < nD T) (hz : ∀ x a, x < i → (L.1 11 d)[x]? = some a → ¬ T 6 a = st) (hi : (L.1 11 d).length ≤ i) : firstOf T d st = none := by
  refine fstB_none.mpr fun j hj => ?_
  unfold isFirst
  by_cases e5 : T 5 j = d
  · obtain ⟨x, hxl, hx⟩ := hI.dcOf hd hj e5
    rw [decide_eq_true e5, decide_eq_false (hz x j (by omega) hx)]
    rfl
  · rw [decide_eq_false e5]
    rfl
theorem firstCoin_hit {G : rG} {T : rTab} {L : rL} {C : rC} {ad : rA} (hI : cInv G T L C ad) {d y : Nat} (hd : d < nD T) (hy : (L.1 11 d)[0]? = some y) (hyC : y < nC T) (h5 : T 5 y = d) : firstCoin T d = some y := by
  refine fstB_some.mpr ⟨hyC, decide_eq_true h5, fun j hj => ?_⟩
  refine decide_eq_false fun e5 => ?_
  obtain ⟨x, -, hx⟩ := hI.dcOf hd (show j < nC T by omega) e5
  exact absurd (hI.dcLt hd hx hy hj) (Nat.not_lt_zero _)
theorem firstCoin_miss {G : rG} {T : rTab} {L : rL} {C : rC} {ad : rA} (hI : cInv G T L C ad) {d : Nat} (hd : d < nD T) (h0 : (L.1 11 d).length = 0) : firstCoin T d = none := by
  refine fstB_none.mpr fun j hj => decide_eq_false fun e5 => ?_
  obtain ⟨x, hxl, -⟩ := hI.dcOf hd hj e5
  omega
theorem stages_end {G : rG} {T : rTab} {L : rL} {C : rC} {ad : rA} (hI : cInv G T L C ad) {d : Nat} (hd : d < nD T) : sumL (fun j => if firstOf T d (T 6 j) = some j then 1 else 0) (L.1 11 d) = stagesN T d := by
  unfold stagesN
  rw [cntB_sum, ← sumN_list (n := nC T) (by rw [(hI.hdc hd).1]; exact flt_nd) (fun j hj => by rw [(hI.hdc hd).1] at hj; exact (flt_mem.mp hj).1)]
  refine sumN_congr fun j hj => ?_
  have e : j ∈ L.1 11 d ↔ T 5 j = d := by
    rw [(hI.hdc hd).1]
    exact ⟨fun q => of_decide_eq_true (flt_mem.mp q).2, fun q => flt_mem.mpr ⟨hj, decide_eq_true q⟩⟩
  unfold stageAt
  by_cases h5 : T 5 j = d
  · rw [if_pos (e.mpr h5), decide_eq_true h5, Bool.true_and]
    by_cases hf : firstOf T d (T 6 j) = some j
    · rw [if_pos hf, decide_eq_true hf, if_pos rfl]
    · rw [if_neg hf, decide_eq_false hf, if_neg Bool.false_ne_true]
  · rw [if_neg (fun q => h5 (e.mp q)), decide_eq_false h5, Bool.false_and, if_neg Bool.false_ne_true]
theorem sum01_le {f : Nat → Nat} (hf : ∀ x, f x ≤ 1) (l : List Nat) : sumL f l ≤ l.length := by
  have := sumL_le hf l
  omega

set_option maxHeartbeats 4000000 in
set_option maxRecDepth 100000 in
theorem c_X2_bit {G : rG} {l : Launch} {T : rTab} {L : rL} {C : rC} {ad : rA} (hI : cInv G T L C ad) {d : Nat} (hd : d < nD T) : rMet G l yX2_bit cX2_bit 1 (some .int) (rmP 1) [.ref (ad 1 d)] C ad (rPure C ad (.int (nI (2 ^ d)))) := by
  refine rMet.of (by decide) ?_
  intro p e s m below meth c hx hb hml hr hlocks hown hname hK hZ hS
  have hown : s.vm.findClass RX2 = some m.cls := hown
  have hA : ∀ q : Nat, s.heap.size ≤ q → (rF C ad s.heap.size) q := rF.new
  refine r_entry _ (Nat.le_of_ble_eq_true rfl) (fun ls hl => ?_)
  have hl : lv_has ls 1 [(0, .ref (ad 1 d))] := hl
  refine lv_iconst (v := nI 1) hx hb dX2_bit_0 (by decide) ?_
  refine lv_aload_n hx hb dX2_bit_1 rfl (lv_at hl 0 rfl) ?_
  refine gf_X2_18 hx hb hown hK hS (hI.die hd) rfl dX2_bit_2 ?_
  refine lv_ishl hx hb dX2_bit_5 ?_
  refine r_top (y := nI (2 ^ d)) (bit_i d (by have := hI.hD; omega)) ?_
  exact r_iret hx hb hr hlocks hS (⟨rfl, rfl, rfl⟩) (Nat.zero_le _) (Nat.zero_le _) dX2_bit_6

set_option maxHeartbeats 4000000 in
set_option maxRecDepth 100000 in
theorem c_X2_valueOf {G : rG} {l : Launch} {C : rC} {ad : rA} {t : Nat} (ht4 : t < 4) : rMet G l yX2_valueOf cX2_valueOf 1 (some .int) (rmP 1) [.int (nI t)] C ad (rPure C ad (.int (nI (valOf t)))) := by
  refine rMet.of (by decide) ?_
  intro p e s m below meth c hx hb hml hr hlocks hown hname hK hZ hS
  have hown : s.vm.findClass RX2 = some m.cls := hown
  have hA : ∀ q : Nat, s.heap.size ≤ q → (rF C ad s.heap.size) q := rF.new
  refine r_entry _ (Nat.le_of_ble_eq_true rfl) (fun ls hl => ?_)
  have hl : lv_has ls 1 [(0, .int (nI t))] := hl
  refine lv_iload_n hx hb dX2_valueOf_0 rfl (lv_at hl 0 rfl) ?_
  rcases (show t = 0 ∨ t = 1 ∨ t = 2 ∨ t = 3 by omega) with qt | qt | qt | qt
  · -- type 0
    rw [qt]
    refine lv_tableIn (tgt := 28) hx hb dX2_valueOf_1 (by decide) (by decide) rfl (by decide) ?_
    refine lv_bipush (v := nI 100) hx hb dX2_valueOf_28 (by decide) ?_
    exact r_iret hx hb hr hlocks hS (⟨rfl, rfl, rfl⟩) (Nat.zero_le _) (Nat.zero_le _) dX2_valueOf_30
  · -- type 1
    rw [qt]
    refine lv_tableIn (tgt := 31) hx hb dX2_valueOf_1 (by decide) (by decide) rfl (by decide) ?_
    refine lv_sipush (v := nI 200) hx hb dX2_valueOf_31 (by decide) ?_
    exact r_iret hx hb hr hlocks hS (⟨rfl, rfl, rfl⟩) (Nat.zero_le _) (Nat.zero_le _) dX2_valueOf_34
  · -- type 2
    rw [qt]
    refine lv_tableIn (tgt := 35) hx hb dX2_valueOf_1 (by decide) (by decide) rfl (by decide) ?_
    refine lv_sipush (v := nI 500) hx hb dX2_valueOf_35 (by decide) ?_
    exact r_iret hx hb hr hlocks hS (⟨rfl, rfl, rfl⟩) (Nat.zero_le _) (Nat.zero_le _) dX2_valueOf_38
  · -- type 3
    rw [qt]
    refine lv_tableOut (tgt := 39) hx hb dX2_valueOf_1 (Or.inr (by decide)) (by decide) ?_
    refine lv_sipush (v := nI 1000) hx hb dX2_valueOf_39 (by decide) ?_
    exact r_iret hx hb hr hlocks hS (⟨rfl, rfl, rfl⟩) (Nat.zero_le _) (Nat.zero_le _) dX2_valueOf_42

set_option maxHeartbeats 4000000 in
set_option maxRecDepth 100000 in
theorem c_X2_priceOfTrueCoins {G : rG} {l : Launch} {T : rTab} {L : rL} {C : rC} {ad : rA} (hI : cInv G T L C ad) {d : Nat} (hd : d < nD T) : rMet G l yX2_priceOfTrueCoins cX2_priceOfTrueCoins 1 (some .int) (rmP 2) [.ref (ad 1 d)] C ad (rPure C ad (.int (nI (if T 20 d = 0 then 0 else 20 * valOf (T 1 d) / (T 20 d + 1))))) := by
  refine rMet.of (by decide) ?_
  intro p e s m below meth c hx hb hml hr hlocks hown hname hK hZ hS
  have hown : s.vm.findClass RX2 = some m.cls := hown
  have hA : ∀ q : Nat, s.heap.size ≤ q → (rF C ad s.heap.size) q := rF.new
  refine r_entry _ (Nat.le_of_ble_eq_true rfl) (fun ls hl => ?_)
  have hl : lv_has ls 1 [(0, .ref (ad 1 d))] := hl
  have h20 : T 20 d ≤ 150 := by have h1 := (hI.dn hd).2.2.2; have h2 := rar_le T d; have h3 := hI.hC; omega
  have hv := valOf_le (T 1 d)
  refine lv_aload_n hx hb dX2_priceOfTrueCoins_0 rfl (lv_at hl 0 rfl) ?_
  refine gf_X2_54 hx hb hown hK hS (hI.die hd) rfl dX2_priceOfTrueCoins_1 ?_
  refine r_if_le (a := T 20 d) (tgt := 24) hx hb (by omega) dX2_priceOfTrueCoins_4 (by decide) (fun q4 => ?_) (fun q4 => ?_)
  · -- T
    refine lv_iconst (v := nI 0) hx hb dX2_priceOfTrueCoins_24 (by decide) ?_
    exact r_iret hx hb hr hlocks hS (⟨by rw [if_pos q4], rfl, rfl⟩) (Nat.zero_le _) (Nat.zero_le _) dX2_priceOfTrueCoins_25
  · -- F
    refine lv_bipush (v := nI 20) hx hb dX2_priceOfTrueCoins_7 (by decide) ?_
    refine lv_aload_n hx hb dX2_priceOfTrueCoins_9 rfl (lv_at hl 0 rfl) ?_
    refine gf_X2_29 hx hb hown hK hS (hI.die hd) rfl dX2_priceOfTrueCoins_10 ?_
    refine lv_imul hx hb dX2_priceOfTrueCoins_13 ?_
    refine r_top (pk_mul _ _) ?_
    refine lv_aload_n hx hb dX2_priceOfTrueCoins_14 rfl (lv_at hl 0 rfl) ?_
    refine gf_X2_54 hx hb hown hK hS (hI.die hd) rfl dX2_priceOfTrueCoins_15 ?_
    refine lv_iconst (v := nI 1) hx hb dX2_priceOfTrueCoins_18 (by decide) ?_
    refine lv_iadd hx hb dX2_priceOfTrueCoins_19 ?_
    refine r_top (nI_add _ _) ?_
    refine lv_idiv hx hb dX2_priceOfTrueCoins_20 (nI_ne0 (by omega) (by omega)) ?_
    refine r_top (y := nI (20 * valOf (T 1 d) / (T 20 d + 1))) (pk_div (by omega) (by omega) (by omega)) ?_
    refine lv_goto (tgt := 25) hx hb dX2_priceOfTrueCoins_21 (by decide) ?_
    exact r_iret hx hb hr hlocks hS (⟨by rw [if_neg (by omega)], rfl, rfl⟩) (Nat.zero_le _) (Nat.zero_le _) dX2_priceOfTrueCoins_25

set_option maxHeartbeats 4000000 in
set_option maxRecDepth 100000 in
theorem c_X2_firstCoin {G : rG} {l : Launch} {T : rTab} {L : rL} {C : rC} {ad : rA} (hI : cInv G T L C ad) {d : Nat} (hd : d < nD T) : rMet G l yX2_firstCoin cX2_firstCoin 1 (some (.object "DieRegister$Coin")) (rmP 4) [.ref (ad 1 d)] C ad (rPure C ad (va_rf ((firstCoin T d).map (ad 4)))) := by
  refine rMet.of (by decide) ?_
  intro p e s m below meth c hx hb hml hr hlocks hown hname hK hZ hS
  have hown : s.vm.findClass RX2 = some m.cls := hown
  have hA : ∀ q : Nat, s.heap.size ≤ q → (rF C ad s.heap.size) q := rF.new
  refine r_entry _ (Nat.le_of_ble_eq_true rfl) (fun ls hl => ?_)
  have hl : lv_has ls 1 [(0, .ref (ad 1 d))] := hl
  refine lv_aload_n hx hb dX2_firstCoin_0 rfl (lv_at hl 0 rfl) ?_
  refine gf_X2_12 hx hb hown hK hS (hI.die hd) rfl dX2_firstCoin_1 ?_
  refine cl_X2_35 hx hb hml hown hK hZ hS hA (l_isEmpty (hI.dcoins hd)) ((hI.dcoins hd).1) rfl hl.1 (Nat.le_of_ble_eq_true rfl) ⟨Nat.le_of_ble_eq_true rfl, Nat.le_of_ble_eq_true rfl⟩ ⟨Nat.zero_le _, Nat.zero_le _⟩ rfl dX2_firstCoin_4 (r_kp (fun H locs hS => ?_))
  refine r_ifb_eq (b := (decide ((L.1 11 d).length = 0))) (tgt := 14) hx hb dX2_firstCoin_7 (by decide) (fun q7 => ?_) (fun q7 => ?_)
  · -- T
    have hx0 : 0 < (L.1 11 d).length := Nat.pos_of_ne_zero (of_decide_eq_false q7)
    obtain ⟨y, hy, hyC, hy5⟩ := hI.dcAt hd hx0
    refine lv_aload_n hx hb dX2_firstCoin_14 rfl (lv_at hl 0 rfl) ?_
    refine gf_X2_12 hx hb hown hK hS (hI.die hd) rfl dX2_firstCoin_15 ?_
    refine lv_iconst (v := nI 0) hx hb dX2_firstCoin_18 (by decide) ?_
    refine cl_X2_39 hx hb hml hown hK hZ hS hA (l_get (hI.dcoins hd) hy) ((hI.dcoins hd).1) rfl hl.1 (Nat.le_of_ble_eq_true rfl) ⟨Nat.le_of_ble_eq_true rfl, Nat.le_of_ble_eq_true rfl⟩ ⟨Nat.zero_le _, Nat.zero_le _⟩ rfl dX2_firstCoin_19 (r_kp (fun H locs hS => ?_))
    refine ck_X2_43 hx hb hown hK hS (hI.coin hyC) dX2_firstCoin_22 ?_
    exact r_aret hx hb hr (Or.inl ⟨_, rfl⟩) hlocks hS (Or.inr ⟨_, rfl⟩) (⟨by rw [firstCoin_hit hI hd hy hyC hy5]; rfl, rfl, rfl⟩) (Nat.zero_le _) (Nat.zero_le _) dX2_firstCoin_25
  · -- F
    have hx0 : (L.1 11 d).length = 0 := of_decide_eq_true q7
    refine lv_null hx hb dX2_firstCoin_10 ?_
    refine lv_goto (tgt := 25) hx hb dX2_firstCoin_11 (by decide) ?_
    exact r_aret hx hb hr (Or.inl ⟨_, rfl⟩) hlocks hS (Or.inl rfl) (⟨by rw [firstCoin_miss hI hd hx0]; rfl, rfl, rfl⟩) (Nat.zero_le _) (Nat.zero_le _) dX2_firstCoin_25

set_option maxHeartbeats 4000000 in
set_option maxRecDepth 100000 in
theorem c_X2_firstOfStage {G : rG} {l : Launch} {T : rTab} {L : rL} {C : rC} {ad : rA} (hI : cInv G T L C ad) {d : Nat} (hd : d < nD T) {st : Nat} (hst : st < 65536) : rMet G l yX2_firstOfStage cX2_firstOfStage 3 (some (.object "DieRegister$Coin")) (rmP 4) [.ref (ad 1 d), .int (nI st)] C ad (rPure C ad (va_rf ((firstOf T d st).map (ad 4)))) := by
  refine rMet.of (by decide) ?_
  intro p e s m below meth c hx hb hml hr hlocks hown hname hK hZ hS
  have hown : s.vm.findClass RX2 = some m.cls := hown
  have hA : ∀ q : Nat, s.heap.size ≤ q → (rF C ad s.heap.size) q := rF.new
  refine r_entry _ (Nat.le_of_ble_eq_true rfl) (fun ls hl => ?_)
  have hl : lv_has ls 3 [(0, .ref (ad 1 d)), (1, .int (nI st))] := hl
  have hlen := (hI.hdc hd).2.1
  refine lv_iconst (v := nI 0) hx hb dX2_firstOfStage_0 (by decide) ?_
  refine lv_istore_n (lv' := [(2, .int (nI 0)), (0, .ref (ad 1 d)), (1, .int (nI st))]) hx hb dX2_firstOfStage_1 rfl hl (by decide) rfl (fun ls hl => ?_)
  refine r_loop (σ := Nat) (fun i => (L.1 11 d).length - i) (fun i H locs ls => (i ≤ (L.1 11 d).length) ∧ (∀ x a, x < i → (L.1 11 d)[x]? = some a → ¬ T 6 a = st) ∧ rS G.1 (rF C ad s.heap.size) s.heap C ad H locs ∧ lv_has ls 3 [(2, .int (nI i)), (0, .ref (ad 1 d)), (1, .int (nI st))]) (fun _ => 0) (fun _ => 0) (fun z ih H locs ls hI => ?_) 0 (Nat.zero_le _) (Nat.zero_le _) ⟨Nat.zero_le _, fun x a hx => absurd hx (Nat.not_lt_zero _), hS, lv_sub hl [0, 1, 2] rfl⟩
  obtain ⟨i, rfl⟩ : ∃ y, y = z := ⟨_, rfl⟩
  obtain ⟨hil, hz, hS, hl⟩ := hI
  try dsimp only at hil hz hS hl ih ⊢
  refine lv_iload_n hx hb dX2_firstOfStage_2 rfl (lv_at hl 0 rfl) ?_
  refine lv_aload_n hx hb dX2_firstOfStage_3 rfl (lv_at hl 1 rfl) ?_
  refine gf_X2_12 hx hb hown hK hS (hI.die hd) rfl dX2_firstOfStage_4 ?_
  refine cl_X2_45 hx hb hml hown hK hZ hS hA (l_size (hI.dcoins hd)) ((hI.dcoins hd).1) rfl hl.1 (Nat.le_of_ble_eq_true rfl) ⟨Nat.le_of_ble_eq_true rfl, Nat.le_of_ble_eq_true rfl⟩ ⟨Nat.zero_le _, Nat.zero_le _⟩ rfl dX2_firstOfStage_7 (r_kp (fun H locs hS => ?_))
  refine r_icmp_ge (a := i) (b := (L.1 11 d).length) (tgt := 49) hx hb (by omega) (by omega) dX2_firstOfStage_10 (by decide) (fun q10 => ?_) (fun q10 => ?_)
  · -- T
    refine lv_null hx hb dX2_firstOfStage_49 ?_
    exact r_aret hx hb hr (Or.inl ⟨_, rfl⟩) hlocks hS (Or.inl rfl) (⟨by rw [firstOf_miss hI hd hz q10]; rfl, rfl, rfl⟩) (Nat.zero_le _) (Nat.zero_le _) dX2_firstOfStage_50
  · -- F
    obtain ⟨y, hy, hyC, hy5⟩ := hI.dcAt hd q10
    have h6 := (hI.cn hyC).2.1
    refine lv_aload_n hx hb dX2_firstOfStage_13 rfl (lv_at hl 1 rfl) ?_
    refine gf_X2_12 hx hb hown hK hS (hI.die hd) rfl dX2_firstOfStage_14 ?_
    refine lv_iload_n hx hb dX2_firstOfStage_17 rfl (lv_at hl 0 rfl) ?_
    refine cl_X2_39 hx hb hml hown hK hZ hS hA (l_get (hI.dcoins hd) hy) ((hI.dcoins hd).1) rfl hl.1 (Nat.le_of_ble_eq_true rfl) ⟨Nat.le_of_ble_eq_true rfl, Nat.le_of_ble_eq_true rfl⟩ ⟨Nat.zero_le _, Nat.zero_le _⟩ rfl dX2_firstOfStage_18 (r_kp (fun H locs hS => ?_))
    refine ck_X2_43 hx hb hown hK hS (hI.coin hyC) dX2_firstOfStage_21 ?_
    refine gf_X2_49 hx hb hown hK hS (hI.coin hyC) rfl dX2_firstOfStage_24 ?_
    refine lv_iload_n hx hb dX2_firstOfStage_27 rfl (lv_at hl 2 rfl) ?_
    refine r_icmp_ne (a := T 6 y) (b := st) (tgt := 43) hx hb (by omega) (by omega) dX2_firstOfStage_28 (by decide) (fun q28 => ?_) (fun q28 => ?_)
    · -- T
      refine lv_iinc (v := nI (i + 1)) (lv' := [(2, .int (nI (i + 1))), (0, .ref (ad 1 d)), (1, .int (nI st))]) hx hb dX2_firstOfStage_43 hl (k := 0) rfl (nI_inc _) (by decide) rfl (fun ls hl => ?_)
      refine lv_goto (tgt := 2) hx hb dX2_firstOfStage_46 (by decide) ?_
      exact ih (i + 1) (by omega) _ _ _ ⟨(show i + 1 ≤ (L.1 11 d).length by omega), (fun x a hx hxa => by
              by_cases e : x = i
              · rw [e, hy] at hxa
                cases hxa
                exact q28
              · exact hz x a (by omega) hxa), hS, lv_sub hl [0, 1, 2] rfl⟩
    · -- F
      refine lv_aload_n hx hb dX2_firstOfStage_31 rfl (lv_at hl 1 rfl) ?_
      refine gf_X2_12 hx hb hown hK hS (hI.die hd) rfl dX2_firstOfStage_32 ?_
      refine lv_iload_n hx hb dX2_firstOfStage_35 rfl (lv_at hl 0 rfl) ?_
      refine cl_X2_39 hx hb hml hown hK hZ hS hA (l_get (hI.dcoins hd) hy) ((hI.dcoins hd).1) rfl hl.1 (Nat.le_of_ble_eq_true rfl) ⟨Nat.le_of_ble_eq_true rfl, Nat.le_of_ble_eq_true rfl⟩ ⟨Nat.zero_le _, Nat.zero_le _⟩ rfl dX2_firstOfStage_36 (r_kp (fun H locs hS => ?_))
      refine ck_X2_43 hx hb hown hK hS (hI.coin hyC) dX2_firstOfStage_39 ?_
      exact r_aret hx hb hr (Or.inl ⟨_, rfl⟩) hlocks hS (Or.inr ⟨_, rfl⟩) (⟨by rw [firstOf_hit hI hd hz hy hyC hy5 q28]; rfl, rfl, rfl⟩) (Nat.zero_le _) (Nat.zero_le _) dX2_firstOfStage_42

set_option maxHeartbeats 4000000 in
set_option maxRecDepth 100000 in
theorem c_X2_countStages {G : rG} {l : Launch} {T : rTab} {L : rL} {C : rC} {ad : rA} (hI : cInv G T L C ad) {d : Nat} (hd : d < nD T) : rMet G l yX2_countStages cX2_countStages 4 (some .int) (rmP 5) [.ref (ad 1 d)] C ad (rPure C ad (.int (nI (stagesN T d)))) := by
  refine rMet.of (by decide) ?_
  intro p e s m below meth c hx hb hml hr hlocks hown hname hK hZ hS
  have hown : s.vm.findClass RX2 = some m.cls := hown
  have hA : ∀ q : Nat, s.heap.size ≤ q → (rF C ad s.heap.size) q := rF.new
  refine r_entry _ (Nat.le_of_ble_eq_true rfl) (fun ls hl => ?_)
  have hl : lv_has ls 4 [(0, .ref (ad 1 d))] := hl
  have hlen := (hI.hdc hd).2.1
  refine lv_iconst (v := nI 0) hx hb dX2_countStages_0 (by decide) ?_
  refine lv_istore_n (lv' := [(1, .int (nI 0)), (0, .ref (ad 1 d))]) hx hb dX2_countStages_1 rfl hl (by decide) rfl (fun ls hl => ?_)
  refine lv_iconst (v := nI 0) hx hb dX2_countStages_2 (by decide) ?_
  refine lv_istore_n (lv' := [(2, .int (nI 0)), (1, .int (nI 0)), (0, .ref (ad 1 d))]) hx hb dX2_countStages_3 rfl hl (by decide) rfl (fun ls hl => ?_)
  refine r_loop (σ := Nat) (fun i => (L.1 11 d).length - i) (fun i H locs ls => (i ≤ (L.1 11 d).length) ∧ rS G.1 (rF C ad s.heap.size) s.heap C ad H locs ∧ lv_has ls 4 [(2, .int (nI i)), (1, .int (nI (sumL (fun j => if firstOf T d (T 6 j) = some j then 1 else 0) ((L.1 11 d).take i)))), (0, .ref (ad 1 d))]) (fun _ => 0) (fun _ => 0) (fun z ih H locs ls hI => ?_) 0 (Nat.zero_le _) (Nat.zero_le _) ⟨Nat.zero_le _, hS, lv_sub hl [0, 1, 2] rfl⟩
  obtain ⟨i, rfl⟩ : ∃ y, y = z := ⟨_, rfl⟩
  obtain ⟨hil, hS, hl⟩ := hI
  try dsimp only at hil hS hl ih ⊢
  refine lv_iload_n hx hb dX2_countStages_4 rfl (lv_at hl 0 rfl) ?_
  refine lv_aload_n hx hb dX2_countStages_5 rfl (lv_at hl 2 rfl) ?_
  refine gf_X2_12 hx hb hown hK hS (hI.die hd) rfl dX2_countStages_6 ?_
  refine cl_X2_45 hx hb hml hown hK hZ hS hA (l_size (hI.dcoins hd)) ((hI.dcoins hd).1) rfl hl.1 (Nat.le_of_ble_eq_true rfl) ⟨Nat.le_of_ble_eq_true rfl, Nat.le_of_ble_eq_true rfl⟩ ⟨Nat.zero_le _, Nat.zero_le _⟩ rfl dX2_countStages_9 (r_kp (fun H locs hS => ?_))
  refine r_icmp_ge (a := i) (b := (L.1 11 d).length) (tgt := 48) hx hb (by omega) (by omega) dX2_countStages_12 (by decide) (fun q12 => ?_) (fun q12 => ?_)
  · -- T
    have hie : i = (L.1 11 d).length := by omega
    rw [hie, List.take_length, stages_end hI hd] at hl
    refine lv_iload_n hx hb dX2_countStages_48 rfl (lv_at hl 1 rfl) ?_
    exact r_iret hx hb hr hlocks hS (⟨rfl, rfl, rfl⟩) (Nat.zero_le _) (Nat.zero_le _) dX2_countStages_49
  · -- F
    obtain ⟨y, hy, hyC, hy5⟩ := hI.dcAt hd q12
    have h6 := (hI.cn hyC).2.1
    refine lv_aload_n hx hb dX2_countStages_15 rfl (lv_at hl 2 rfl) ?_
    refine gf_X2_12 hx hb hown hK hS (hI.die hd) rfl dX2_countStages_16 ?_
    refine lv_iload_n hx hb dX2_countStages_19 rfl (lv_at hl 0 rfl) ?_
    refine cl_X2_39 hx hb hml hown hK hZ hS hA (l_get (hI.dcoins hd) hy) ((hI.dcoins hd).1) rfl hl.1 (Nat.le_of_ble_eq_true rfl) ⟨Nat.le_of_ble_eq_true rfl, Nat.le_of_ble_eq_true rfl⟩ ⟨Nat.zero_le _, Nat.zero_le _⟩ rfl dX2_countStages_20 (r_kp (fun H locs hS => ?_))
    refine ck_X2_43 hx hb hown hK hS (hI.coin hyC) dX2_countStages_23 ?_
    refine lv_astore_n (lv' := [(3, .ref (ad 4 y)), (2, .int (nI i)), (1, .int (nI (sumL (fun j => if firstOf T d (T 6 j) = some j then 1 else 0) ((L.1 11 d).take i)))), (0, .ref (ad 1 d))]) hx hb dX2_countStages_26 rfl hl (by decide) rfl (fun ls hl => ?_)
    refine lv_aload_n hx hb dX2_countStages_27 rfl (lv_at hl 3 rfl) ?_
    refine lv_aload_n hx hb dX2_countStages_28 rfl (lv_at hl 0 rfl) ?_
    refine gf_X2_49 hx hb hown hK hS (hI.coin hyC) rfl dX2_countStages_29 ?_
    refine cl_X2_50 hx hb hml hown hK hZ hS hA (c_X2_firstOfStage hI hd h6) (hI.die hd) rfl hl.1 (Nat.le_of_ble_eq_true rfl) ⟨Nat.le_of_ble_eq_true rfl, Nat.le_of_ble_eq_true rfl⟩ ⟨Nat.zero_le _, Nat.zero_le _⟩ rfl dX2_countStages_32 (r_kp (fun H locs hS => ?_))
    refine lv_aload_n hx hb dX2_countStages_35 rfl (lv_at hl 0 rfl) ?_
    refine lv_acmp_ne (rx := (firstOf T d (T 6 y)).map (ad 4)) (ry := some (ad 4 y)) (tgt := 42) hx hb dX2_countStages_36 (by decide) (fun q36 => ?_) (fun q36 => ?_)
    · -- T
      have qf : ¬ firstOf T d (T 6 y) = some y := fun e => q36 (by rw [e]; rfl)
      rw [show nI (sumL (fun j => if firstOf T d (T 6 j) = some j then 1 else 0) ((L.1 11 d).take i)) = nI (sumL (fun j => if firstOf T d (T 6 j) = some j then 1 else 0) ((L.1 11 d).take (i + 1))) by rw [sumL_take hy, if_neg qf]; rfl] at hl
      refine lv_iinc (v := nI (i + 1)) (lv' := [(2, .int (nI (i + 1))), (3, .ref (ad 4 y)), (1, .int (nI (sumL (fun j => if firstOf T d (T 6 j) = some j then 1 else 0) ((L.1 11 d).take (i + 1))))), (0, .ref (ad 1 d))]) hx hb dX2_countStages_42 hl (k := 1) rfl (nI_inc _) (by decide) rfl (fun ls hl => ?_)
      refine lv_goto (tgt := 4) hx hb dX2_countStages_45 (by decide) ?_
      exact ih (i + 1) (by omega) _ _ _ ⟨(show i + 1 ≤ (L.1 11 d).length by omega), hS, lv_sub hl [0, 2, 3] rfl⟩
    · -- F
      have qf : firstOf T d (T 6 y) = some y := by
        cases ho : firstOf T d (T 6 y) with
        | none => rw [ho] at q36; cases q36
        | some a =>
          rw [ho] at q36
          rw [hI.inj4 hS (fstB_some.mp ho).1 hyC (Option.some.inj q36)]
      refine lv_iinc (v := nI (sumL (fun j => if firstOf T d (T 6 j) = some j then 1 else 0) ((L.1 11 d).take (i + 1)))) (lv' := [(1, .int (nI (sumL (fun j => if firstOf T d (T 6 j) = some j then 1 else 0) ((L.1 11 d).take (i + 1))))), (3, .ref (ad 4 y)), (2, .int (nI i)), (0, .ref (ad 1 d))]) hx hb dX2_countStages_39 hl (k := 2) rfl (by rw [nI_inc, sumL_take hy, if_pos qf]) (by decide) rfl (fun ls hl => ?_)
      refine lv_iinc (v := nI (i + 1)) (lv' := [(2, .int (nI (i + 1))), (1, .int (nI (sumL (fun j => if firstOf T d (T 6 j) = some j then 1 else 0) ((L.1 11 d).take (i + 1))))), (3, .ref (ad 4 y)), (0, .ref (ad 1 d))]) hx hb dX2_countStages_42 hl (k := 2) rfl (nI_inc _) (by decide) rfl (fun ls hl => ?_)
      refine lv_goto (tgt := 4) hx hb dX2_countStages_45 (by decide) ?_
      exact ih (i + 1) (by omega) _ _ _ ⟨(show i + 1 ≤ (L.1 11 d).length by omega), hS, lv_sub hl [0, 1, 3] rfl⟩

set_option maxHeartbeats 4000000 in
set_option maxRecDepth 100000 in
theorem c_X0_isGenuine {G : rG} {l : Launch} {T : rTab} {L : rL} {C : rC} {ad : rA} (hI : cInv G T L C ad) {j : Nat} (hj : j < nC T) : rMet G l yX0_isGenuine cX0_isGenuine 1 (some .boolean) (rmP 1) [.ref (ad 4 j)] C ad (rPure C ad (.int (bI (tru T j)))) := by
  refine rMet.of (by decide) ?_
  intro p e s m below meth c hx hb hml hr hlocks hown hname hK hZ hS
  have hown : s.vm.findClass RX0 = some m.cls := hown
  have hA : ∀ q : Nat, s.heap.size ≤ q → (rF C ad s.heap.size) q := rF.new
  refine r_entry _ (Nat.le_of_ble_eq_true rfl) (fun ls hl => ?_)
  have hl : lv_has ls 1 [(0, .ref (ad 4 j))] := hl
  have hn := hI.cn hj
  have hm := hI.dn (hI.odie hj)
  refine lv_aload_n hx hb dX0_isGenuine_0 rfl (lv_at hl 0 rfl) ?_
  refine gf_X0_25 hx hb hown hK hS (hI.coin hj) rfl dX0_isGenuine_1 ?_
  refine r_if_ne (a := T 7 j) (tgt := 21) hx hb (by omega) dX0_isGenuine_4 (by decide) (fun q4 => ?_) (fun q4 => ?_)
  · -- T
    refine lv_iconst (v := nI 0) hx hb dX0_isGenuine_21 (by decide) ?_
    exact r_zret hx hb hr hlocks hS rfl (⟨by rw [tru_a q4]; rfl, rfl, rfl⟩) (Nat.zero_le _) (Nat.zero_le _) dX0_isGenuine_22
  · -- F
    refine lv_aload_n hx hb dX0_isGenuine_7 rfl (lv_at hl 0 rfl) ?_
    refine gf_X0_15 hx hb hown hK hS (hI.coin hj) rfl dX0_isGenuine_8 ?_
    refine gf_X0_29 hx hb hown hK hS (hI.die (hI.odie hj)) rfl dX0_isGenuine_11 ?_
    refine r_if_ne (a := T 4 (T 5 j)) (tgt := 21) hx hb (by omega) dX0_isGenuine_14 (by decide) (fun q14 => ?_) (fun q14 => ?_)
    · -- T
      refine lv_iconst (v := nI 0) hx hb dX0_isGenuine_21 (by decide) ?_
      exact r_zret hx hb hr hlocks hS rfl (⟨by rw [tru_b q14]; rfl, rfl, rfl⟩) (Nat.zero_le _) (Nat.zero_le _) dX0_isGenuine_22
    · -- F
      refine lv_iconst (v := nI 1) hx hb dX0_isGenuine_17 (by decide) ?_
      refine lv_goto (tgt := 22) hx hb dX0_isGenuine_18 (by decide) ?_
      exact r_zret hx hb hr hlocks hS rfl (⟨by rw [tru_1 q4 q14]; rfl, rfl, rfl⟩) (Nat.zero_le _) (Nat.zero_le _) dX0_isGenuine_22

set_option maxHeartbeats 4000000 in
set_option maxRecDepth 100000 in
theorem c_X0_ownerNumber {G : rG} {l : Launch} {T : rTab} {L : rL} {C : rC} {ad : rA} (hI : cInv G T L C ad) {j : Nat} (hj : j < nC T) : rMet G l yX0_ownerNumber cX0_ownerNumber 1 (some .int) (rmP 1) [.ref (ad 4 j)] C ad (rPure C ad (.int (nI (T 8 j) - nI 1))) := by
  refine rMet.of (by decide) ?_
  intro p e s m below meth c hx hb hml hr hlocks hown hname hK hZ hS
  have hown : s.vm.findClass RX0 = some m.cls := hown
  have hA : ∀ q : Nat, s.heap.size ≤ q → (rF C ad s.heap.size) q := rF.new
  refine r_entry _ (Nat.le_of_ble_eq_true rfl) (fun ls hl => ?_)
  have hl : lv_has ls 1 [(0, .ref (ad 4 j))] := hl
  have hn := hI.cn hj
  refine lv_aload_n hx hb dX0_ownerNumber_0 rfl (lv_at hl 0 rfl) ?_
  refine gf_X0_40 hx hb hown hK hS (hI.coin hj) rfl dX0_ownerNumber_1 ?_
  refine r_ifnonnullq (tgt := 11) hx hb dX0_ownerNumber_4 (by decide) (fun x4 q4 => ?_) (fun q4 => ?_)
  · -- T
    have h8 : ¬ T 8 j = 0 := fun e => by rw [if_pos e] at q4; cases q4
    rw [if_neg h8] at q4
    cases q4
    refine lv_aload_n hx hb dX0_ownerNumber_11 rfl (lv_at hl 0 rfl) ?_
    refine gf_X0_40 hx hb hown hK hS (hI.coin hj) rfl dX0_ownerNumber_12 ?_
    refine r_topv (y := .ref (ad 5 (T 8 j - 1))) (by rw [if_neg h8]; rfl) ?_
    refine gf_X0_44 hx hb hown hK hS (hI.col (show T 8 j - 1 < 8 by omega)) rfl dX0_ownerNumber_15 ?_
    exact r_iret hx hb hr hlocks hS (⟨by rw [pk_sub (by omega)], rfl, rfl⟩) (Nat.zero_le _) (Nat.zero_le _) dX0_ownerNumber_18
  · -- F
    have h8 : T 8 j = 0 := by
      by_cases e : T 8 j = 0
      · exact e
      · rw [if_neg e] at q4; cases q4
    refine lv_iconst (v := (-1)) hx hb dX0_ownerNumber_7 (by decide) ?_
    refine lv_goto (tgt := 18) hx hb dX0_ownerNumber_8 (by decide) ?_
    exact r_iret hx hb hr hlocks hS (⟨by rw [h8]; rfl, rfl, rfl⟩) (Nat.zero_le _) (Nat.zero_le _) dX0_ownerNumber_18

set_option maxHeartbeats 4000000 in
set_option maxRecDepth 100000 in
theorem c_X0_priceNow {G : rG} {l : Launch} {T : rTab} {L : rL} {C : rC} {ad : rA} (hI : cInv G T L C ad) {j : Nat} (hj : j < nC T) : rMet G l yX0_priceNow cX0_priceNow 1 (some .int) (rmP 3) [.ref (ad 4 j)] C ad (rPure C ad (.int (nI (priceN T j)))) := by
  refine rMet.of (by decide) ?_
  intro p e s m below meth c hx hb hml hr hlocks hown hname hK hZ hS
  have hown : s.vm.findClass RX0 = some m.cls := hown
  have hA : ∀ q : Nat, s.heap.size ≤ q → (rF C ad s.heap.size) q := rF.new
  refine r_entry _ (Nat.le_of_ble_eq_true rfl) (fun ls hl => ?_)
  have hl : lv_has ls 1 [(0, .ref (ad 4 j))] := hl
  refine lv_aload_n hx hb dX0_priceNow_0 rfl (lv_at hl 0 rfl) ?_
  refine cl_X0_32 hx hb hml hown hK hZ hS hA (c_X0_isGenuine hI hj) (hI.coin hj) rfl hl.1 (Nat.le_of_ble_eq_true rfl) ⟨Nat.le_of_ble_eq_true rfl, Nat.le_of_ble_eq_true rfl⟩ ⟨Nat.zero_le _, Nat.zero_le _⟩ rfl dX0_priceNow_1 (r_kp (fun H locs hS => ?_))
  refine r_ifb_eq (b := (tru T j)) (tgt := 17) hx hb dX0_priceNow_4 (by decide) (fun q4 => ?_) (fun q4 => ?_)
  · -- T
    refine lv_iconst (v := nI 0) hx hb dX0_priceNow_17 (by decide) ?_
    exact r_iret hx hb hr hlocks hS (⟨by unfold priceN; rw [q4, if_neg Bool.false_ne_true], rfl, rfl⟩) (Nat.zero_le _) (Nat.zero_le _) dX0_priceNow_18
  · -- F
    refine lv_aload_n hx hb dX0_priceNow_7 rfl (lv_at hl 0 rfl) ?_
    refine gf_X0_15 hx hb hown hK hS (hI.coin hj) rfl dX0_priceNow_8 ?_
    refine cl_X0_36 hx hb hml hown hK hZ hS hA (c_X2_priceOfTrueCoins hI (hI.odie hj)) (hI.die (hI.odie hj)) rfl hl.1 (Nat.le_of_ble_eq_true rfl) ⟨Nat.le_of_ble_eq_true rfl, Nat.le_of_ble_eq_true rfl⟩ ⟨Nat.zero_le _, Nat.zero_le _⟩ rfl dX0_priceNow_11 (r_kp (fun H locs hS => ?_))
    refine lv_goto (tgt := 18) hx hb dX0_priceNow_14 (by decide) ?_
    exact r_iret hx hb hr hlocks hS (⟨by unfold priceN priceBy; rw [if_pos q4, (hI.dn (hI.odie hj)).2.2.2, if_neg (by have := rar_pos hj q4; omega)], rfl, rfl⟩) (Nat.zero_le _) (Nat.zero_le _) dX0_priceNow_18
