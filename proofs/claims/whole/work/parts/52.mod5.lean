/-! the model: rings and swaps; the model made (printed by wip/whole/gen/mod5.py) -/
def mQ (G : rG) (S : sR) (C : rC) (ad : rA) : Option Value → rC → rA → Prop := rRet fun r C' ad' => r = .int (if S.1 = 0 then S.2.1 else nI 0) ∧ (∃ rg', mC G S.2.2 (nI S.1) rg' C ad = C') ∧ ad = ad'
theorem mP.q {G : rG} {S : sR} {rg : Nat → Int32} {C : rC} {ad : rA} {v : Option Value} {C' : rC} {ad' : rA} (h : mP G S rg C ad v C' ad') : mQ G S C ad v C' ad' := by
  obtain ⟨r, h1, h2, h3, h4⟩ := h
  exact ⟨r, h1, h2, ⟨rg, h3⟩, h4⟩
theorem mQ.mk0 {G : rG} {S : sR} {rg : Nat → Int32} {C : rC} {ad : rA} {v w : Int32} {T' T2 : rTab} (h : S = (0, w, T')) (hv : w = v) (hT : mEq T' T2) : mQ G S C ad (some (.int v)) (mC G T2 (nI 0) rg C ad) ad := (mP.mk0 h hv hT).q
theorem mQ.mkE {G : rG} {S : sR} {rg : Nat → Int32} {C : rC} {ad : rA} {n : Nat} {w : Int32} {T' : rTab} (h : S = (n + 1, w, T')) : mQ G S C ad (some (.int (nI 0))) (mC G T' (nI (n + 1)) rg C ad) ad := (mP.mkE h).q
theorem vw_len {T : rTab} {p : List Nat} : (vw T p).1.length = p.length := List.length_map _
def tv (T : rTab) (p : List Nat) (i : Nat) : Nat := 1000 * (p.getD i 0 / 16) + coC T (p.getD i 0)
theorem tl_n {T : rTab} {p : List Nat} {a : Int32} (hr : ringL T = vw T p) (h : ixO a p.length = none) : sRingAt T a = (1, 0, T) := sRingAt_n (by rw [hr]; exact tellO_n (by rw [vw_len]; exact h))
theorem tl_s {T : rTab} {p : List Nat} {a : Int32} {x : Nat} (hr : ringL T = vw T p) (h : ixO a p.length = some x) : sRingAt T a = (0, nI (tv T p x), T) := sRingAt_s (by rw [hr]; exact tellO_s (by rw [vw_len]; exact h) (gd_map (f := fun c => c / 16) (ixO_lt h)) (gd_map (f := coC T) (ixO_lt h)))
section GV
variable {T T' X : rTab} {p : List Nat}
theorem offer_k (h : ∀ a, a ≠ 13 → T' a = T a) (k d : Nat) : offer T' k d = offer T k d := by
  have e : offAt T' k d = offAt T k d := by
    funext j
    unfold offAt tru
    rw [h 5 (by decide), h 8 (by decide), h 7 (by decide), h 4 (by decide)]
  unfold offer
  rw [e, show nC T' = nC T from congrFun (h 0 (by decide)) 1, h 9 (by decide)]
theorem okC_k (h : ∀ a, a ≠ 13 → T' a = T a) (c : Nat) : okC T' c = okC T c := by
  unfold okC
  rw [offer_k h, show nD T' = nD T from congrFun (h 0 (by decide)) 0]
theorem coC_k (h : ∀ a, a ≠ 13 → T' a = T a) (c : Nat) : coC T' c = coC T c := by
  unfold coC
  rw [offer_k h]
theorem mNu_13 (hN : mNu T) (h : ∀ a, a ≠ 13 → T' a = T a) (h13 : ∀ b, b < 4 * nS T → T' 13 b = T 13 b) : mNu T' := by
  obtain ⟨a, b, c, d, e⟩ := hN
  have h0 := h 0 (by decide)
  refine ⟨?_, ?_, ?_, ?_, ?_⟩
  · unfold cNu nD nC nS
    rw [h0, h 1 (by decide), h 2 (by decide), h 4 (by decide), h 5 (by decide), h 6 (by decide), h 7 (by decide), h 8 (by decide), h 9 (by decide), h 21 (by decide), h 10 (by decide), h 11 (by decide)]
    exact a
  · intro q hq
    rw [show nS T' = nS T from congrFun h0 2] at hq
    rw [h 12 (by decide)]
    refine ⟨(b q hq).1, fun x hx => ?_⟩
    have h4 := (b q hq).1
    rw [h13 _ (by omega), show nC T' = nC T from congrFun h0 1]
    exact (b q hq).2 x hx
  · unfold mZ nD nC
    rw [h0, h 2 (by decide), h 3 (by decide), h 4 (by decide), h 7 (by decide), h 8 (by decide), h 9 (by decide), h 10 (by decide)]
    exact c
  · unfold mK dcN nD nC
    rw [h0, h 3 (by decide), h 5 (by decide)]
    exact d
  · exact e.eq (congrFun h0 1) (fun j => congrFun (h 8 (by decide)) j)
def gvK (T : rTab) (p : List Nat) (k : Nat) : rTab := fun a b => if a = 13 ∧ (4 * nS T ≤ b ∧ b < 4 * nS T + k) then tv T p (b - 4 * nS T) else T a b
theorem gvK_k {k : Nat} : ∀ a, a ≠ 13 → gvK T p k a = T a := fun a h => funext fun b => if_neg fun z => h z.1
theorem gvK_l {k : Nat} : ∀ b, b < 4 * nS T → gvK T p k 13 b = T 13 b := fun b h => if_neg fun z => by omega
theorem gvK_0 : gvK T p 0 = T := funext fun a => funext fun b => if_neg fun z => by omega
theorem gvK_s {k v : Nat} (hv : v = tv T p k) : ru (gvK T p k) 13 (4 * nS T + k) v = gvK T p (k + 1) := by
  subst hv
  funext a b
  unfold gvK ru
  dsimp only
  by_cases e : a = 13 ∧ b = 4 * nS T + k
  · rw [if_pos e, if_pos ⟨e.1, by omega⟩, e.2, Nat.add_sub_cancel_left]
  · rw [if_neg e]
    by_cases g : a = 13 ∧ (4 * nS T ≤ b ∧ b < 4 * nS T + k)
    · rw [if_pos g, if_pos ⟨g.1, by omega⟩]
    · rw [if_neg g, if_neg (fun z => by omega)]
/-- the swap's record over the tables X -/
def bse (T : rTab) (p : List Nat) (X : rTab) : rTab := fun a b => if a = 12 ∧ b = nS T then p.length else if a = 13 ∧ (4 * nS T ≤ b ∧ b < 4 * nS T + p.length) then tv T p (b - 4 * nS T) else X a b
theorem bse_0 : ru (gvK T p p.length) 12 (nS T) p.length = bse T p T := rfl
theorem bse_n {a b : Nat} (h12 : a ≠ 12) (h13 : a ≠ 13) : bse T p X a b = X a b := by
  unfold bse
  rw [if_neg (fun z => h12 z.1), if_neg (fun z => h13 z.1)]
theorem bse_13 {i : Nat} (h : i < p.length) : bse T p X 13 (4 * nS T + i) = tv T p i := by
  unfold bse
  rw [if_neg (fun z => absurd z.1 (by decide)), if_pos ⟨rfl, by omega⟩, Nat.add_sub_cancel_left]
theorem bse_gain {c j : Nat} : gainT (bse T p X) c j = bse T p (gainT X c j) := by
  have e10 : bse T p X 10 c = X 10 c := bse_n (by decide) (by decide)
  have e5 : bse T p X 5 j = X 5 j := bse_n (by decide) (by decide)
  unfold gainT
  rw [e10, e5]
  funext a b
  by_cases h12 : a = 12
  · subst h12
    rw [ru_k (by decide), ru_k (by decide), ru_k (by decide), ru_k (by decide)]
    unfold bse
    split
    · rfl
    · rw [ru_k (by decide), ru_k (by decide), ru_k (by decide), ru_k (by decide)]
  · by_cases h13 : a = 13
    · subst h13
      rw [ru_k (by decide), ru_k (by decide), ru_k (by decide), ru_k (by decide)]
      unfold bse
      rw [ru_k (by decide), ru_k (by decide), ru_k (by decide), ru_k (by decide)]
    · rw [bse_n h12 h13]
      exact ruc (ruc (ruc (ruc (bse_n h12 h13))))
theorem gain_ru {c j : Nat} : gainT (ru X 8 j 0) c j = gainT X c j := by
  unfold gainT
  rw [ru_ru, ru_k (k := 8) (by decide), ru_k (k := 8) (by decide)]
theorem hand_S {xs ys : List Nat} {k : Nat} {b : Nat} : handI T xs ys k 0 b = T 0 b := congrFun (handI_k (by decide) (by decide) (by decide) (by decide) k) b
theorem hand_5 {xs ys : List Nat} {k : Nat} : handI T xs ys k 5 = T 5 := handI_k (by decide) (by decide) (by decide) (by decide) k
theorem nxt_mod {n k : Nat} (h : k < n) : nxt n k = (k + 1) % n := by
  unfold nxt
  split
  · rw [Nat.mod_eq_of_lt (by omega)]
  · rw [show k + 1 = n by omega, Nat.mod_self]
theorem hand_s {k : Nat} (h : k < p.length) : handI T (vw T p).1 (vw T p).2 (k + 1) = gainT (handI T (vw T p).1 (vw T p).2 k) (p.getD ((k + 1) % p.length) 0 / 16) (coC T (p.getD k 0)) := by
  exact (handI_s (T := T) (xs := (vw T p).1) (ys := (vw T p).2) (c := p.getD ((k + 1) % p.length) 0 / 16) (j := coC T (p.getD k 0)) (by rw [vw_len, nxt_mod h]; exact gd_map (f := fun c => c / 16) (Nat.mod_lt _ (by omega))) (gd_map (f := coC T) h)).trans gain_ru
theorem tv_d {i : Nat} (h : coC T (p.getD i 0) < 1000) : tv T p i / 1000 = p.getD i 0 / 16 := by
  unfold tv
  omega
theorem tv_m {i : Nat} (h : coC T (p.getD i 0) < 1000) : tv T p i % 1000 = coC T (p.getD i 0) := by
  unfold tv
  omega
theorem swap_eq (hr : ringL T = vw T p) : mEq (swapT T) (ru (bse T p (handI T (vw T p).1 (vw T p).2 p.length)) 0 2 (nS T + 1)) := by
  have e : swapT T = ru (bse T p (handI T (vw T p).1 (vw T p).2 p.length)) 0 2 (nS T + 1) := by
    unfold swapT doneT
    rw [hr, vw_len]
    have hS : nS (handI T (vw T p).1 (vw T p).2 p.length) = nS T := hand_S
    rw [hS]
    congr 1
    funext a b
    unfold bse ru gvn
    rw [hS, vw_len]
    by_cases h12 : a = 12 ∧ b = nS T
    · rw [if_pos h12, if_pos h12]
    rw [if_neg h12, if_neg h12]
    by_cases h : a = 13 ∧ (4 * nS T ≤ b ∧ b < 4 * nS T + p.length)
    · rw [if_pos h, if_pos h]
      have hi : b - 4 * nS T < p.length := by omega
      have h1 : (vw T p).1.getD (b - 4 * nS T) 0 = p.getD (b - 4 * nS T) 0 / 16 := by
        rw [List.getD_eq_getElem?_getD, show (vw T p).1[b - 4 * nS T]? = _ from gd_map (f := fun c => c / 16) hi]
        rfl
      have h2 : (vw T p).2.getD (b - 4 * nS T) 0 = coC T (p.getD (b - 4 * nS T) 0) := by
        rw [List.getD_eq_getElem?_getD, show (vw T p).2[b - 4 * nS T]? = _ from gd_map (f := coC T) hi]
        rfl
      rw [h1, h2]
      rfl
    · rw [if_neg h, if_neg h]
  rw [e]
  exact mEq.rf
end GV

set_option maxHeartbeats 4000000 in
set_option maxRecDepth 100000 in
theorem c_X5_ring {G : rG} {l : Launch} {T : rTab} {th : Int32} {rg : Nat → Int32} {C : rC} {ad : rA} (hN : mNu T)  : rMet G l yX5_ring cX5_ring 1 (some .int) (rmP 9) [.ref (ad 30 0)] (mC G T th rg C ad) ad (mQ G (0, nI (ringL T).1.length, T) C ad) := by
  refine rMet.of (by decide) ?_
  intro p e s m below meth c hx hb hml hr hlocks hown hname hK hZ hS
  have hown : s.vm.findClass RX5 = some m.cls := hown
  have hA : ∀ q : Nat, s.heap.size ≤ q → (rF (mC G T th rg C ad) ad s.heap.size) q := rF.new
  refine r_entry _ (Nat.le_of_ble_eq_true rfl) (fun ls hl => ?_)
  have hl : lv_has ls 1 [(0, .ref (ad 30 0))] := hl
  have hnD := hN.hD
  have hnC := hN.hC
  have hnS := hN.hS
  refine lv_aload_n hx hb dX5_ring_0 rfl (lv_at hl 0 rfl) ?_
  refine lv_iconst (v := nI 0) hx hb dX5_ring_1 (by decide) ?_
  refine pf_X5_52 hx hb hown hK hS mC_30 rfl rfl (fs' := [.int (nI (nD T)), .ref (ad 31 0), .ref (ad 32 0), .ref (ad 33 0), .ref (ad 34 0), .int (nI (nC T)), .ref (ad 35 0), .ref (ad 36 0), .ref (ad 37 0), .ref (ad 38 0), .ref (ad 39 0), .ref (ad 40 0), .ref (ad 41 0), .int (nI (nS T)), .ref (ad 42 0), .ref (ad 43 0), .ref (ad 44 0), .int (nI 0)]) (Nat.le_of_ble_eq_true rfl) rfl dX5_ring_2 (fun H locs hS => ?_)
  rw [mC_pth] at hS
  refine lv_aload_n hx hb dX5_ring_5 rfl (lv_at hl 0 rfl) ?_
  refine cl_X5_122 hx hb hml hown hK hZ hS hA (c_X5_finds hN) mC_30 rfl hl.1 (Nat.le_of_ble_eq_true rfl) ⟨Nat.le_of_ble_eq_true rfl, Nat.le_of_ble_eq_true rfl⟩ ⟨Nat.zero_le _, Nat.zero_le _⟩ rfl dX5_ring_6 (r_kr (fun r C' ad' H locs hQ hS => ?_))
  obtain ⟨p9, rb, rfl, hrl, hpo, hpl, hpb, rfl, rfl⟩ := hQ
  exact r_iret hx hb hr hlocks hS (mQ.mk0 rfl (by rw [hrl, vw_len]) mEq.rf) (Nat.zero_le _) (Nat.zero_le _) dX5_ring_9

set_option maxHeartbeats 4000000 in
set_option maxRecDepth 100000 in
theorem c_X5_ringAt {G : rG} {l : Launch} {T : rTab} {th : Int32} {rg : Nat → Int32} {C : rC} {ad : rA} (hN : mNu T) (a : Int32) : rMet G l yX5_ringAt cX5_ringAt 3 (some .int) (rmP 9) [.ref (ad 30 0), .int a] (mC G T th rg C ad) ad (mQ G (sRingAt T a) C ad) := by
  refine rMet.of (by decide) ?_
  intro p e s m below meth c hx hb hml hr hlocks hown hname hK hZ hS
  have hown : s.vm.findClass RX5 = some m.cls := hown
  have hA : ∀ q : Nat, s.heap.size ≤ q → (rF (mC G T th rg C ad) ad s.heap.size) q := rF.new
  refine r_entry _ (Nat.le_of_ble_eq_true rfl) (fun ls hl => ?_)
  have hl : lv_has ls 3 [(0, .ref (ad 30 0)), (1, .int a)] := hl
  have hnD := hN.hD
  have hnC := hN.hC
  have hnS := hN.hS
  refine lv_aload_n hx hb dX5_ringAt_0 rfl (lv_at hl 0 rfl) ?_
  refine cl_X5_122 hx hb hml hown hK hZ hS hA (c_X5_finds hN) mC_30 rfl hl.1 (Nat.le_of_ble_eq_true rfl) ⟨Nat.le_of_ble_eq_true rfl, Nat.le_of_ble_eq_true rfl⟩ ⟨Nat.zero_le _, Nat.zero_le _⟩ rfl dX5_ringAt_1 (r_kr (fun r C' ad' H locs hQ hS => ?_))
  obtain ⟨p9, rb, rfl, hrl, hpo, hpl, hpb, rfl, rfl⟩ := hQ
  refine lv_istore_n (lv' := [(2, .int (nI p9.length)), (0, .ref (ad 30 0)), (1, .int a)]) hx hb dX5_ringAt_4 rfl hl (by decide) rfl (fun ls hl => ?_)
  refine lv_aload_n hx hb dX5_ringAt_5 rfl (lv_at hl 1 rfl) ?_
  refine lv_iload_n hx hb dX5_ringAt_6 rfl (lv_at hl 2 rfl) ?_
  refine lv_iconst (v := nI 0) hx hb dX5_ringAt_7 (by decide) ?_
  refine lv_iload_n hx hb dX5_ringAt_8 rfl (lv_at hl 0 rfl) ?_
  refine lv_iconst (v := nI 1) hx hb dX5_ringAt_9 (by decide) ?_
  refine lv_isub hx hb dX5_ringAt_10 ?_
  refine cl_X5_59 hx hb hml hown hK hZ hS hA (c_X5_in a (nI 0) (nI p9.length - nI 1)) rfl hl.1 (Nat.le_of_ble_eq_true rfl) ⟨Nat.le_of_ble_eq_true rfl, Nat.le_of_ble_eq_true rfl⟩ ⟨Nat.zero_le _, Nat.zero_le _⟩ rfl dX5_ringAt_11 (r_kp (fun H locs hS => ?_))
  refine r_top (y := bI (ixO a p9.length).isSome) (by rw [in_ix (by omega)]) ?_
  refine r_ifb_eq (b := ((ixO a p9.length).isSome)) (tgt := 21) hx hb dX5_ringAt_14 (by decide) (fun q14 => ?_) (fun q14 => ?_)
  · -- T
    have hix := ix_no q14
    refine lv_iconst (v := nI 1) hx hb dX5_ringAt_21 (by decide) ?_
    refine pf_X5_52 hx hb hown hK hS mC_30 rfl rfl (fs' := [.int (nI (nD T)), .ref (ad 31 0), .ref (ad 32 0), .ref (ad 33 0), .ref (ad 34 0), .int (nI (nC T)), .ref (ad 35 0), .ref (ad 36 0), .ref (ad 37 0), .ref (ad 38 0), .ref (ad 39 0), .ref (ad 40 0), .ref (ad 41 0), .int (nI (nS T)), .ref (ad 42 0), .ref (ad 43 0), .ref (ad 44 0), .int (nI 1)]) (Nat.le_of_ble_eq_true rfl) rfl dX5_ringAt_22 (fun H locs hS => ?_)
    rw [mC_pth] at hS
    refine lv_aload_n hx hb dX5_ringAt_25 rfl (lv_at hl 1 rfl) ?_
    refine gf_X5_52 hx hb hown hK hS mC_30 rfl dX5_ringAt_26 ?_
    refine r_if_ne (a := 1) (tgt := 40) hx hb (by decide) dX5_ringAt_29 (by decide) (fun q29 => ?_) (fun q29 => ?_)
    · -- T
      refine lv_iconst (v := nI 0) hx hb dX5_ringAt_40 (by decide) ?_
      exact r_iret hx hb hr hlocks hS (mQ.mkE (n := 0) (tl_n hrl hix)) (Nat.zero_le _) (Nat.zero_le _) dX5_ringAt_41
    · -- F
      exact absurd q29 (by decide)
  · -- F
    obtain ⟨x, hx9, hix, rfl⟩ := ix_get q14
    have hpx := hpo _ (gd_mem hx9)
    refine lv_iconst (v := nI 0) hx hb dX5_ringAt_17 (by decide) ?_
    refine lv_goto (tgt := 22) hx hb dX5_ringAt_18 (by decide) ?_
    refine pf_X5_52 hx hb hown hK hS mC_30 rfl rfl (fs' := [.int (nI (nD T)), .ref (ad 31 0), .ref (ad 32 0), .ref (ad 33 0), .ref (ad 34 0), .int (nI (nC T)), .ref (ad 35 0), .ref (ad 36 0), .ref (ad 37 0), .ref (ad 38 0), .ref (ad 39 0), .ref (ad 40 0), .ref (ad 41 0), .int (nI (nS T)), .ref (ad 42 0), .ref (ad 43 0), .ref (ad 44 0), .int (nI 0)]) (Nat.le_of_ble_eq_true rfl) rfl dX5_ringAt_22 (fun H locs hS => ?_)
    rw [mC_pth] at hS
    refine lv_aload_n hx hb dX5_ringAt_25 rfl (lv_at hl 1 rfl) ?_
    refine gf_X5_52 hx hb hown hK hS mC_30 rfl dX5_ringAt_26 ?_
    refine r_if_ne (a := 0) (tgt := 40) hx hb (by decide) dX5_ringAt_29 (by decide) (fun q29 => ?_) (fun q29 => ?_)
    · -- T
      exact absurd q29 (by decide)
    · -- F
      refine lv_aload_n hx hb dX5_ringAt_32 rfl (lv_at hl 1 rfl) ?_
      refine lv_iload_n hx hb dX5_ringAt_33 rfl (lv_at hl 2 rfl) ?_
      refine cl_X5_126 hx hb hml hown hK hZ hS hA (c_X5_told hN (by omega) (hpb x hx9) hpx.1 hpx.2) mC_30 rfl hl.1 (Nat.le_of_ble_eq_true rfl) ⟨Nat.le_of_ble_eq_true rfl, Nat.le_of_ble_eq_true rfl⟩ ⟨Nat.zero_le _, Nat.zero_le _⟩ rfl dX5_ringAt_34 (r_kp (fun H locs hS => ?_))
      refine lv_goto (tgt := 41) hx hb dX5_ringAt_37 (by decide) ?_
      exact r_iret hx hb hr hlocks hS (mQ.mk0 (tl_s hrl hix) rfl mEq.rf) (Nat.zero_le _) (Nat.zero_le _) dX5_ringAt_41

set_option maxHeartbeats 4000000 in
set_option maxRecDepth 100000 in
theorem c_X5_swap {G : rG} {l : Launch} {T : rTab} {th : Int32} {rg : Nat → Int32} {C : rC} {ad : rA} (hN : mNu T)  : rMet G l yX5_swap cX5_swap 3 (some .int) (rmP 9) [.ref (ad 30 0)] (mC G T th rg C ad) ad (mQ G (sSwap T) C ad) := by
  refine rMet.of (by decide) ?_
  intro p e s m below meth c hx hb hml hr hlocks hown hname hK hZ hS
  have hown : s.vm.findClass RX5 = some m.cls := hown
  have hA : ∀ q : Nat, s.heap.size ≤ q → (rF (mC G T th rg C ad) ad s.heap.size) q := rF.new
  refine r_entry _ (Nat.le_of_ble_eq_true rfl) (fun ls hl => ?_)
  have hl : lv_has ls 3 [(0, .ref (ad 30 0))] := hl
  have hnD := hN.hD
  have hnC := hN.hC
  have hnS := hN.hS
  refine lv_aload_n hx hb dX5_swap_0 rfl (lv_at hl 0 rfl) ?_
  refine gf_X5_129 hx hb hown hK hS mC_30 (v := .int (nI (nS T))) rfl dX5_swap_1 ?_
  refine lv_bipush (v := nI 60) hx hb dX5_swap_4 (by decide) ?_
  refine r_icmp_ne (a := nS T) (b := 60) (tgt := 13) hx hb (by omega) (by omega) dX5_swap_6 (by decide) (fun q6 => ?_) (fun q6 => ?_)
  · -- T
    refine lv_aload_n hx hb dX5_swap_13 rfl (lv_at hl 0 rfl) ?_
    refine cl_X5_122 hx hb hml hown hK hZ hS hA (c_X5_finds hN) mC_30 rfl hl.1 (Nat.le_of_ble_eq_true rfl) ⟨Nat.le_of_ble_eq_true rfl, Nat.le_of_ble_eq_true rfl⟩ ⟨Nat.zero_le _, Nat.zero_le _⟩ rfl dX5_swap_14 (r_kr (fun r C' ad' H locs hQ hS => ?_))
    obtain ⟨p9, rb, rfl, hrl, hpo, hpl, hpb, rfl, rfl⟩ := hQ
    refine lv_istore_n (lv' := [(1, .int (nI p9.length)), (0, .ref (ad 30 0))]) hx hb dX5_swap_17 rfl hl (by decide) rfl (fun ls hl => ?_)
    refine lv_aload_n hx hb dX5_swap_18 rfl (lv_at hl 1 rfl) ?_
    refine lv_iload_n hx hb dX5_swap_19 rfl (lv_at hl 0 rfl) ?_
    refine r_if_ne (a := p9.length) (tgt := 27) hx hb (by omega) dX5_swap_20 (by decide) (fun q20 => ?_) (fun q20 => ?_)
    · -- T
      have hs : sSwap T = (0, nI p9.length, swapT T) := (if_neg (by rw [hrl, vw_len]; omega)).trans (by rw [hrl, vw_len])
      have hS60 : nS T < 60 := by omega
      refine lv_iconst (v := nI 0) hx hb dX5_swap_27 (by decide) ?_
      refine pf_X5_52 hx hb hown hK hS mC_30 rfl rfl (fs' := [.int (nI (nD T)), .ref (ad 31 0), .ref (ad 32 0), .ref (ad 33 0), .ref (ad 34 0), .int (nI (nC T)), .ref (ad 35 0), .ref (ad 36 0), .ref (ad 37 0), .ref (ad 38 0), .ref (ad 39 0), .ref (ad 40 0), .ref (ad 41 0), .int (nI (nS T)), .ref (ad 42 0), .ref (ad 43 0), .ref (ad 44 0), .int (nI 0)]) (Nat.le_of_ble_eq_true rfl) rfl dX5_swap_28 (fun H locs hS => ?_)
      rw [mC_pth] at hS
      refine lv_aload_n hx hb dX5_swap_31 rfl (lv_at hl 1 rfl) ?_
      refine gf_X5_52 hx hb hown hK hS mC_30 rfl dX5_swap_32 ?_
      refine r_if_le (a := 0) (tgt := 40) hx hb (by decide) dX5_swap_35 (by decide) (fun q35 => ?_) (fun q35 => ?_)
      · -- T
        have hS : rS G.1 (rF (mC G T th rg C ad) ad s.heap.size) s.heap (mC G (gvK T p9 0) (nI 0) rb C ad) ad H locs := by rw [gvK_0]; exact hS
        refine lv_iconst (v := nI 0) hx hb dX5_swap_40 (by decide) ?_
        refine lv_istore_n (lv' := [(2, .int (nI 0)), (1, .int (nI p9.length)), (0, .ref (ad 30 0))]) hx hb dX5_swap_41 rfl hl (by decide) rfl (fun ls hl => ?_)
        refine r_loop (σ := Nat) (fun k => p9.length - k) (fun k H locs ls => (k ≤ p9.length) ∧ rS G.1 (rF (mC G T th rg C ad) ad s.heap.size) s.heap (mC G (gvK T p9 k) (nI 0) rb C ad) ad H locs ∧ lv_has ls 3 [(2, .int (nI k)), (1, .int (nI p9.length)), (0, .ref (ad 30 0))]) (fun _ => 0) (fun _ => 0) (fun z ih H locs ls hI => ?_) 0 (Nat.zero_le _) (Nat.zero_le _) ⟨Nat.zero_le _, hS, lv_sub hl [0, 1, 2] rfl⟩
        obtain ⟨k, rfl⟩ : ∃ y, y = z := ⟨_, rfl⟩
        obtain ⟨hkl, hS, hl⟩ := hI
        try dsimp only at hkl hS hl ih ⊢
        refine lv_iload_n hx hb dX5_swap_42 rfl (lv_at hl 0 rfl) ?_
        refine lv_iload_n hx hb dX5_swap_43 rfl (lv_at hl 1 rfl) ?_
        refine r_icmp_ge (a := k) (b := p9.length) (tgt := 71) hx hb (by omega) (by omega) dX5_swap_44 (by decide) (fun q44 => ?_) (fun q44 => ?_)
        · -- T
          obtain rfl : k = p9.length := by omega
          refine lv_aload_n hx hb dX5_swap_71 rfl (lv_at hl 2 rfl) ?_
          refine gf_X5_43 hx hb hown hK hS mC_30 rfl dX5_swap_72 ?_
          refine lv_aload_n hx hb dX5_swap_75 rfl (lv_at hl 2 rfl) ?_
          refine gf_X5_129 hx hb hown hK hS mC_30 (v := .int (nI (nS (gvK T p9 p9.length)))) rfl dX5_swap_76 ?_
          refine r_top (y := nI (nS T)) rfl ?_
          refine lv_iload_n hx hb dX5_swap_79 rfl (lv_at hl 1 rfl) ?_
          refine r_iast hx hb hK.1 hS 0 mC_42 rfl (nI_in0 (by omega) (by omega)) (f' := tA (ru (gvK T p9 p9.length) 12 (nS T) p9.length) 12) (tA_put (by omega)) dX5_swap_80 (fun H locs hS => ?_)
          rw [mC_p42] at hS
          rw [bse_0] at hS
          refine lv_iconst (v := nI 0) hx hb dX5_swap_81 (by decide) ?_
          refine lv_istore_n (lv' := [(2, .int (nI 0)), (1, .int (nI p9.length)), (0, .ref (ad 30 0))]) hx hb dX5_swap_82 rfl hl (by decide) rfl (fun ls hl => ?_)
          refine r_loop (σ := Nat) (fun k => p9.length - k) (fun k H locs ls => (k ≤ p9.length) ∧ rS G.1 (rF (mC G T th rg C ad) ad s.heap.size) s.heap (mC G (bse T p9 (handI T (vw T p9).1 (vw T p9).2 k)) (nI 0) rb C ad) ad H locs ∧ lv_has ls 3 [(2, .int (nI k)), (1, .int (nI p9.length)), (0, .ref (ad 30 0))]) (fun _ => 0) (fun _ => 0) (fun z ih2 H locs ls hI => ?_) 0 (Nat.zero_le _) (Nat.zero_le _) ⟨Nat.zero_le _, hS, lv_sub hl [0, 1, 2] rfl⟩
          obtain ⟨k, rfl⟩ : ∃ y, y = z := ⟨_, rfl⟩
          obtain ⟨hkl, hS, hl⟩ := hI
          try dsimp only at hkl hS hl ih2 ⊢
          refine lv_iload_n hx hb dX5_swap_83 rfl (lv_at hl 0 rfl) ?_
          refine lv_iload_n hx hb dX5_swap_84 rfl (lv_at hl 1 rfl) ?_
          refine r_icmp_ge (a := k) (b := p9.length) (tgt := 136) hx hb (by omega) (by omega) dX5_swap_85 (by decide) (fun q85 => ?_) (fun q85 => ?_)
          · -- T
            obtain rfl : k = p9.length := by omega
            have hXS : nS (bse T p9 (handI T (vw T p9).1 (vw T p9).2 p9.length)) = nS T := (bse_n (by decide) (by decide)).trans hand_S
            refine lv_aload_n hx hb dX5_swap_136 rfl (lv_at hl 2 rfl) ?_
            refine lv_dup hx hb dX5_swap_137 rfl ?_
            refine gf_X5_129 hx hb hown hK hS mC_30 (v := .int (nI (nS (bse T p9 (handI T (vw T p9).1 (vw T p9).2 p9.length))))) rfl dX5_swap_138 ?_
            refine r_top (y := nI (nS T)) (congrArg nI hXS) ?_
            refine lv_iconst (v := nI 1) hx hb dX5_swap_141 (by decide) ?_
            refine lv_iadd hx hb dX5_swap_142 ?_
            refine r_top (nI_add _ _) ?_
            refine pf_X5_129 hx hb hown hK hS mC_30 rfl rfl (fs' := [.int (nI (nD (bse T p9 (handI T (vw T p9).1 (vw T p9).2 p9.length)))), .ref (ad 31 0), .ref (ad 32 0), .ref (ad 33 0), .ref (ad 34 0), .int (nI (nC (bse T p9 (handI T (vw T p9).1 (vw T p9).2 p9.length)))), .ref (ad 35 0), .ref (ad 36 0), .ref (ad 37 0), .ref (ad 38 0), .ref (ad 39 0), .ref (ad 40 0), .ref (ad 41 0), .int (nI (nS T + 1)), .ref (ad 42 0), .ref (ad 43 0), .ref (ad 44 0), .int (nI 0)]) (Nat.le_of_ble_eq_true rfl) rfl dX5_swap_143 (fun H locs hS => ?_)
            rw [mC_pn2] at hS
            refine lv_iload_n hx hb dX5_swap_146 rfl (lv_at hl 1 rfl) ?_
            exact r_iret hx hb hr hlocks hS (mQ.mk0 hs rfl (swap_eq hrl)) (Nat.zero_le _) (Nat.zero_le _) dX5_swap_147
          · -- F
            have hk9 : k < p9.length := by omega
            have hpx := hpo _ (gd_mem hk9)
            have hpk := okC_s hpx.1
            have hm9 : (k + 1) % p9.length < p9.length := Nat.mod_lt _ (by omega)
            have hpy := hpo _ (gd_mem hm9)
            have hpm := okC_s hpy.1
            have hXC : nC (bse T p9 (handI T (vw T p9).1 (vw T p9).2 k)) = nC T := (bse_n (by decide) (by decide)).trans hand_S
            have hX5 : bse T p9 (handI T (vw T p9).1 (vw T p9).2 k) 5 (coC T (p9.getD k 0)) = T 5 (coC T (p9.getD k 0)) := (bse_n (by decide) (by decide)).trans (by rw [hand_5])
            have htv1 : tv T p9 k < 8000 := by unfold tv; omega
            have htv2 : tv T p9 ((k + 1) % p9.length) < 8000 := by unfold tv; omega
            have hk0 := hk9
            obtain ⟨X, hX⟩ : ∃ z, z = handI T (vw T p9).1 (vw T p9).2 k := ⟨_, rfl⟩
            rw [← hX] at hS
            have hXS : nS (bse T p9 X) = nS T := (bse_n (by decide) (by decide)).trans (by rw [hX]; exact hand_S)
            rw [← hX] at hXC hX5
            refine lv_aload_n hx hb dX5_swap_88 rfl (lv_at hl 2 rfl) ?_
            refine lv_aload_n hx hb dX5_swap_89 rfl (lv_at hl 2 rfl) ?_
            refine gf_X5_46 hx hb hown hK hS mC_30 rfl dX5_swap_90 ?_
            refine lv_iconst (v := nI 4) hx hb dX5_swap_93 (by decide) ?_
            refine lv_aload_n hx hb dX5_swap_94 rfl (lv_at hl 2 rfl) ?_
            refine gf_X5_129 hx hb hown hK hS mC_30 (v := .int (nI (nS (bse T p9 X)))) rfl dX5_swap_95 ?_
            refine r_top (y := nI (nS T)) (congrArg nI hXS) ?_
            refine lv_imul hx hb dX5_swap_98 ?_
            refine r_top (pk_mul _ _) ?_
            refine lv_iload_n hx hb dX5_swap_99 rfl (lv_at hl 0 rfl) ?_
            refine lv_iconst (v := nI 1) hx hb dX5_swap_100 (by decide) ?_
            refine lv_iadd hx hb dX5_swap_101 ?_
            refine r_top (nI_add _ _) ?_
            refine lv_iload_n hx hb dX5_swap_102 rfl (lv_at hl 1 rfl) ?_
            refine lv_irem hx hb dX5_swap_103 (nI_ne0 (by omega) (by omega)) ?_
            refine r_top (y := nI ((k + 1) % p9.length)) (pk_rem (by omega) (by omega) (by omega)) ?_
            refine lv_iadd hx hb dX5_swap_104 ?_
            refine r_top (nI_add _ _) ?_
            refine r_iald hx hb hK.1 hS 0 mC_43 rfl (nI_in0 (by omega) (by omega)) (v := nI (tv T p9 ((k + 1) % p9.length))) ((tA_at (by omega)).trans (congrArg nI (bse_13 hm9))) dX5_swap_105 ?_
            refine lv_sipush (v := nI 1000) hx hb dX5_swap_106 (by decide) ?_
            refine lv_idiv hx hb dX5_swap_109 (by decide) ?_
            refine r_top (y := nI (p9.getD ((k + 1) % p9.length) 0 / 16)) ((pk_div (by omega) (by decide) (by decide)).trans (congrArg nI (tv_d (by omega)))) ?_
            refine lv_aload_n hx hb dX5_swap_110 rfl (lv_at hl 2 rfl) ?_
            refine gf_X5_46 hx hb hown hK hS mC_30 rfl dX5_swap_111 ?_
            refine lv_iconst (v := nI 4) hx hb dX5_swap_114 (by decide) ?_
            refine lv_aload_n hx hb dX5_swap_115 rfl (lv_at hl 2 rfl) ?_
            refine gf_X5_129 hx hb hown hK hS mC_30 (v := .int (nI (nS (bse T p9 X)))) rfl dX5_swap_116 ?_
            refine r_top (y := nI (nS T)) (congrArg nI hXS) ?_
            refine lv_imul hx hb dX5_swap_119 ?_
            refine r_top (pk_mul _ _) ?_
            refine lv_iload_n hx hb dX5_swap_120 rfl (lv_at hl 0 rfl) ?_
            refine lv_iadd hx hb dX5_swap_121 ?_
            refine r_top (nI_add _ _) ?_
            refine r_iald hx hb hK.1 hS 0 mC_43 rfl (nI_in0 (by omega) (by omega)) (v := nI (tv T p9 k)) ((tA_at (by omega)).trans (congrArg nI (bse_13 hk9))) dX5_swap_122 ?_
            refine lv_sipush (v := nI 1000) hx hb dX5_swap_123 (by decide) ?_
            refine lv_irem hx hb dX5_swap_126 (by decide) ?_
            refine r_top (y := nI (coC T (p9.getD k 0))) ((pk_rem (by omega) (by decide) (by decide)).trans (congrArg nI (tv_m (by omega)))) ?_
            refine cl_X5_105 hx hb hml hown hK hZ hS hA (c_X5_gets (T := bse T p9 X) (by rw [hXC]; exact hnC) (by omega) (by rw [hXC]; exact hpk.2.2.1) (by rw [hX5, hpk.2.2.2.1]; omega)) mC_30 rfl hl.1 (Nat.le_of_ble_eq_true rfl) ⟨Nat.le_of_ble_eq_true rfl, Nat.le_of_ble_eq_true rfl⟩ ⟨Nat.zero_le _, Nat.zero_le _⟩ rfl dX5_swap_127 (r_kv (fun C' ad' H locs hQ hS => ?_))
            obtain ⟨rfl, rfl⟩ := hQ
            rw [bse_gain, hX, ← hand_s hk9] at hS
            refine lv_iinc (v := nI (k + 1)) (lv' := [(2, .int (nI (k + 1))), (1, .int (nI p9.length)), (0, .ref (ad 30 0))]) hx hb dX5_swap_130 hl (k := 0) rfl (nI_inc _) (by decide) rfl (fun ls hl => ?_)
            refine lv_goto (tgt := 83) hx hb dX5_swap_133 (by decide) ?_
            exact ih2 (k + 1) (show p9.length - (k + 1) < p9.length - k by omega) _ _ _ ⟨(show k + 1 ≤ p9.length by omega), hS, lv_sub hl [0, 1, 2] rfl⟩
        · -- F
          have hk9 : k < p9.length := by omega
          have hpx := hpo _ (gd_mem hk9)
          refine lv_aload_n hx hb dX5_swap_47 rfl (lv_at hl 2 rfl) ?_
          refine gf_X5_46 hx hb hown hK hS mC_30 rfl dX5_swap_48 ?_
          refine lv_iconst (v := nI 4) hx hb dX5_swap_51 (by decide) ?_
          refine lv_aload_n hx hb dX5_swap_52 rfl (lv_at hl 2 rfl) ?_
          refine gf_X5_129 hx hb hown hK hS mC_30 (v := .int (nI (nS (gvK T p9 k)))) rfl dX5_swap_53 ?_
          refine r_top (y := nI (nS T)) rfl ?_
          refine lv_imul hx hb dX5_swap_56 ?_
          refine r_top (pk_mul _ _) ?_
          refine lv_iload_n hx hb dX5_swap_57 rfl (lv_at hl 0 rfl) ?_
          refine lv_iadd hx hb dX5_swap_58 ?_
          refine r_top (nI_add _ _) ?_
          refine lv_aload_n hx hb dX5_swap_59 rfl (lv_at hl 2 rfl) ?_
          refine lv_iload_n hx hb dX5_swap_60 rfl (lv_at hl 0 rfl) ?_
          refine cl_X5_126 hx hb hml hown hK hZ hS hA (c_X5_told (T := gvK T p9 k) (mNu_13 hN gvK_k gvK_l) (by omega) (hpb k hk9) (by rw [okC_k gvK_k]; exact hpx.1) hpx.2) mC_30 rfl hl.1 (Nat.le_of_ble_eq_true rfl) ⟨Nat.le_of_ble_eq_true rfl, Nat.le_of_ble_eq_true rfl⟩ ⟨Nat.zero_le _, Nat.zero_le _⟩ rfl dX5_swap_61 (r_kp (fun H locs hS => ?_))
          refine r_top (y := nI (1000 * (p9.getD k 0 / 16) + coC T (p9.getD k 0))) (by rw [coC_k gvK_k]) ?_
          refine r_iast hx hb hK.1 hS 0 mC_43 rfl (nI_in0 (by omega) (by omega)) (f' := tA (ru (gvK T p9 k) 13 (4 * (nS T) + k) (1000 * (p9.getD k 0 / 16) + coC T (p9.getD k 0))) 13) (tA_put (by omega)) dX5_swap_64 (fun H locs hS => ?_)
          rw [mC_p43] at hS
          rw [gvK_s (p := p9) (k := k) (v := 1000 * (p9.getD k 0 / 16) + coC T (p9.getD k 0)) rfl] at hS
          refine lv_iinc (v := nI (k + 1)) (lv' := [(2, .int (nI (k + 1))), (1, .int (nI p9.length)), (0, .ref (ad 30 0))]) hx hb dX5_swap_65 hl (k := 0) rfl (nI_inc _) (by decide) rfl (fun ls hl => ?_)
          refine lv_goto (tgt := 42) hx hb dX5_swap_68 (by decide) ?_
          exact ih (k + 1) (show p9.length - (k + 1) < p9.length - k by omega) _ _ _ ⟨(show k + 1 ≤ p9.length by omega), hS, lv_sub hl [0, 1, 2] rfl⟩
      · -- F
        exact absurd q35 (by decide)
    · -- F
      have hs : sSwap T = (1, 0, T) := if_pos (Or.inl (by rw [hrl, vw_len]; exact q20))
      refine lv_iconst (v := nI 1) hx hb dX5_swap_23 (by decide) ?_
      refine lv_goto (tgt := 28) hx hb dX5_swap_24 (by decide) ?_
      refine pf_X5_52 hx hb hown hK hS mC_30 rfl rfl (fs' := [.int (nI (nD T)), .ref (ad 31 0), .ref (ad 32 0), .ref (ad 33 0), .ref (ad 34 0), .int (nI (nC T)), .ref (ad 35 0), .ref (ad 36 0), .ref (ad 37 0), .ref (ad 38 0), .ref (ad 39 0), .ref (ad 40 0), .ref (ad 41 0), .int (nI (nS T)), .ref (ad 42 0), .ref (ad 43 0), .ref (ad 44 0), .int (nI 1)]) (Nat.le_of_ble_eq_true rfl) rfl dX5_swap_28 (fun H locs hS => ?_)
      rw [mC_pth] at hS
      refine lv_aload_n hx hb dX5_swap_31 rfl (lv_at hl 1 rfl) ?_
      refine gf_X5_52 hx hb hown hK hS mC_30 rfl dX5_swap_32 ?_
      refine r_if_le (a := 1) (tgt := 40) hx hb (by decide) dX5_swap_35 (by decide) (fun q35 => ?_) (fun q35 => ?_)
      · -- T
        exact absurd q35 (by decide)
      · -- F
        refine lv_iconst (v := nI 0) hx hb dX5_swap_38 (by decide) ?_
        exact r_iret hx hb hr hlocks hS (mQ.mkE (n := 0) hs) (Nat.zero_le _) (Nat.zero_le _) dX5_swap_39
  · -- F
    have hs : sSwap T = (1, 0, T) := if_pos (Or.inr (by omega))
    refine lv_iconst (v := nI 0) hx hb dX5_swap_9 (by decide) ?_
    refine lv_goto (tgt := 17) hx hb dX5_swap_10 (by decide) ?_
    refine lv_istore_n (lv' := [(1, .int (nI 0)), (0, .ref (ad 30 0))]) hx hb dX5_swap_17 rfl hl (by decide) rfl (fun ls hl => ?_)
    refine lv_aload_n hx hb dX5_swap_18 rfl (lv_at hl 1 rfl) ?_
    refine lv_iload_n hx hb dX5_swap_19 rfl (lv_at hl 0 rfl) ?_
    refine r_if_ne (a := 0) (tgt := 27) hx hb (by decide) dX5_swap_20 (by decide) (fun q20 => ?_) (fun q20 => ?_)
    · -- T
      exact absurd q20 (by decide)
    · -- F
      refine lv_iconst (v := nI 1) hx hb dX5_swap_23 (by decide) ?_
      refine lv_goto (tgt := 28) hx hb dX5_swap_24 (by decide) ?_
      refine pf_X5_52 hx hb hown hK hS mC_30 rfl rfl (fs' := [.int (nI (nD T)), .ref (ad 31 0), .ref (ad 32 0), .ref (ad 33 0), .ref (ad 34 0), .int (nI (nC T)), .ref (ad 35 0), .ref (ad 36 0), .ref (ad 37 0), .ref (ad 38 0), .ref (ad 39 0), .ref (ad 40 0), .ref (ad 41 0), .int (nI (nS T)), .ref (ad 42 0), .ref (ad 43 0), .ref (ad 44 0), .int (nI 1)]) (Nat.le_of_ble_eq_true rfl) rfl dX5_swap_28 (fun H locs hS => ?_)
      rw [mC_pth] at hS
      refine lv_aload_n hx hb dX5_swap_31 rfl (lv_at hl 1 rfl) ?_
      refine gf_X5_52 hx hb hown hK hS mC_30 rfl dX5_swap_32 ?_
      refine r_if_le (a := 1) (tgt := 40) hx hb (by decide) dX5_swap_35 (by decide) (fun q35 => ?_) (fun q35 => ?_)
      · -- T
        exact absurd q35 (by decide)
      · -- F
        refine lv_iconst (v := nI 0) hx hb dX5_swap_38 (by decide) ?_
        exact r_iret hx hb hr hlocks hS (mQ.mkE (n := 0) hs) (Nat.zero_le _) (Nat.zero_le _) dX5_swap_39

