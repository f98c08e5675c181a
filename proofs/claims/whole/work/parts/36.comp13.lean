/-! the search of a ring (printed by wip/whole/gen/comp13.py) -/
theorem fs_some {f : Nat → Option (List Nat × List Nat)} {v : List Nat × List Nat} : ∀ {l : List Nat} {i y : Nat}, l[i]? = some y → f y = some v → (∀ x z, x < i → l[x]? = some z → f z = none) → l.findSome? f = some v := by
  intro l
  induction l with
  | nil => intro i y h; cases h
  | cons a l ih =>
    intro i y h hv hn
    cases i with
    | zero =>
      cases h
      rw [List.findSome?_cons, hv]
    | succ i =>
      rw [List.findSome?_cons, hn 0 a (Nat.zero_lt_succ _) rfl]
      exact ih (i := i) (y := y) h hv (fun x z hx hz => hn (x + 1) z (by omega) hz)
theorem fs_none {f : Nat → Option (List Nat × List Nat)} {l : List Nat} (hn : ∀ (x z : Nat), l[x]? = some z → f z = none) : l.findSome? f = none := by
  refine List.findSome?_eq_none_iff.mpr fun y hy => ?_
  obtain ⟨x, hx⟩ := List.mem_iff_getElem?.mp hy
  exact hn x y hx
def lenF (T : rTab) : Nat → List Nat → List Nat → Option (List Nat × List Nat)
  | 0, xs, ys => if closB T xs ys = true then some (xs, ys) else none
  | r + 1, xs, ys => (List.range 8).findSome? fun k => if mayJ T xs ys k = true then (offL T k (nD T)).findSome? (fun j => if pleaB T xs ys k j = true then lenF T r (xs ++ [k]) (ys ++ [j]) else none) else none
def gJ (T : rTab) (r : Nat) (xs ys : List Nat) (k j : Nat) : Option (List Nat × List Nat) := if pleaB T xs ys k j = true then lenF T r (xs ++ [k]) (ys ++ [j]) else none
def gK (T : rTab) (r : Nat) (xs ys : List Nat) (k : Nat) : Option (List Nat × List Nat) := if mayJ T xs ys k = true then (offL T k (nD T)).findSome? (gJ T r xs ys k) else none
theorem lenF_s {T : rTab} {r : Nat} {xs ys : List Nat} {i b y : Nat} {v : List Nat × List Nat} (hi : i < 8) (hz : ∀ k, k < i → gK T r xs ys k = none) (hm : mayJ T xs ys i = true) (hy : (offL T i (nD T))[b]? = some y) (hb : ∀ a z, a < b → (offL T i (nD T))[a]? = some z → gJ T r xs ys i z = none) (hp : pleaB T xs ys i y = true) (hv : lenF T r (xs ++ [i]) (ys ++ [y]) = some v) : lenF T (r + 1) xs ys = some v := by
  have h1 : gJ T r xs ys i y = some v := by
    unfold gJ
    rw [if_pos hp, hv]
  have h2 : gK T r xs ys i = some v := by
    unfold gK
    rw [if_pos hm]
    exact fs_some hy h1 hb
  exact fs_some (f := gK T r xs ys) (l := List.range 8) (i := i) (by rw [List.getElem?_range hi]) h2 (fun x z hx hz2 => by
    have hx8 : x < 8 := by omega
    rw [List.getElem?_range hx8] at hz2
    cases hz2
    exact hz x hx)
theorem lenF_n {T : rTab} {r : Nat} {xs ys : List Nat} (hz : ∀ k, k < 8 → gK T r xs ys k = none) : lenF T (r + 1) xs ys = none :=
  fs_none (f := gK T r xs ys) (fun x z hz2 => hz z (List.mem_range.mp (List.mem_of_getElem? hz2)))
theorem gK_m {T : rTab} {r : Nat} {xs ys : List Nat} {k : Nat} (h : mayJ T xs ys k = false) : gK T r xs ys k = none := if_neg (by rw [h]; exact Bool.false_ne_true)
theorem gK_n {T : rTab} {r : Nat} {xs ys : List Nat} {k : Nat} (h : ∀ (a z : Nat), (offL T k (nD T))[a]? = some z → gJ T r xs ys k z = none) : gK T r xs ys k = none := by
  unfold gK
  split
  · exact fs_none h
  · rfl
theorem gJ_p {T : rTab} {r : Nat} {xs ys : List Nat} {k j : Nat} (h : pleaB T xs ys k j = false) : gJ T r xs ys k j = none := if_neg (by rw [h]; exact Bool.false_ne_true)
theorem gJ_l {T : rTab} {r : Nat} {xs ys : List Nat} {k j : Nat} (h : lenF T r (xs ++ [k]) (ys ++ [j]) = none) : gJ T r xs ys k j = none := by
  unfold gJ
  rw [h]
  split <;> rfl
def offOK (T : rTab) (L : rL) : Prop := ∀ k, k < 8 → L.1 15 k = offL T k (nD T)
theorem offOK.r {T : rTab} {L L' : rL} {q : Nat} (h : offOK T L) (hs : rSame q L L') : offOK T L' := fun k hk => (hs 15 k (fun z => by omega)).1.trans (h k hk)
def lenP (G : rG) (T : rTab) (L : rL) (q r : Nat) (C : rC) (ad : rA) : Value → rC → rA → Prop := fun v C' ad' => v = .int (bI (lenF T r (L.1 16 q) (L.1 17 q)).isSome) ∧ (∃ L', cInv G T L' C' ad' ∧ (L'.1 16 q, L'.1 17 q) = (lenF T r (L.1 16 q) (L.1 17 q)).getD (L.1 16 q, L.1 17 q) ∧ bu L' q ≤ bu L q ∧ rSame q L L') ∧ cFr C ad C' ad' ∧ ∀ a, a < 20 → ad' a = ad a
def lenOK (G : rG) (l : Launch) (T : rTab) (q r : Nat) : Prop := ∀ (L : rL) (C : rC) (ad : rA) (len pl : Nat), cInv G T L C ad → offOK T L → pl + r = len → len ≤ 4 → (L.1 16 q).length = pl → rMet G l yX4_lengthen cX4_lengthen 10 (some .boolean) (rmM (10 + r) (bu L q) (10 * bu L q)) [.ref (ad 7 0), .ref (ad 6 q), .int (nI len), .int (nI pl)] C ad (rRet (lenP G T L q r C ad))

set_option maxHeartbeats 4000000 in
set_option maxRecDepth 100000 in
theorem c_len0 {G : rG} {l : Launch} {T : rTab} {L : rL} {C : rC} {ad : rA} (hI : cInv G T L C ad) {q : Nat} (hq : q = nS T) (hof : offOK T L) {len pl : Nat} (hr : pl + 0 = len) (h4 : len ≤ 4) (hpl : (L.1 16 q).length = pl) : rMet G l yX4_lengthen cX4_lengthen 10 (some .boolean) (rmM (10 + 0) (bu L q) (10 * bu L q)) [.ref (ad 7 0), .ref (ad 6 q), .int (nI len), .int (nI pl)] C ad (rRet (lenP G T L q 0 C ad)) := by
  refine rMet.of (by decide) ?_
  intro p e s m below meth c hx hb hml hr hlocks hown hname hK hZ hS
  have hown : s.vm.findClass RX4 = some m.cls := hown
  have hA : ∀ q : Nat, s.heap.size ≤ q → (rF C ad s.heap.size) q := rF.new
  refine r_entry _ (Nat.le_of_ble_eq_true rfl) (fun ls hl => ?_)
  have hl : lv_has ls 10 [(0, .ref (ad 7 0)), (1, .ref (ad 6 q)), (2, .int (nI len)), (3, .int (nI pl))] := hl
  have hql : q ≤ nS T := by omega
  refine lv_iload_n hx hb dX4_lengthen_0 rfl (lv_at hl 3 rfl) ?_
  refine lv_iload_n hx hb dX4_lengthen_1 rfl (lv_at hl 2 rfl) ?_
  refine r_icmp_ge (a := pl) (b := len) (tgt := 10) hx hb (by omega) (by omega) dX4_lengthen_2 (by decide) (fun q2 => ?_) (fun q2 => ?_)
  · -- T
    refine lv_aload_n hx hb dX4_lengthen_10 rfl (lv_at hl 1 rfl) ?_
    refine cl_X4_239 hx hb hml hown hK hZ hS hA (c_X3_closes hI hql) (hI.ring hql) rfl hl.1 (Nat.le_of_ble_eq_true rfl) ⟨Nat.le_of_ble_eq_true rfl, Nat.le_of_ble_eq_true rfl⟩ ⟨Nat.zero_le _, Nat.zero_le _⟩ rfl dX4_lengthen_11 (r_kp (fun H locs hS => ?_))
    exact r_zret hx hb hr hlocks hS (bI_z _) (⟨_, rfl, by
        unfold lenF
        cases hc : closB T (L.1 16 q) (L.1 17 q) <;> rfl, ⟨L, hI, by
        unfold lenF
        cases hc : closB T (L.1 16 q) (L.1 17 q) <;> rfl, Nat.le_refl _, rSame.rf⟩, cFr.rf, fun _ _ => rfl⟩) (Nat.zero_le _) (Nat.zero_le _) dX4_lengthen_14
  · -- F
    exact absurd q2 (by omega)

set_option maxHeartbeats 4000000 in
set_option maxRecDepth 100000 in
theorem c_lenS {G : rG} {l : Launch} {T : rTab} {L : rL} {C : rC} {ad : rA} (hI : cInv G T L C ad) {q : Nat} (hq : q = nS T) (hof : offOK T L) {len pl : Nat} {r : Nat} (ihr : lenOK G l T q r) (hr : pl + (r + 1) = len) (h4 : len ≤ 4) (hpl : (L.1 16 q).length = pl) : rMet G l yX4_lengthen cX4_lengthen 10 (some .boolean) (rmM (10 + (r + 1)) (bu L q) (10 * bu L q)) [.ref (ad 7 0), .ref (ad 6 q), .int (nI len), .int (nI pl)] C ad (rRet (lenP G T L q (r + 1) C ad)) := by
  refine rMet.of (by decide) ?_
  intro p e s m below meth c hx hb hml hr hlocks hown hname hK hZ hS
  have hown : s.vm.findClass RX4 = some m.cls := hown
  have hA : ∀ q : Nat, s.heap.size ≤ q → (rF C ad s.heap.size) q := rF.new
  refine r_entry _ (Nat.le_of_ble_eq_true rfl) (fun ls hl => ?_)
  have hl : lv_has ls 10 [(0, .ref (ad 7 0)), (1, .ref (ad 6 q)), (2, .int (nI len)), (3, .int (nI pl))] := hl
  have hql : q ≤ nS T := by omega
  have hD := hI.hD
  refine lv_iload_n hx hb dX4_lengthen_0 rfl (lv_at hl 3 rfl) ?_
  refine lv_iload_n hx hb dX4_lengthen_1 rfl (lv_at hl 2 rfl) ?_
  refine r_icmp_ge (a := pl) (b := len) (tgt := 10) hx hb (by omega) (by omega) dX4_lengthen_2 (by decide) (fun q2 => ?_) (fun q2 => ?_)
  · -- T
    exact absurd q2 (by omega)
  · -- F
    refine lv_iload_n hx hb dX4_lengthen_5 rfl (lv_at hl 3 rfl) ?_
    refine lv_iconst (v := nI 4) hx hb dX4_lengthen_6 (by decide) ?_
    refine r_icmp_lt (a := pl) (b := 4) (tgt := 15) hx hb (by omega) (by omega) dX4_lengthen_7 (by decide) (fun q7 => ?_) (fun q7 => ?_)
    · -- T
      refine lv_aload_n hx hb dX4_lengthen_15 rfl (lv_at hl 0 rfl) ?_
      refine lv_astore (lv' := [(4, .ref (ad 7 0)), (0, .ref (ad 7 0)), (1, .ref (ad 6 q)), (2, .int (nI len)), (3, .int (nI pl))]) hx hb dX4_lengthen_16 hl (by decide) rfl (fun ls hl => ?_)
      refine lv_aload hx hb dX4_lengthen_18 (lv_at hl 0 rfl) ?_
      refine r_alen hx hb hK.1 hS 3 hI.arr rfl (v := nI 8) rfl dX4_lengthen_20 ?_
      refine lv_istore (lv' := [(5, .int (nI 8)), (4, .ref (ad 7 0)), (0, .ref (ad 7 0)), (1, .ref (ad 6 q)), (2, .int (nI len)), (3, .int (nI pl))]) hx hb dX4_lengthen_21 hl (by decide) rfl (fun ls hl => ?_)
      refine lv_iconst (v := nI 0) hx hb dX4_lengthen_23 (by decide) ?_
      refine lv_istore (lv' := [(6, .int (nI 0)), (5, .int (nI 8)), (4, .ref (ad 7 0)), (0, .ref (ad 7 0)), (1, .ref (ad 6 q)), (2, .int (nI len)), (3, .int (nI pl))]) hx hb dX4_lengthen_24 hl (by decide) rfl (fun ls hl => ?_)
      refine r_loop (σ := Nat × rL × rC × rA) (fun ⟨i, L2, C2, ad2⟩ => 8 - i) (fun ⟨i, L2, C2, ad2⟩ H locs ls => (i ≤ 8) ∧ (∀ k, k < i → gK T r (L.1 16 q) (L.1 17 q) k = none) ∧ (cInv G T L2 C2 ad2) ∧ (L2.1 16 q = L.1 16 q) ∧ (L2.1 17 q = L.1 17 q) ∧ (bu L2 q ≤ bu L q) ∧ (rSame q L L2) ∧ (cFr C ad C2 ad2) ∧ (∀ a, a < 20 → ad2 a = ad a) ∧ rS G.1 (rF C ad s.heap.size) s.heap C2 ad2 H locs ∧ lv_has ls 10 [(6, .int (nI i)), (5, .int (nI 8)), (4, .ref (ad2 7 0)), (0, .ref (ad2 7 0)), (1, .ref (ad2 6 q)), (2, .int (nI len)), (3, .int (nI pl))]) (fun ⟨_, L2, _, _⟩ => bu L q - bu L2 q) (fun ⟨_, L2, _, _⟩ => 10 * (bu L q - bu L2 q)) (fun z iho H locs ls hI => ?_) (0, L, C, ad) (Nat.zero_le _) (Nat.zero_le _) ⟨Nat.zero_le _, fun k hk => absurd hk (Nat.not_lt_zero _), hI, rfl, rfl, Nat.le_refl _, rSame.rf, cFr.rf, fun _ _ => rfl, hS, lv_sub hl [0, 1, 2, 3, 4, 5, 6] rfl⟩
      obtain ⟨i, L2, C2, ad2⟩ := z
      obtain ⟨hil, hz, hI2, hx2, hy2, hb2, hs2, hF2, hE2, hS, hl⟩ := hI
      try dsimp only at hil hz hI2 hx2 hy2 hb2 hs2 hF2 hE2 hS hl iho ⊢
      refine lv_iload hx hb dX4_lengthen_26 (lv_at hl 0 rfl) ?_
      refine lv_iload hx hb dX4_lengthen_28 (lv_at hl 1 rfl) ?_
      refine r_icmp_ge (a := i) (b := 8) (tgt := 132) hx hb (by omega) (by omega) dX4_lengthen_30 (by decide) (fun q30 => ?_) (fun q30 => ?_)
      · -- T
        have hln := lenF_n (T := T) (r := r) (xs := L.1 16 q) (ys := L.1 17 q) (fun k hk => hz k (by omega))
        refine lv_iconst (v := nI 0) hx hb dX4_lengthen_132 (by decide) ?_
        exact r_zret hx hb hr hlocks hS rfl (⟨_, rfl, by rw [hln]; rfl, ⟨L2, hI2, by rw [hln, hx2, hy2]; rfl, hb2, hs2⟩, hF2, hE2⟩) (by dsimp only [rmM, rmP]; omega) (by dsimp only [rmM, rmP]; omega) dX4_lengthen_133
      · -- F
        have hi := q30
        refine lv_aload hx hb dX4_lengthen_33 (lv_at hl 2 rfl) ?_
        refine lv_iload hx hb dX4_lengthen_35 (lv_at hl 0 rfl) ?_
        refine r_aald hx hb hK.1 hS 3 hI2.arr rfl (nI_in0 (by omega) (by omega)) (v := .ref (ad2 5 i)) (by rw [nI_clamp (by omega), if_pos hi]; rfl) dX4_lengthen_37 ?_
        refine lv_astore (lv' := [(7, .ref (ad2 5 i)), (6, .int (nI i)), (5, .int (nI 8)), (4, .ref (ad2 7 0)), (0, .ref (ad2 7 0)), (1, .ref (ad2 6 q)), (2, .int (nI len)), (3, .int (nI pl))]) hx hb dX4_lengthen_38 hl (by decide) rfl (fun ls hl => ?_)
        refine lv_aload_n hx hb dX4_lengthen_40 rfl (lv_at hl 5 rfl) ?_
        refine lv_aload hx hb dX4_lengthen_41 (lv_at hl 0 rfl) ?_
        refine cl_X4_242 hx hb hml hown hK hZ hS hA (c_X3_mayBeJoinedBy hI2 hql hi) (hI2.ring hql) rfl hl.1 (Nat.le_of_ble_eq_true rfl) ⟨(by dsimp only [rmM, rmP]; omega), (by dsimp only [rmM, rmP]; omega)⟩ ⟨(by dsimp only [rmM, rmP]; omega), (by dsimp only [rmM, rmP]; omega)⟩ rfl dX4_lengthen_43 (r_kp (fun H locs hS => ?_))
        refine r_ifb_ne (b := (mayJ T (L2.1 16 q) (L2.1 17 q) i)) (tgt := 52) hx hb dX4_lengthen_46 (by decide) (fun q46 => ?_) (fun q46 => ?_)
        · -- T
          refine lv_iconst (v := nI 0) hx hb dX4_lengthen_52 (by decide) ?_
          refine lv_istore (lv' := [(8, .int (nI 0)), (7, .ref (ad2 5 i)), (6, .int (nI i)), (5, .int (nI 8)), (4, .ref (ad2 7 0)), (0, .ref (ad2 7 0)), (1, .ref (ad2 6 q)), (2, .int (nI len)), (3, .int (nI pl))]) hx hb dX4_lengthen_53 hl (by decide) rfl (fun ls hl => ?_)
          refine r_loop (σ := Nat × rL × rC × rA) (fun ⟨b, L3, C3, ad3⟩ => (offL T i (nD T)).length - b) (fun ⟨b, L3, C3, ad3⟩ H locs ls => (b ≤ (offL T i (nD T)).length) ∧ (∀ a w, a < b → (offL T i (nD T))[a]? = some w → gJ T r (L.1 16 q) (L.1 17 q) i w = none) ∧ (cInv G T L3 C3 ad3) ∧ (L3.1 16 q = L.1 16 q) ∧ (L3.1 17 q = L.1 17 q) ∧ (bu L3 q ≤ bu L q) ∧ (rSame q L L3) ∧ (cFr C ad C3 ad3) ∧ (∀ a, a < 20 → ad3 a = ad a) ∧ rS G.1 (rF C ad s.heap.size) s.heap C3 ad3 H locs ∧ lv_has ls 10 [(8, .int (nI b)), (7, .ref (ad3 5 i)), (6, .int (nI i)), (5, .int (nI 8)), (4, .ref (ad3 7 0)), (0, .ref (ad3 7 0)), (1, .ref (ad3 6 q)), (2, .int (nI len)), (3, .int (nI pl))]) (fun ⟨_, L3, _, _⟩ => bu L q - bu L3 q) (fun ⟨_, L3, _, _⟩ => 10 * (bu L q - bu L3 q)) (fun z ihi H locs ls hI => ?_) (0, L2, C2, ad2) (by dsimp only [rmM, rmP]; omega) (by dsimp only [rmM, rmP]; omega) ⟨Nat.zero_le _, fun a w ha => absurd ha (Nat.not_lt_zero _), hI2, hx2, hy2, hb2, hs2, hF2, hE2, hS, lv_sub hl [0, 1, 2, 3, 4, 5, 6, 7, 8] rfl⟩
          obtain ⟨b, L3, C3, ad3⟩ := z
          obtain ⟨hil3, hzb, hI3, hx3, hy3, hb3, hs3, hF3, hE3, hS, hl⟩ := hI
          try dsimp only at hil3 hzb hI3 hx3 hy3 hb3 hs3 hF3 hE3 hS hl ihi ⊢
          refine lv_iload hx hb dX4_lengthen_55 (lv_at hl 0 rfl) ?_
          refine lv_aload hx hb dX4_lengthen_57 (lv_at hl 1 rfl) ?_
          refine gf_X4_185 hx hb hown hK hS (hI3.col hi) rfl dX4_lengthen_59 ?_
          refine cl_X4_81 hx hb hml hown hK hZ hS hA (l_size (hI3.offered hi)) ((hI3.offered hi).1) rfl hl.1 (Nat.le_of_ble_eq_true rfl) ⟨(by dsimp only [rmM, rmP]; omega), (by dsimp only [rmM, rmP]; omega)⟩ ⟨(by dsimp only [rmM, rmP]; omega), (by dsimp only [rmM, rmP]; omega)⟩ rfl dX4_lengthen_62 (r_kp (fun H locs hS => ?_))
          refine r_top (y := nI ((offL T i (nD T)).length)) (by rw [hof.r hs3 i hi]) ?_
          have hol := offL_len T i (nD T)
          refine r_icmp_ge (a := b) (b := (offL T i (nD T)).length) (tgt := 126) hx hb (by omega) (by omega) dX4_lengthen_65 (by decide) (fun q65 => ?_) (fun q65 => ?_)
          · -- T
            have hgk : gK T r (L.1 16 q) (L.1 17 q) i = none := gK_n (fun a w haw => hzb a w (by have := (List.getElem?_eq_some_iff.mp haw).1; omega) haw)
            refine lv_iinc (v := nI (i + 1)) (lv' := [(6, .int (nI (i + 1))), (8, .int (nI b)), (7, .ref (ad3 5 i)), (5, .int (nI 8)), (4, .ref (ad3 7 0)), (0, .ref (ad3 7 0)), (1, .ref (ad3 6 q)), (2, .int (nI len)), (3, .int (nI pl))]) hx hb dX4_lengthen_126 hl (k := 2) rfl (nI_inc _) (by decide) rfl (fun ls hl => ?_)
            refine lv_goto (tgt := 26) hx hb dX4_lengthen_129 (by decide) ?_
            refine W.widen (by dsimp only [rmM, rmP]; omega) (by dsimp only [rmM, rmP]; omega) (iho (i + 1, L3, C3, ad3) (show 8 - (i + 1) < 8 - i by omega) _ _ _ ⟨(show i + 1 ≤ 8 by omega), (fun k hk => by
                  by_cases e : k = i
                  · rw [e]
                    exact hgk
                  · exact hz k (by omega)), hI3, hx3, hy3, hb3, hs3, hF3, hE3, hS, lv_sub hl [0, 3, 4, 5, 6, 7, 8] rfl⟩)
          · -- F
            obtain ⟨y, hby⟩ : ∃ z, (offL T i (nD T))[b]? = some z := ⟨_, List.getElem?_eq_getElem q65⟩
            have hyC : y < nC T := offL_lt y (List.mem_of_getElem? hby)
            refine lv_aload hx hb dX4_lengthen_68 (lv_at hl 1 rfl) ?_
            refine gf_X4_185 hx hb hown hK hS (hI3.col hi) rfl dX4_lengthen_70 ?_
            refine lv_iload hx hb dX4_lengthen_73 (lv_at hl 0 rfl) ?_
            refine cl_X4_132 hx hb hml hown hK hZ hS hA (l_get (hI3.offered hi) (by rw [hof.r hs3 i hi]; exact hby)) ((hI3.offered hi).1) rfl hl.1 (Nat.le_of_ble_eq_true rfl) ⟨(by dsimp only [rmM, rmP]; omega), (by dsimp only [rmM, rmP]; omega)⟩ ⟨(by dsimp only [rmM, rmP]; omega), (by dsimp only [rmM, rmP]; omega)⟩ rfl dX4_lengthen_75 (r_kp (fun H locs hS => ?_))
            refine ck_X4_88 hx hb hown hK hS (hI3.coin hyC) dX4_lengthen_78 ?_
            refine lv_astore (lv' := [(9, .ref (ad3 4 y)), (8, .int (nI b)), (7, .ref (ad3 5 i)), (6, .int (nI i)), (5, .int (nI 8)), (4, .ref (ad3 7 0)), (0, .ref (ad3 7 0)), (1, .ref (ad3 6 q)), (2, .int (nI len)), (3, .int (nI pl))]) hx hb dX4_lengthen_81 hl (by decide) rfl (fun ls hl => ?_)
            refine lv_aload_n hx hb dX4_lengthen_83 rfl (lv_at hl 7 rfl) ?_
            refine lv_aload hx hb dX4_lengthen_84 (lv_at hl 2 rfl) ?_
            refine lv_aload hx hb dX4_lengthen_86 (lv_at hl 0 rfl) ?_
            refine cl_X4_246 hx hb hml hown hK hZ hS hA (c_X3_pleases hI3 hql hi hyC) (hI3.ring hql) rfl hl.1 (Nat.le_of_ble_eq_true rfl) ⟨(by dsimp only [rmM, rmP]; omega), (by dsimp only [rmM, rmP]; omega)⟩ ⟨(by dsimp only [rmM, rmP]; omega), (by dsimp only [rmM, rmP]; omega)⟩ rfl dX4_lengthen_88 (r_kp (fun H locs hS => ?_))
            refine r_ifb_eq (b := (pleaB T (L3.1 16 q) (L3.1 17 q) i y)) (tgt := 120) hx hb dX4_lengthen_91 (by decide) (fun q91 => ?_) (fun q91 => ?_)
            · -- T
              have hgj := gJ_p (T := T) (r := r) (xs := L.1 16 q) (ys := L.1 17 q) (k := i) (j := y) (by rw [← hx3, ← hy3]; exact q91)
              refine lv_iinc (v := nI (b + 1)) (lv' := [(8, .int (nI (b + 1))), (9, .ref (ad3 4 y)), (7, .ref (ad3 5 i)), (6, .int (nI i)), (5, .int (nI 8)), (4, .ref (ad3 7 0)), (0, .ref (ad3 7 0)), (1, .ref (ad3 6 q)), (2, .int (nI len)), (3, .int (nI pl))]) hx hb dX4_lengthen_120 hl (k := 1) rfl (nI_inc _) (by decide) rfl (fun ls hl => ?_)
              refine lv_goto (tgt := 55) hx hb dX4_lengthen_123 (by decide) ?_
              refine W.widen (by dsimp only [rmM, rmP]; omega) (by dsimp only [rmM, rmP]; omega) (ihi (b + 1, L3, C3, ad3) (show (offL T i (nD T)).length - (b + 1) < (offL T i (nD T)).length - b by omega) _ _ _ ⟨(show b + 1 ≤ (offL T i (nD T)).length by omega), (fun a w ha haw => by
                    by_cases e : a = b
                    · rw [e, hby] at haw
                      cases haw
                      exact hgj
                    · exact hzb a w (by omega) haw), hI3, hx3, hy3, hb3, hs3, hF3, hE3, hS, lv_sub hl [0, 2, 3, 4, 5, 6, 7, 8, 9] rfl⟩)
            · -- F
              refine lv_aload_n hx hb dX4_lengthen_94 rfl (lv_at hl 7 rfl) ?_
              refine lv_aload hx hb dX4_lengthen_95 (lv_at hl 2 rfl) ?_
              refine lv_aload hx hb dX4_lengthen_97 (lv_at hl 0 rfl) ?_
              refine cl_X4_250 hx hb hml hown hK hZ hS hA (c_X3_add hI3 hq hi hyC (by rw [hx3]; omega)) (hI3.ring hql) rfl hl.1 (Nat.le_of_ble_eq_true rfl) ⟨(by dsimp only [rmM, rmP]; omega), (by dsimp only [rmM, rmP]; omega)⟩ ⟨(by dsimp only [rmM, rmP]; omega), (by dsimp only [rmM, rmP]; omega)⟩ rfl dX4_lengthen_99 (r_kv (fun C4 ad4 H locs hQ hS => ?_))
              obtain ⟨⟨L4, hI4, hx4, hy4, hc4a, hc4b, hs4⟩, hF4, hE4⟩ := hQ
              have ead40 : ad3 4 y = ad4 4 y := (congrFun (hE4 4 (by decide)) y).symm
              try rw [ead40] at hl
              try rw [ead40]
              have ead41 : ad3 5 i = ad4 5 i := (congrFun (hE4 5 (by decide)) i).symm
              try rw [ead41] at hl
              try rw [ead41]
              have ead42 : ad3 7 0 = ad4 7 0 := (congrFun (hE4 7 (by decide)) 0).symm
              try rw [ead42] at hl
              try rw [ead42]
              have ead43 : ad3 6 q = ad4 6 q := (congrFun (hE4 6 (by decide)) q).symm
              try rw [ead43] at hl
              try rw [ead43]
              have hb4 : bu L4 q = 0 := by unfold bu; rw [bd_0 hc4a, bd_0 hc4b]
              rw [hx3] at hx4
              rw [hy3] at hy4
              refine lv_aload_n hx hb dX4_lengthen_102 rfl (lv_at hl 6 rfl) ?_
              refine lv_aload_n hx hb dX4_lengthen_103 rfl (lv_at hl 7 rfl) ?_
              refine lv_iload_n hx hb dX4_lengthen_104 rfl (lv_at hl 8 rfl) ?_
              refine lv_iload_n hx hb dX4_lengthen_105 rfl (lv_at hl 9 rfl) ?_
              refine lv_iconst (v := nI 1) hx hb dX4_lengthen_106 (by decide) ?_
              refine lv_iadd hx hb dX4_lengthen_107 ?_
              refine r_top (nI_add _ _) ?_
              refine cl_X4_235 hx hb hml hown hK hZ hS hA (ihr L4 C4 ad4 len (pl + 1) hI4 (hof.r (hs3.tr hs4)) (by omega) h4 (by rw [hx4, List.length_append, hpl]; rfl)) rfl hl.1 (Nat.le_of_ble_eq_true rfl) ⟨(by dsimp only [rmM, rmP]; omega), (by dsimp only [rmM, rmP]; omega)⟩ ⟨(by dsimp only [rmM, rmP]; omega), (by dsimp only [rmM, rmP]; omega)⟩ rfl dX4_lengthen_108 (r_kr (fun r9 C5 ad5 H locs hQ hS => ?_))
              obtain ⟨rfl, ⟨L5, hI5, hp5, hb5, hs5⟩, hF5, hE5⟩ := hQ
              have ead50 : ad4 4 y = ad5 4 y := (congrFun (hE5 4 (by decide)) y).symm
              try rw [ead50] at hl
              try rw [ead50]
              have ead51 : ad4 5 i = ad5 5 i := (congrFun (hE5 5 (by decide)) i).symm
              try rw [ead51] at hl
              try rw [ead51]
              have ead52 : ad4 7 0 = ad5 7 0 := (congrFun (hE5 7 (by decide)) 0).symm
              try rw [ead52] at hl
              try rw [ead52]
              have ead53 : ad4 6 q = ad5 6 q := (congrFun (hE5 6 (by decide)) q).symm
              try rw [ead53] at hl
              try rw [ead53]
              rw [hx4, hy4] at hp5
              refine r_ifb_eq (b := ((lenF T r (L4.1 16 q) (L4.1 17 q)).isSome)) (tgt := 116) hx hb dX4_lengthen_111 (by decide) (fun q111 => ?_) (fun q111 => ?_)
              · -- T
                have hn : lenF T r (L.1 16 q ++ [i]) (L.1 17 q ++ [y]) = none := by rw [← hx4, ← hy4]; cases ho : lenF T r (L4.1 16 q) (L4.1 17 q) with | none => rfl | some v => rw [ho] at q111; cases q111
                rw [hn] at hp5
                have hp5 := Prod.mk.inj hp5
                refine lv_aload_n hx hb dX4_lengthen_116 rfl (lv_at hl 7 rfl) ?_
                refine cl_X4_253 hx hb hml hown hK hZ hS hA (c_X3_removeLast hI5 hq (by rw [hp5.1, List.length_append]; exact Nat.le_add_left _ _)) (hI5.ring hql) rfl hl.1 (Nat.le_of_ble_eq_true rfl) ⟨(by dsimp only [rmM, rmP]; omega), (by dsimp only [rmM, rmP]; omega)⟩ ⟨(by dsimp only [rmM, rmP]; omega), (by dsimp only [rmM, rmP]; omega)⟩ rfl dX4_lengthen_117 (r_kv (fun C6 ad6 H locs hQ hS => ?_))
                obtain ⟨⟨L6, hI6, hx6, hy6, hc6a, hc6b, hs6⟩, hF6, hE6⟩ := hQ
                have ead60 : ad5 4 y = ad6 4 y := (congrFun (hE6 4 (by decide)) y).symm
                try rw [ead60] at hl
                try rw [ead60]
                have ead61 : ad5 5 i = ad6 5 i := (congrFun (hE6 5 (by decide)) i).symm
                try rw [ead61] at hl
                try rw [ead61]
                have ead62 : ad5 7 0 = ad6 7 0 := (congrFun (hE6 7 (by decide)) 0).symm
                try rw [ead62] at hl
                try rw [ead62]
                have ead63 : ad5 6 q = ad6 6 q := (congrFun (hE6 6 (by decide)) q).symm
                try rw [ead63] at hl
                try rw [ead63]
                rw [hp5.1, List.dropLast_concat] at hx6
                rw [hp5.2, List.dropLast_concat] at hy6
                have hb60 : bu L6 q = 0 := by
                  have e6 : bu L6 q = bu L5 q := by unfold bu; rw [hc6a, hc6b]
                  omega
                have hb6 : bu L6 q ≤ bu L q := by omega
                have hs6 : rSame q L L6 := (hs3.tr hs4).tr (hs5.tr hs6)
                have hF6 : cFr C ad C6 ad6 := (hF3.tr hF4).tr (hF5.tr hF6)
                have hE6 : ∀ a, a < 20 → ad6 a = ad a := fun a ha => ((hE6 a ha).trans (hE5 a ha)).trans ((hE4 a ha).trans (hE3 a ha))
                have hgj := gJ_l (k := i) (j := y) hn
                refine lv_iinc (v := nI (b + 1)) (lv' := [(8, .int (nI (b + 1))), (9, .ref (ad6 4 y)), (7, .ref (ad6 5 i)), (6, .int (nI i)), (5, .int (nI 8)), (4, .ref (ad6 7 0)), (0, .ref (ad6 7 0)), (1, .ref (ad6 6 q)), (2, .int (nI len)), (3, .int (nI pl))]) hx hb dX4_lengthen_120 hl (k := 1) rfl (nI_inc _) (by decide) rfl (fun ls hl => ?_)
                refine lv_goto (tgt := 55) hx hb dX4_lengthen_123 (by decide) ?_
                refine W.widen (by dsimp only [rmM, rmP]; omega) (by dsimp only [rmM, rmP]; omega) (ihi (b + 1, L6, C6, ad6) (show (offL T i (nD T)).length - (b + 1) < (offL T i (nD T)).length - b by omega) _ _ _ ⟨(show b + 1 ≤ (offL T i (nD T)).length by omega), (fun a w ha haw => by
                      by_cases e : a = b
                      · rw [e, hby] at haw
                        cases haw
                        exact hgj
                      · exact hzb a w (by omega) haw), hI6, hx6, hy6, hb6, hs6, hF6, hE6, hS, lv_sub hl [0, 2, 3, 4, 5, 6, 7, 8, 9] rfl⟩)
              · -- F
                obtain ⟨v, hv⟩ : ∃ v, lenF T r (L.1 16 q ++ [i]) (L.1 17 q ++ [y]) = some v := by rw [← hx4, ← hy4]; cases ho : lenF T r (L4.1 16 q) (L4.1 17 q) with | none => rw [ho] at q111; cases q111 | some v => exact ⟨v, rfl⟩
                rw [hv] at hp5
                have hls := lenF_s hi hz (by rw [← hx2, ← hy2]; exact q46) hby hzb (by rw [← hx3, ← hy3]; exact q91) hv
                refine lv_iconst (v := nI 1) hx hb dX4_lengthen_114 (by decide) ?_
                exact r_zret hx hb hr hlocks hS rfl (⟨_, rfl, by rw [hls]; rfl, ⟨L5, hI5, by rw [hls]; exact hp5, by omega, (hs3.tr hs4).tr hs5⟩, (hF3.tr hF4).tr (hF5), fun a ha => (hE5 a ha).trans ((hE4 a ha).trans (hE3 a ha))⟩) (by dsimp only [rmM, rmP]; omega) (by dsimp only [rmM, rmP]; omega) dX4_lengthen_115
        · -- F
          refine lv_goto (tgt := 126) hx hb dX4_lengthen_49 (by decide) ?_
          have hgk : gK T r (L.1 16 q) (L.1 17 q) i = none := gK_m (by rw [← hx2, ← hy2]; exact q46)
          refine lv_iinc (v := nI (i + 1)) (lv' := [(6, .int (nI (i + 1))), (7, .ref (ad2 5 i)), (5, .int (nI 8)), (4, .ref (ad2 7 0)), (0, .ref (ad2 7 0)), (1, .ref (ad2 6 q)), (2, .int (nI len)), (3, .int (nI pl))]) hx hb dX4_lengthen_126 hl (k := 1) rfl (nI_inc _) (by decide) rfl (fun ls hl => ?_)
          refine lv_goto (tgt := 26) hx hb dX4_lengthen_129 (by decide) ?_
          refine W.widen (by dsimp only [rmM, rmP]; omega) (by dsimp only [rmM, rmP]; omega) (iho (i + 1, L2, C2, ad2) (show 8 - (i + 1) < 8 - i by omega) _ _ _ ⟨(show i + 1 ≤ 8 by omega), (fun k hk => by
                by_cases e : k = i
                · rw [e]
                  exact hgk
                · exact hz k (by omega)), hI2, hx2, hy2, hb2, hs2, hF2, hE2, hS, lv_sub hl [0, 2, 3, 4, 5, 6, 7] rfl⟩)
    · -- F
      exact absurd q7 (by omega)

theorem len_ok {G : rG} {l : Launch} {T : rTab} {q : Nat} (hq : q = nS T) : ∀ r, lenOK G l T q r := by
  intro r
  induction r with
  | zero => exact fun L C ad len pl hI hof hr h4 hpl => c_len0 hI hq hof hr h4 hpl
  | succ r ih => exact fun L C ad len pl hI hof hr h4 hpl => c_lenS hI hq hof ih hr h4 hpl
