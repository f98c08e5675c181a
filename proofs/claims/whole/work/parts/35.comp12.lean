/-! the row of collectors that is made (printed by wip/whole/gen/comp12.py) -/
set_option maxHeartbeats 4000000 in
set_option maxRecDepth 100000 in
theorem c_addF0 {G : rG} {l : Launch} {C : rC} {ad : rA} {k i n k2 i2 N : Nat} {mc : Int32} {f : Nat → Option Nat} (h : C k i = some (alO mc (ad k2 i2) n)) (h2 : C k2 i2 = some (arO G N f)) (hne : ¬ (k2 = k ∧ i2 = i)) (hN : N < 1000) {k1 i1 ci : Nat} {fs : List Value} (hel : C k1 i1 = some (.inr (ci, fs))) (hca : rCa ci) (hnk : ¬ (k1 = k ∧ i1 = i)) (hnk2 : ¬ (k1 = k2 ∧ i1 = i2)) (hn : n < N) : rMet G l yJx4a65c_add_9ea2d cJx4a65c_add_9ea2d 2 (some .boolean) (rmM 8 0 0) [.ref (ad k i), .ref (ad k1 i1)] C ad (rRet (fun r C' ad' => r = .int (nI 1) ∧ ru (ru C k2 i2 (some (arO G N (va_up f n (some (ad k1 i1)))))) k i (some (alO (mc + nI 1) (ad k2 i2) (n + 1))) = C' ∧ ad = ad')) := by
  refine rMet.of (by decide) ?_
  intro p e s m below meth c hx hb hml hr hlocks hown hname hK hZ hS
  have hown : s.vm.findClass RJx4a65c = some m.cls := hown
  have hA : ∀ q : Nat, s.heap.size ≤ q → (rF C ad s.heap.size) q := rF.new
  refine r_entry _ (Nat.le_of_ble_eq_true rfl) (fun ls hl => ?_)
  have hl : lv_has ls 2 [(0, .ref (ad k i)), (1, .ref (ad k1 i1))] := hl
  refine lv_aload_n hx hb dJx4a65c_add_9ea2d_0 rfl (lv_at hl 0 rfl) ?_
  refine lv_dup hx hb dJx4a65c_add_9ea2d_1 rfl ?_
  refine gf_Jx4a65c_63 hx hb hown hK hS h rfl dJx4a65c_add_9ea2d_2 ?_
  refine lv_iconst (v := nI 1) hx hb dJx4a65c_add_9ea2d_5 (by decide) ?_
  refine lv_iadd hx hb dJx4a65c_add_9ea2d_6 ?_
  refine pf_Jx4a65c_63 hx hb hown hK hS h rfl rfl (fs' := [.int (mc + (nI 1)), .ref (ad k2 i2), .int (nI n)]) (Nat.le_of_ble_eq_true rfl) rfl dJx4a65c_add_9ea2d_7 (fun H locs hS => ?_)
  refine lv_aload_n hx hb dJx4a65c_add_9ea2d_10 rfl (lv_at hl 0 rfl) ?_
  refine lv_aload_n hx hb dJx4a65c_add_9ea2d_11 rfl (lv_at hl 1 rfl) ?_
  refine lv_aload_n hx hb dJx4a65c_add_9ea2d_12 rfl (lv_at hl 0 rfl) ?_
  refine gf_Jx4a65c_9 hx hb hown hK hS ru_e rfl dJx4a65c_add_9ea2d_13 ?_
  refine lv_aload_n hx hb dJx4a65c_add_9ea2d_16 rfl (lv_at hl 0 rfl) ?_
  refine gf_Jx4a65c_48 hx hb hown hK hS ru_e rfl dJx4a65c_add_9ea2d_17 ?_
  refine cl_Jx4a65c_131 hx hb hml hown hK hZ hS hA (c_add3F (C := ru C k i (some (alO (mc + nI 1) (ad k2 i2) n))) ru_e ((ru_n hne).trans h2) hne hN ((ru_n hnk).trans hel) hca hn) ru_e rfl hl.1 (Nat.le_of_ble_eq_true rfl) ⟨Nat.le_of_ble_eq_true rfl, Nat.le_of_ble_eq_true rfl⟩ ⟨Nat.zero_le _, Nat.zero_le _⟩ rfl dJx4a65c_add_9ea2d_20 (r_kv (fun C' ad' H locs hQ hS => ?_))
  obtain ⟨rfl, rfl⟩ := hQ
  rw [ru_cm (fun q => hne ⟨q.1.symm, q.2.symm⟩), ru_ru] at hS
  refine lv_iconst (v := nI 1) hx hb dJx4a65c_add_9ea2d_23 (by decide) ?_
  exact r_zret hx hb hr hlocks hS rfl (⟨_, rfl, rfl, rfl, rfl⟩) (Nat.zero_le _) (Nat.zero_le _) dJx4a65c_add_9ea2d_24

def bd (c : Nat) : Nat := if c = 0 then 1 else 0
def bu (L : rL) (q : Nat) : Nat := bd (L.2.1 16 q) + bd (L.2.1 17 q)
theorem bd_0 {c : Nat} (h : ¬ c = 0) : bd c = 0 := if_neg h
theorem l_add0 {G : rG} {l : Launch} {C : rC} {ad : rA} {L : rL} {k i ek : Nat} (h : lSh G L C ad k i ek) (hk : 10 ≤ k) (hek : ek < 9) {y ci : Nat} {fs : List Value} (hy : C ek y = some (.inr (ci, fs))) (hca : rCa ci) (hlt : (L.1 k i).length < L.2.1 k i) :
    rMet G l yJx4a65c_add_9ea2d cJx4a65c_add_9ea2d 2 (some .boolean) (rmM 8 0 0) [.ref (ad k i), .ref (ad ek y)] C ad (fun v C' ad' => v = some (.int (nI 1)) ∧ ∃ mc, lSh G (lUp L k i (L.1 k i ++ [y]) (lCap (L.1 k i).length (L.2.1 k i)) mc) C' ad' k i ek ∧ lCh k i C ad C' ad') := by
  have h3 := h.2.2
  have hz : ¬ L.2.1 k i = 0 := by omega
  have hcp : lCap (L.1 k i).length (L.2.1 k i) = L.2.1 k i := if_pos hlt
  refine (c_addF0 (k2 := k + 10) (i2 := i) (h.obj' hz) (h.arr hz) (by omega) (by omega) hy hca (by omega) (by omega) hlt).post fun v C' ad' hv => ?_
  obtain ⟨r, rfl, rfl, rfl, rfl⟩ := hv
  refine ⟨rfl, L.2.2 k i + nI 1, ⟨?_, ?_, ?_, ?_⟩, ?_, fun _ _ _ => rfl⟩
  · rw [ru_e, hcp]
    unfold lAd
    rw [lUp_e1, lUp_e2, lUp_e3, if_neg hz, List.length_append, List.length_singleton]
  · rw [ru_n (by omega), ru_e, hcp, lUp_e2, if_neg hz]
    rw [← lFn_add (ad := ad) (L := L) (L' := lUp L k i (L.1 k i ++ [y]) (L.2.1 k i) (L.2.2 k i + nI 1)) rfl lUp_e1 (fun j hj => rfl) (fun j hj => lFn_none (by omega))]
  · rw [hcp, lUp_e1, lUp_e2, List.length_append, List.length_singleton]
    omega
  · rw [hcp, lUp_e2]
    omega
  · intro a b g1 g2
    rw [ru_n g1, ru_n g2]
theorem add_few {G : rG} {l : Launch} {T : rTab} {L : rL} {C : rC} {ad : rA} (hob : cOb G T C ad) (hls : cLs G T L C ad) {k i ek : Nat} (hok : lOk T k i ek) (hsh : lSh G L C ad k i ek) {y ci : Nat} {fs : List Value} (hy : C ek y = some (.inr (ci, fs))) (hca : rCa ci) (hci0 : ¬ ci = 0) (hel : ∀ x ∈ L.1 k i, ∃ fs, C ek x = some (.inr (ci, fs))) (hcap : capB 4 (L.2.1 k i)) (hn : (L.1 k i).length < 4) :
    rMet G l yJx4a65c_add_9ea2d cJx4a65c_add_9ea2d 2 (some .boolean) (rmM 8 (bd (L.2.1 k i)) (10 * bd (L.2.1 k i))) [.ref (ad k i), .ref (ad ek y)] C ad (rRet fun r C' ad' => r = .int (nI 1) ∧ ∃ mc, cOb G T C' ad' ∧ cLs G T (lUp L k i (L.1 k i ++ [y]) (lCap (L.1 k i).length (L.2.1 k i)) mc) C' ad' ∧ lCh k i C ad C' ad' ∧ cFr C ad C' ad' ∧ ∀ a, a < 20 → ad' a = ad a) := by
  have hk : 10 ≤ k ∧ k < 18 ∧ ek < 9 := by
    unfold lOk at hok
    omega
  have key : rMet G l yJx4a65c_add_9ea2d cJx4a65c_add_9ea2d 2 (some .boolean) (rmM 8 (bd (L.2.1 k i)) (10 * bd (L.2.1 k i))) [.ref (ad k i), .ref (ad ek y)] C ad (fun v C' ad' => v = some (.int (nI 1)) ∧ ∃ mc, lSh G (lUp L k i (L.1 k i ++ [y]) (lCap (L.1 k i).length (L.2.1 k i)) mc) C' ad' k i ek ∧ lCh k i C ad C' ad') := by
    by_cases hz : L.2.1 k i = 0
    · have e1 : bd (L.2.1 k i) = 1 := if_pos hz
      rw [e1]
      exact l_add hsh hob.2.2.1 hk.1 hk.2.2 hy hca hci0 hel (by omega) (by omega) (by unfold lCap; rw [if_neg (by omega), if_pos hz]; decide)
    · rw [bd_0 hz]
      exact l_add0 hsh hk.1 hk.2.2 hy hca (by unfold capB at hcap; omega)
  refine rMet.post key (fun v C' ad' h => ?_)
  obtain ⟨h1, mc, h2, h3⟩ := h
  exact ⟨_, h1, rfl, mc, hob.lst h3 hk.1, hls.lst hok h3 h2, h3, cFr.lst h3 (by omega), fun a ha => h3.ade hk.1 ha⟩
def rSame (q : Nat) (L L' : rL) : Prop := ∀ a b, ¬ ((a = 16 ∨ a = 17) ∧ b = q) → L'.1 a b = L.1 a b ∧ L'.2.1 a b = L.2.1 a b
theorem rSame.rf {q : Nat} {L : rL} : rSame q L L := fun _ _ _ => ⟨rfl, rfl⟩
theorem rSame.tr {q : Nat} {L L1 L2 : rL} (h : rSame q L L1) (h2 : rSame q L1 L2) : rSame q L L2 := fun a b hn => ⟨(h2 a b hn).1.trans (h a b hn).1, (h2 a b hn).2.trans (h a b hn).2⟩
theorem rSame.up {q c1 c2 : Nat} {L : rL} {xs ys : List Nat} {m1 m2 : Int32} : rSame q L (lUp (lUp L 16 q xs c1 m1) 17 q ys c2 m2) := fun a b hn => ⟨(lUp_n1 (fun z => hn ⟨Or.inr z.1, z.2⟩)).trans (lUp_n1 (fun z => hn ⟨Or.inl z.1, z.2⟩)), (lUp_n2 (fun z => hn ⟨Or.inr z.1, z.2⟩)).trans (lUp_n2 (fun z => hn ⟨Or.inl z.1, z.2⟩))⟩
theorem up_ring {G : rG} {T : rTab} {L : rL} {C C' : rC} {ad ad' : rA} {q c1 c2 : Nat} {xs ys : List Nat} {m1 m2 : Int32} (hI : cInv G T L C ad) (hq : q = nS T) (hob : cOb G T C' ad') (hls : cLs G T (lUp (lUp L 16 q xs c1 m1) 17 q ys c2 m2) C' ad') (hx : (∀ x, x ∈ xs → x < 8) ∧ (∀ j, j ∈ ys → j < nC T) ∧ xs.length = ys.length ∧ xs.length ≤ 4 ∧ capB 4 c1 ∧ capB 4 c2) : cInv G T (lUp (lUp L 16 q xs c1 m1) 17 q ys c2 m2) C' ad' := by
  refine ⟨⟨hob, hls, hI.1.2.2.1, ?_⟩, hI.2⟩
  obtain ⟨a1, a2, a3, a4, a5, a6, a7, a8⟩ := hI.1.2.2.2
  have n1 : ∀ {a b : Nat}, ¬ ((a = 16 ∨ a = 17) ∧ b = q) → (lUp (lUp L 16 q xs c1 m1) 17 q ys c2 m2).1 a b = L.1 a b ∧ (lUp (lUp L 16 q xs c1 m1) 17 q ys c2 m2).2.1 a b = L.2.1 a b := fun h1 => rSame.up _ _ h1
  have e16 : (lUp (lUp L 16 q xs c1 m1) 17 q ys c2 m2).1 16 q = xs ∧ (lUp (lUp L 16 q xs c1 m1) 17 q ys c2 m2).2.1 16 q = c1 := ⟨(lUp_n1 (fun z => absurd z.1 (by decide))).trans lUp_e1, (lUp_n2 (fun z => absurd z.1 (by decide))).trans lUp_e2⟩
  unfold cHo
  refine ⟨?_, ?_, ?_, fun i hi => ?_, fun q hq => ?_, fun q hq => ?_, fun b hb => ?_, fun b hb => ?_⟩
  · rw [(n1 (fun z => by omega)).1, (n1 (fun z => by omega)).2]
    exact a1
  · rw [(n1 (fun z => by omega)).1, (n1 (fun z => by omega)).2]
    exact a2
  · rw [(n1 (fun z => by omega)).1, (n1 (fun z => by omega)).2]
    exact a3
  · rw [(n1 (fun z => by omega)).1, (n1 (fun z => by omega)).2]
    exact a4 i hi
  · rw [(n1 (fun z => by omega)).1, (n1 (fun z => by omega)).2]
    exact a5 q hq
  · rw [(n1 (fun z => by omega)).1, (n1 (fun z => by omega)).2]
    exact a6 q hq
  · by_cases e : b = q
    · rw [e, e16.1, e16.2, lUp_e1, lUp_e2]
      exact hx
    · rw [(n1 (fun z => e z.2)).1, (n1 (fun z => e z.2)).2, (n1 (fun z => e z.2)).1, (n1 (fun z => e z.2)).2]
      exact a7 b hb
  · rw [(n1 (fun z => by omega)).1, (n1 (fun z => by omega)).1]
    exact a8 b hb
theorem capB_pos {M n c : Nat} (h : capB M c) : lCap n c ≠ 0 := by
  unfold capB at h
  unfold lCap
  split
  · omega
  · split <;> omega

set_option maxHeartbeats 4000000 in
set_option maxRecDepth 100000 in
theorem c_X3_add {G : rG} {l : Launch} {T : rTab} {L : rL} {C : rC} {ad : rA} (hI : cInv G T L C ad) {q : Nat} (hq : q = nS T) {k : Nat} (hk : k < 8) {j : Nat} (hj : j < nC T) (hlen : (L.1 16 q).length < 4) : rMet G l yX3_add cX3_add 3 none (rmM 9 (bu L q) (10 * bu L q)) [.ref (ad 6 q), .ref (ad 5 k), .ref (ad 4 j)] C ad (rVoid fun C' ad' => (∃ L', cInv G T L' C' ad' ∧ L'.1 16 q = L.1 16 q ++ [k] ∧ L'.1 17 q = L.1 17 q ++ [j] ∧ L'.2.1 16 q ≠ 0 ∧ L'.2.1 17 q ≠ 0 ∧ rSame q L L') ∧ cFr C ad C' ad' ∧ ∀ a, a < 20 → ad' a = ad a) := by
  refine rMet.of (by decide) ?_
  intro p e s m below meth c hx hb hml hr hlocks hown hname hK hZ hS
  have hown : s.vm.findClass RX3 = some m.cls := hown
  have hA : ∀ q : Nat, s.heap.size ≤ q → (rF C ad s.heap.size) q := rF.new
  refine r_entry _ (Nat.le_of_ble_eq_true rfl) (fun ls hl => ?_)
  have hl : lv_has ls 3 [(0, .ref (ad 6 q)), (1, .ref (ad 5 k)), (2, .ref (ad 4 j))] := hl
  have hql : q ≤ nS T := by omega
  have hcp := (hI.hrg hql).2.2.2.2
  have hlq := (hI.hrg hql).2.2.1
  refine lv_aload_n hx hb dX3_add_0 rfl (lv_at hl 0 rfl) ?_
  refine gf_X3_12 hx hb hown hK hS (hI.ring hql) rfl dX3_add_1 ?_
  refine lv_aload_n hx hb dX3_add_4 rfl (lv_at hl 1 rfl) ?_
  refine cl_X3_34 hx hb hml hown hK hZ hS hA (add_few hI.1.1 hI.1.2.1 (k := 16) (i := q) (ek := 5) (Or.inr (Or.inr (Or.inr (Or.inr (Or.inr (Or.inl ⟨rfl, hql, rfl⟩)))))) (hI.givers hql) (hI.col hk) rCa_X1 (by decide) (fun x hx => ⟨_, hI.col ((hI.hrg hql).1 x hx)⟩) hcp.1 hlen) ((hI.givers hql).1) rfl hl.1 (Nat.le_of_ble_eq_true rfl) ⟨Nat.le_of_ble_eq_true rfl, Nat.le_of_ble_eq_true rfl⟩ ⟨(by dsimp only [rmM, rmP]; unfold bu; omega), (by dsimp only [rmM, rmP]; unfold bu; omega)⟩ rfl dX3_add_5 (r_kr (fun r C1 ad1 H locs hQ hS => ?_))
  obtain ⟨rfl, m1, hob1, hls1, hch1, hF1, hE1⟩ := hQ
  have ead10 : ad 6 q = ad1 6 q := (congrFun (hE1 6 (by decide)) q).symm
  try rw [ead10] at hl
  try rw [ead10]
  have ead11 : ad 5 k = ad1 5 k := (congrFun (hE1 5 (by decide)) k).symm
  try rw [ead11] at hl
  try rw [ead11]
  have ead12 : ad 4 j = ad1 4 j := (congrFun (hE1 4 (by decide)) j).symm
  try rw [ead12] at hl
  try rw [ead12]
  refine lv_pop hx hb dX3_add_8 rfl ?_
  refine lv_aload_n hx hb dX3_add_9 rfl (lv_at hl 0 rfl) ?_
  refine gf_X3_18 hx hb hown hK hS ((hob1.2.2.2.2.2.2 q).trans (if_pos hql)) rfl dX3_add_10 ?_
  refine lv_aload_n hx hb dX3_add_13 rfl (lv_at hl 2 rfl) ?_
  refine cl_X3_34 hx hb hml hown hK hZ hS hA (add_few hob1 hls1 (k := 17) (i := q) (ek := 4) (Or.inr (Or.inr (Or.inr (Or.inr (Or.inr (Or.inr ⟨rfl, hql, rfl⟩)))))) (hls1.2.2.2.2.2.1 q hql).2 ((hob1.2.2.2.2.1 j).trans (if_pos hj)) rCa_X0 (by decide) (fun x hx => ⟨_, (hob1.2.2.2.2.1 x).trans (if_pos ((hI.hrg hql).2.1 x (by rw [lUp_n1 (fun z => absurd z.1 (by decide))] at hx; exact hx)))⟩) (by rw [lUp_n2 (fun z => absurd z.1 (by decide))]; exact hcp.2) (by rw [lUp_n1 (fun z => absurd z.1 (by decide)), ← hlq]; exact hlen)) ((hls1.2.2.2.2.2.1 q hql).2.1) rfl hl.1 (Nat.le_of_ble_eq_true rfl) ⟨Nat.le_of_ble_eq_true rfl, Nat.le_of_ble_eq_true rfl⟩ ⟨by dsimp only [rmM, rmP]; rw [lUp_n2 (fun z => absurd z.1 (by decide))]; unfold bu; omega, by dsimp only [rmM, rmP]; rw [lUp_n2 (fun z => absurd z.1 (by decide))]; unfold bu; omega⟩ rfl dX3_add_14 (r_kr (fun r C2 ad2 H locs hQ hS => ?_))
  obtain ⟨rfl, m2, hob2, hls2, hch2, hF2, hE2⟩ := hQ
  have ead20 : ad1 6 q = ad2 6 q := (congrFun (hE2 6 (by decide)) q).symm
  try rw [ead20] at hl
  try rw [ead20]
  have ead21 : ad1 5 k = ad2 5 k := (congrFun (hE2 5 (by decide)) k).symm
  try rw [ead21] at hl
  try rw [ead21]
  have ead22 : ad1 4 j = ad2 4 j := (congrFun (hE2 4 (by decide)) j).symm
  try rw [ead22] at hl
  try rw [ead22]
  rw [lUp_n1 (fun z => absurd z.1 (by decide)), lUp_n2 (fun z => absurd z.1 (by decide))] at hls2
  have hu := up_ring hI hq hob2 hls2 ⟨fun x hx => by
    rcases List.mem_append.mp hx with z | z
    · exact (hI.hrg hql).1 x z
    · rw [List.mem_singleton.mp z]; exact hk, fun x hx => by
    rcases List.mem_append.mp hx with z | z
    · exact (hI.hrg hql).2.1 x z
    · rw [List.mem_singleton.mp z]; exact hj, by rw [List.length_append, List.length_append, hlq]; rfl, by rw [List.length_append]; exact hlen, capB_add hcp.1 hlen (hI.givers hql).2.2.1, capB_add hcp.2 (by rw [← hlq]; exact hlen) (hI.gifts hql).2.2.1⟩
  refine lv_pop hx hb dX3_add_17 rfl ?_
  exact r_vret hx hb hr hlocks hS (⟨rfl, ⟨_, hu, (lUp_n1 (fun z => absurd z.1 (by decide))).trans lUp_e1, lUp_e1, (by rw [lUp_n2 (fun z => absurd z.1 (by decide)), lUp_e2]; exact capB_pos hcp.1), (by rw [lUp_e2]; exact capB_pos hcp.2), rSame.up⟩, hF1.tr hF2, fun a ha => (hE2 a ha).trans (hE1 a ha)⟩) (by dsimp only [rmM, rmP]; rw [lUp_n2 (fun z => absurd z.1 (by decide))]; unfold bu; omega) (by dsimp only [rmM, rmP]; rw [lUp_n2 (fun z => absurd z.1 (by decide))]; unfold bu; omega) dX3_add_18

set_option maxHeartbeats 4000000 in
set_option maxRecDepth 100000 in
theorem c_X3_empty {G : rG} {l : Launch} {T : rTab} {L : rL} {C : rC} {ad : rA} (hI : cInv G T L C ad) {q : Nat} (hq : q = nS T) : rMet G l yX3_empty cX3_empty 1 none (rmP 2) [.ref (ad 6 q)] C ad (rVoid fun C' ad' => (∃ L', cInv G T L' C' ad' ∧ L'.1 16 q = [] ∧ L'.1 17 q = [] ∧ L'.2.1 16 q = L.2.1 16 q ∧ L'.2.1 17 q = L.2.1 17 q ∧ rSame q L L') ∧ cFr C ad C' ad' ∧ ∀ a, a < 20 → ad' a = ad a) := by
  refine rMet.of (by decide) ?_
  intro p e s m below meth c hx hb hml hr hlocks hown hname hK hZ hS
  have hown : s.vm.findClass RX3 = some m.cls := hown
  have hA : ∀ q : Nat, s.heap.size ≤ q → (rF C ad s.heap.size) q := rF.new
  refine r_entry _ (Nat.le_of_ble_eq_true rfl) (fun ls hl => ?_)
  have hl : lv_has ls 1 [(0, .ref (ad 6 q))] := hl
  have hql : q ≤ nS T := by omega
  have hcp := (hI.hrg hql).2.2.2.2
  refine lv_aload_n hx hb dX3_empty_0 rfl (lv_at hl 0 rfl) ?_
  refine gf_X3_12 hx hb hown hK hS (hI.ring hql) rfl dX3_empty_1 ?_
  refine cl_X3_31 hx hb hml hown hK hZ hS hA (l_clear (hI.givers hql) (by decide)) ((hI.givers hql).1) rfl hl.1 (Nat.le_of_ble_eq_true rfl) ⟨Nat.le_of_ble_eq_true rfl, Nat.le_of_ble_eq_true rfl⟩ ⟨Nat.zero_le _, Nat.zero_le _⟩ rfl dX3_empty_4 (r_kv (fun C1 ad1 H locs hQ hS => ?_))
  obtain ⟨m1, hsh1, hch1⟩ := hQ
  have hE1 : ∀ a, a < 20 → ad1 a = ad a := fun a ha => hch1.ade (by decide) ha
  have hob1 := hI.1.1.lst hch1 (by decide)
  have hls1 := hI.1.2.1.lst (Or.inr (Or.inr (Or.inr (Or.inr (Or.inr (Or.inl ⟨rfl, hql, rfl⟩)))))) hch1 hsh1
  have ead10 : ad 6 q = ad1 6 q := (congrFun (hE1 6 (by decide)) q).symm
  try rw [ead10] at hl
  try rw [ead10]
  refine lv_aload_n hx hb dX3_empty_7 rfl (lv_at hl 0 rfl) ?_
  refine gf_X3_18 hx hb hown hK hS ((hob1.2.2.2.2.2.2 q).trans (if_pos hql)) rfl dX3_empty_8 ?_
  refine cl_X3_31 hx hb hml hown hK hZ hS hA (l_clear ((hls1.2.2.2.2.2.1 q hql).2) (by decide)) (((hls1.2.2.2.2.2.1 q hql).2).1) rfl hl.1 (Nat.le_of_ble_eq_true rfl) ⟨Nat.le_of_ble_eq_true rfl, Nat.le_of_ble_eq_true rfl⟩ ⟨Nat.zero_le _, Nat.zero_le _⟩ rfl dX3_empty_11 (r_kv (fun C2 ad2 H locs hQ hS => ?_))
  obtain ⟨m2, hsh2, hch2⟩ := hQ
  have hE2 : ∀ a, a < 20 → ad2 a = ad1 a := fun a ha => hch2.ade (by decide) ha
  have hob2 := hob1.lst hch2 (by decide)
  have hls2 := hls1.lst (Or.inr (Or.inr (Or.inr (Or.inr (Or.inr (Or.inr ⟨rfl, hql, rfl⟩)))))) hch2 hsh2
  have ead20 : ad1 6 q = ad2 6 q := (congrFun (hE2 6 (by decide)) q).symm
  try rw [ead20] at hl
  try rw [ead20]
  rw [lUp_n2 (fun z => absurd z.1 (by decide))] at hls2
  have hu := up_ring hI hq hob2 hls2 ⟨fun x hx => (nomatch hx), fun x hx => (nomatch hx), rfl, Nat.zero_le _, hcp.1, hcp.2⟩
  exact r_vret hx hb hr hlocks hS (⟨rfl, ⟨_, hu, (lUp_n1 (fun z => absurd z.1 (by decide))).trans lUp_e1, lUp_e1, (lUp_n2 (fun z => absurd z.1 (by decide))).trans lUp_e2, lUp_e2, rSame.up⟩, (cFr.lst hch1 (by decide)).tr (cFr.lst hch2 (by decide)), fun a ha => (hE2 a ha).trans (hE1 a ha)⟩) (Nat.zero_le _) (Nat.zero_le _) dX3_empty_14

theorem er_last {xs : List Nat} : xs.eraseIdx (xs.length - 1) = xs.dropLast := by
  rw [List.eraseIdx_length_sub_one]

set_option maxHeartbeats 4000000 in
set_option maxRecDepth 100000 in
theorem c_X3_removeLast {G : rG} {l : Launch} {T : rTab} {L : rL} {C : rC} {ad : rA} (hI : cInv G T L C ad) {q : Nat} (hq : q = nS T) (h1 : 1 ≤ (L.1 16 q).length) : rMet G l yX3_removeLast cX3_removeLast 2 none (rmP 5) [.ref (ad 6 q)] C ad (rVoid fun C' ad' => (∃ L', cInv G T L' C' ad' ∧ L'.1 16 q = (L.1 16 q).dropLast ∧ L'.1 17 q = (L.1 17 q).dropLast ∧ L'.2.1 16 q = L.2.1 16 q ∧ L'.2.1 17 q = L.2.1 17 q ∧ rSame q L L') ∧ cFr C ad C' ad' ∧ ∀ a, a < 20 → ad' a = ad a) := by
  refine rMet.of (by decide) ?_
  intro p e s m below meth c hx hb hml hr hlocks hown hname hK hZ hS
  have hown : s.vm.findClass RX3 = some m.cls := hown
  have hA : ∀ q : Nat, s.heap.size ≤ q → (rF C ad s.heap.size) q := rF.new
  refine r_entry _ (Nat.le_of_ble_eq_true rfl) (fun ls hl => ?_)
  have hl : lv_has ls 2 [(0, .ref (ad 6 q))] := hl
  have hql : q ≤ nS T := by omega
  have hcp := (hI.hrg hql).2.2.2.2
  have hlen := (hI.hrg hql).2.2.2.1
  have hlq := (hI.hrg hql).2.2.1
  obtain ⟨c, hcx, hc8⟩ := hI.gvAt hql (show (L.1 16 q).length - 1 < (L.1 16 q).length by omega)
  obtain ⟨y, hy, hyC⟩ := hI.gfAt hql (show (L.1 16 q).length - 1 < (L.1 16 q).length by omega)
  refine lv_aload_n hx hb dX3_removeLast_0 rfl (lv_at hl 0 rfl) ?_
  refine cl_X3_38 hx hb hml hown hK hZ hS hA (c_X3_length hI hql) (hI.ring hql) rfl hl.1 (Nat.le_of_ble_eq_true rfl) ⟨Nat.le_of_ble_eq_true rfl, Nat.le_of_ble_eq_true rfl⟩ ⟨Nat.zero_le _, Nat.zero_le _⟩ rfl dX3_removeLast_1 (r_kp (fun H locs hS => ?_))
  refine lv_iconst (v := nI 1) hx hb dX3_removeLast_4 (by decide) ?_
  refine lv_isub hx hb dX3_removeLast_5 ?_
  refine r_top (y := nI ((L.1 16 q).length - 1)) (pk_sub (by omega)) ?_
  refine lv_istore_n (lv' := [(1, .int (nI ((L.1 16 q).length - 1))), (0, .ref (ad 6 q))]) hx hb dX3_removeLast_6 rfl hl (by decide) rfl (fun ls hl => ?_)
  refine lv_iload_n hx hb dX3_removeLast_7 rfl (lv_at hl 0 rfl) ?_
  refine lv_if_lt (tgt := 29) hx hb dX3_removeLast_8 (by decide) (fun q8 => ?_) (fun q8 => ?_)
  · -- T
    exact absurd q8 (nI_pos (by omega))
  · -- F
    refine lv_aload_n hx hb dX3_removeLast_11 rfl (lv_at hl 1 rfl) ?_
    refine gf_X3_12 hx hb hown hK hS (hI.ring hql) rfl dX3_removeLast_12 ?_
    refine lv_iload_n hx hb dX3_removeLast_15 rfl (lv_at hl 0 rfl) ?_
    refine cl_X3_41 hx hb hml hown hK hZ hS hA (l_remove (hI.givers hql) (by decide) hcx rCa_X1 (by decide) (fun x hx => ⟨_, hI.col ((hI.hrg hql).1 x hx)⟩)) ((hI.givers hql).1) rfl hl.1 (Nat.le_of_ble_eq_true rfl) ⟨Nat.le_of_ble_eq_true rfl, Nat.le_of_ble_eq_true rfl⟩ ⟨Nat.zero_le _, Nat.zero_le _⟩ rfl dX3_removeLast_16 (r_kr (fun r C1 ad1 H locs hQ hS => ?_))
    obtain ⟨rfl, rfl, m1, hsh1, hch1⟩ := hQ
    have hob1 := hI.1.1.lst hch1 (by decide)
    have hls1 := hI.1.2.1.lst (Or.inr (Or.inr (Or.inr (Or.inr (Or.inr (Or.inl ⟨rfl, hql, rfl⟩)))))) hch1 hsh1
    refine lv_pop hx hb dX3_removeLast_19 rfl ?_
    refine lv_aload_n hx hb dX3_removeLast_20 rfl (lv_at hl 1 rfl) ?_
    refine gf_X3_18 hx hb hown hK hS ((hob1.2.2.2.2.2.2 q).trans (if_pos hql)) rfl dX3_removeLast_21 ?_
    refine lv_iload_n hx hb dX3_removeLast_24 rfl (lv_at hl 0 rfl) ?_
    refine cl_X3_41 hx hb hml hown hK hZ hS hA (l_remove (hls1.2.2.2.2.2.1 q hql).2 (by decide) (y := y) (by rw [lUp_n1 (fun z => absurd z.1 (by decide))]; exact hy) rCa_X0 (by decide) (fun x hx => ⟨_, (hob1.2.2.2.2.1 x).trans (if_pos ((hI.hrg hql).2.1 x (by rw [lUp_n1 (fun z => absurd z.1 (by decide))] at hx; exact hx)))⟩)) (((hls1.2.2.2.2.2.1 q hql).2).1) rfl hl.1 (Nat.le_of_ble_eq_true rfl) ⟨Nat.le_of_ble_eq_true rfl, Nat.le_of_ble_eq_true rfl⟩ ⟨Nat.zero_le _, Nat.zero_le _⟩ rfl dX3_removeLast_25 (r_kr (fun r C2 ad2 H locs hQ hS => ?_))
    obtain ⟨rfl, rfl, m2, hsh2, hch2⟩ := hQ
    have hob2 := hob1.lst hch2 (by decide)
    have hls2 := hls1.lst (Or.inr (Or.inr (Or.inr (Or.inr (Or.inr (Or.inr ⟨rfl, hql, rfl⟩)))))) hch2 hsh2
    refine lv_pop hx hb dX3_removeLast_28 rfl ?_
    rw [lUp_n1 (fun z => absurd z.1 (by decide)), lUp_n2 (fun z => absurd z.1 (by decide)), er_last, hlq, er_last] at hls2
    have hu := up_ring hI hq hob2 hls2 ⟨fun x hx => (hI.hrg hql).1 x ((List.dropLast_sublist _).subset hx), fun x hx => (hI.hrg hql).2.1 x ((List.dropLast_sublist _).subset hx), by rw [List.length_dropLast, List.length_dropLast, hlq], by rw [List.length_dropLast]; omega, hcp.1, hcp.2⟩
    exact r_vret hx hb hr hlocks hS (⟨rfl, ⟨_, hu, (lUp_n1 (fun z => absurd z.1 (by decide))).trans lUp_e1, lUp_e1, (lUp_n2 (fun z => absurd z.1 (by decide))).trans lUp_e2, lUp_e2, rSame.up⟩, (cFr.lst hch1 (by decide)).tr (cFr.lst hch2 (by decide)), fun a ha => rfl⟩) (Nat.zero_le _) (Nat.zero_le _) dX3_removeLast_29
