/-! THE LAW'S LOOP (printed by wip/whole/gen/law3.py) -/
set_option maxHeartbeats 4000000 in
theorem law_one {p : Program} {l : Launch} {e : Env} {s : State} {m : MethodId} {below : List Frame} {meth : Method} {c : Code} {Q : State → Prop} {G : rG} {b L j : Nat} {xs : Nat → Int32} (hh : lwH G p l s m c b L xs) (hj : 4 * j + 4 ≤ L) {T : rTab} {C : rC} {ad : rA} {H : Heap} {locs : List Loc} {ls : Array Slot} (hs : lwS G s b j T C ad H locs ls) (next : ∀ (T' : rTab) (C' : rC) (ad' : rA) (H' : Heap) (locs' : List Loc) (ls' : Array Slot), lwS G s b j T' C' ad' H' locs' ls' → W p l e room_1 s m #[Value.ref b] below meth c H' locs' (100 + 150 * (j + 1)) (2000 + 6300 * (j + 1)) Q (F0 m 1889 ls' [])) : W p l e room_1 s m #[Value.ref b] below meth c H locs (100 + 150 * j) (2000 + 6300 * j) Q (F0 m 32 ls []) := by
  have hh0 := hh
  have hs0 := hs
  obtain ⟨hx, hb, hml, hown, hK, hZ, hX, hbl, hlt, hL⟩ := hh0
  obtain ⟨h1, h2, h3, h4, hS, hl⟩ := hs0
  have hbA : ¬ (fun q => s.heap.size ≤ q) b := Nat.not_le.mpr hbl
  refine lv_aload_n hx hb dL_law_32 rfl (lv_at hl 4 rfl) ?_
  refine lv_iload hx hb dL_law_33 (lv_at hl 0 rfl) ?_
  refine va_sld hx hb hX hbl hbA hS.2.2 (nI_in0 (by omega) (by omega)) dL_law_35 ?_
  refine lv_bipush (v := nI 31) hx hb dL_law_36 (by decide) ?_
  refine lv_iand hx hb dL_law_38 ?_
  obtain ⟨k, hk, hkk⟩ := pk_andE (xs (nI (4 * j)).toNatClampNeg) (m := nI 31) 5 (by decide)
  refine r_top hkk ?_
  clear hkk
  rcases (show k = 0 ∨ k = 1 ∨ k = 2 ∨ k = 3 ∨ k = 4 ∨ k = 5 ∨ k = 6 ∨ k = 7 ∨ k = 8 ∨ k = 9 ∨ k = 10 ∨ k = 11 ∨ k = 12 ∨ k = 13 ∨ k = 14 ∨ k = 15 ∨ k = 16 ∨ k = 17 ∨ k = 18 ∨ k = 19 ∨ k = 20 ∨ k = 21 ∨ k = 22 ∨ k = 23 ∨ k = 24 ∨ k = 25 ∨ k = 26 ∨ k = 27 ∨ k = 28 ∨ k = 29 ∨ k = 30 ∨ k = 31 by omega) with rfl | rfl | rfl | rfl | rfl | rfl | rfl | rfl | rfl | rfl | rfl | rfl | rfl | rfl | rfl | rfl | rfl | rfl | rfl | rfl | rfl | rfl | rfl | rfl | rfl | rfl | rfl | rfl | rfl | rfl | rfl | rfl
  · exact lv_tableIn (off := 137) (tgt := 176) hx hb dL_law_39 (by decide) (by decide) rfl (by decide) (law_0 hh hj hs next)
  · exact lv_tableIn (off := 193) (tgt := 232) hx hb dL_law_39 (by decide) (by decide) rfl (by decide) (law_1 hh hj hs next)
  · exact lv_tableIn (off := 261) (tgt := 300) hx hb dL_law_39 (by decide) (by decide) rfl (by decide) (law_2 hh hj hs next)
  · exact lv_tableIn (off := 329) (tgt := 368) hx hb dL_law_39 (by decide) (by decide) rfl (by decide) (law_3 hh hj hs next)
  · exact lv_tableIn (off := 385) (tgt := 424) hx hb dL_law_39 (by decide) (by decide) rfl (by decide) (law_4 hh hj hs next)
  · exact lv_tableIn (off := 441) (tgt := 480) hx hb dL_law_39 (by decide) (by decide) rfl (by decide) (law_5 hh hj hs next)
  · exact lv_tableIn (off := 454) (tgt := 493) hx hb dL_law_39 (by decide) (by decide) rfl (by decide) (law_6 hh hj hs next)
  · exact lv_tableIn (off := 510) (tgt := 549) hx hb dL_law_39 (by decide) (by decide) rfl (by decide) (law_7 hh hj hs next)
  · exact lv_tableIn (off := 566) (tgt := 605) hx hb dL_law_39 (by decide) (by decide) rfl (by decide) (law_8 hh hj hs next)
  · exact lv_tableIn (off := 622) (tgt := 661) hx hb dL_law_39 (by decide) (by decide) rfl (by decide) (law_9 hh hj hs next)
  · exact lv_tableIn (off := 678) (tgt := 717) hx hb dL_law_39 (by decide) (by decide) rfl (by decide) (law_10 hh hj hs next)
  · exact lv_tableIn (off := 734) (tgt := 773) hx hb dL_law_39 (by decide) (by decide) rfl (by decide) (law_11 hh hj hs next)
  · exact lv_tableIn (off := 797) (tgt := 836) hx hb dL_law_39 (by decide) (by decide) rfl (by decide) (law_12 hh hj hs next)
  · exact lv_tableIn (off := 860) (tgt := 899) hx hb dL_law_39 (by decide) (by decide) rfl (by decide) (law_13 hh hj hs next)
  · exact lv_tableIn (off := 916) (tgt := 955) hx hb dL_law_39 (by decide) (by decide) rfl (by decide) (law_14 hh hj hs next)
  · exact lv_tableIn (off := 972) (tgt := 1011) hx hb dL_law_39 (by decide) (by decide) rfl (by decide) (law_15 hh hj hs next)
  · exact lv_tableIn (off := 1028) (tgt := 1067) hx hb dL_law_39 (by decide) (by decide) rfl (by decide) (law_16 hh hj hs next)
  · exact lv_tableIn (off := 1096) (tgt := 1135) hx hb dL_law_39 (by decide) (by decide) rfl (by decide) (law_17 hh hj hs next)
  · exact lv_tableIn (off := 1192) (tgt := 1231) hx hb dL_law_39 (by decide) (by decide) rfl (by decide) (law_18 hh hj hs next)
  · exact lv_tableIn (off := 1260) (tgt := 1299) hx hb dL_law_39 (by decide) (by decide) rfl (by decide) (law_19 hh hj hs next)
  · exact lv_tableIn (off := 1351) (tgt := 1390) hx hb dL_law_39 (by decide) (by decide) rfl (by decide) (law_20 hh hj hs next)
  · exact lv_tableIn (off := 1407) (tgt := 1446) hx hb dL_law_39 (by decide) (by decide) rfl (by decide) (law_21 hh hj hs next)
  · exact lv_tableIn (off := 1463) (tgt := 1502) hx hb dL_law_39 (by decide) (by decide) rfl (by decide) (law_22 hh hj hs next)
  · exact lv_tableIn (off := 1519) (tgt := 1558) hx hb dL_law_39 (by decide) (by decide) rfl (by decide) (law_23 hh hj hs next)
  · exact lv_tableIn (off := 1575) (tgt := 1614) hx hb dL_law_39 (by decide) (by decide) rfl (by decide) (law_24 hh hj hs next)
  · exact lv_tableIn (off := 1643) (tgt := 1682) hx hb dL_law_39 (by decide) (by decide) rfl (by decide) (law_25 hh hj hs next)
  · exact lv_tableIn (off := 1656) (tgt := 1695) hx hb dL_law_39 (by decide) (by decide) rfl (by decide) (law_26 hh hj hs next)
  · exact lv_tableIn (off := 1712) (tgt := 1751) hx hb dL_law_39 (by decide) (by decide) rfl (by decide) (law_27 hh hj hs next)
  · exact lv_tableIn (off := 1756) (tgt := 1795) hx hb dL_law_39 (by decide) (by decide) rfl (by decide) (law_28 hh hj hs next)
  · exact lv_tableIn (off := 1769) (tgt := 1808) hx hb dL_law_39 (by decide) (by decide) rfl (by decide) (law_29 hh hj hs next)
  · exact lv_tableIn (off := 1837) (tgt := 1876) hx hb dL_law_39 (by decide) (by decide) rfl (by decide) (law_30 hh hj hs next)
  · refine lv_tableOut (tgt := 1889) hx hb dL_law_39 (Or.inr (by decide)) (by decide) ?_
    exact W.widen (by omega) (by omega) (next _ _ _ _ _ _ hs)
set_option maxHeartbeats 4000000 in
theorem law_loop {p : Program} {l : Launch} {e : Env} {s : State} {m : MethodId} {below : List Frame} {meth : Method} {c : Code} {Q : State → Prop} {G : rG} {b L : Nat} {xs : Nat → Int32} (hh : lwH G p l s m c b L xs) {T : rTab} {C : rC} {ad : rA} {H : Heap} {locs : List Loc} {ls : Array Slot} (hs : lwS G s b 0 T C ad H locs ls) {cells slots : Nat} (hc : cells ≤ 100) (hsl : slots ≤ 2000)
    (out : ∀ (C' : rC) (ad' : rA) (H' : Heap) (locs' : List Loc) (ls' : Array Slot), rS G.1 (fun q => s.heap.size ≤ q) s.heap C' ad' H' locs' → W p l e room_1 s m #[Value.ref b] below meth c H' locs' 601024 7293034 Q (F0 m 1895 ls' [])) : W p l e room_1 s m #[Value.ref b] below meth c H locs cells slots Q (F0 m 23 ls []) := by
  refine r_loop (σ := Nat × rTab × rC × rA) (fun x => L - 4 * x.1) (fun x H locs ls => 4 * x.1 ≤ L ∧ lwS G s b x.1 x.2.1 x.2.2.1 x.2.2.2 H locs ls) (fun x => 100 + 150 * x.1) (fun x => 2000 + 6300 * x.1) ?_ (0, T, C, ad) (by show cells ≤ 100 + 150 * 0; omega) (by show slots ≤ 2000 + 6300 * 0; omega) ⟨by show 4 * 0 ≤ L; omega, hs⟩
  rintro ⟨j, T, C, ad⟩ ih H locs ls ⟨hj, hs⟩
  dsimp only at hj hs ih ⊢
  have hh0 := hh
  have hs0 := hs
  obtain ⟨hx, hb, hml, hown, hK, hZ, hX, hbl, hlt, hL⟩ := hh0
  obtain ⟨h1, h2, h3, h4, hS, hl⟩ := hs0
  have hbA : ¬ (fun q => s.heap.size ≤ q) b := Nat.not_le.mpr hbl
  refine lv_iload hx hb dL_law_23 (lv_at hl 0 rfl) ?_
  refine lv_aload_n hx hb dL_law_25 rfl (lv_at hl 4 rfl) ?_
  refine va_slen hx hb hX hbl hbA hS.2.2 dL_law_26 ?_
  refine lv_iconst (v := nI 4) hx hb dL_law_27 (by decide) ?_
  refine lv_isub hx hb dL_law_28 ?_
  have e1 : (Int32.ofNat L - nI 4).toInt = (L : Int) - 4 := pk_sub_toInt (a := L) (b := 4) (by omega) (by decide)
  have e2 : (nI (4 * j)).toInt = ((4 * j : Nat) : Int) := nI_toInt (by omega)
  refine lv_icmp_gt (tgt := 1895) hx hb dL_law_29 (by decide) (fun q => ?_) (fun q => ?_)
  · exact W.widen (by omega) (by omega) (out C ad H locs ls hS)
  · rw [Int32.lt_iff_toInt_lt, e1, e2] at q
    have hj4 : 4 * j + 4 ≤ L := by omega
    refine law_one hh hj4 hs (fun T' C' ad' H' locs' ls' hs' => ?_)
    obtain ⟨g1, g2, g3, g4, gS, gl⟩ := hs'
    refine lv_iinc (k := 0) (v := nI (4 * (j + 1))) (lv' := [(4, .int (nI (4 * (j + 1)))), (3, .ref (ad' 46 0)), (2, .ref (ad' 30 0)), (1, .ref (ad' 0 0)), (0, .ref b)]) hx hb dL_law_1889 gl rfl (nI_add (4 * j) 4) (by decide) rfl (fun ls2 gl2 => ?_)
    refine lv_goto (tgt := 23) hx hb dL_law_1892 (by decide) ?_
    exact ih (j + 1, T', C', ad') (by show L - 4 * (j + 1) < L - 4 * j; omega) H' locs' ls2 ⟨by show 4 * (j + 1) ≤ L; omega, g1, g2, g3, g4, gS, gl2⟩
