/-! THE LAW'S LOOP, call by call (printed by wip/whole/gen/law2.py) -/
theorem lg_refl (x : Int64) : lg_cmp x x = nI 0 := (lg_cmp_eq x x).mpr rfl
theorem sOffers_T {T : rTab} {a : Int32} : (sOffers T a).2.2 = T := by
  unfold sOffers
  split <;> rfl
theorem sRingAt_T {T : rTab} {a : Int32} : (sRingAt T a).2.2 = T := by
  unfold sRingAt
  split <;> rfl
theorem mC_o {G : rG} {T : rTab} {th : Int32} {rg : Nat → Int32} {C C1 : rC} {ad ad1 : rA} (hM : mC G T th rg C ad = C) (hF : oFr C ad C1 ad1) : mC G T th rg C1 ad1 = C1 := by
  have hc : ∀ k, 30 ≤ k → k < 45 → C1 k 0 = mC G T th rg C ad k 0 := fun k h1 h2 => by
    rw [hM]
    exact (hF.1 k 0 h1).2 (fun z => by omega)
  have ha : ∀ k, 30 ≤ k → ad1 k 0 = ad k 0 := fun k h1 => (hF.1 k 0 h1).1
  refine (mC_ext ?_ ?_ ?_ ?_ ?_ ?_ ?_ ?_ ?_ ?_ ?_ ?_ ?_ ?_ ?_ (fun k i _ => rfl)).symm
  · rw [hc 30 (by decide) (by decide), mC_30]
    unfold mO
    rw [ha 31 (by decide), ha 32 (by decide), ha 33 (by decide), ha 34 (by decide), ha 35 (by decide), ha 36 (by decide), ha 37 (by decide), ha 38 (by decide), ha 39 (by decide), ha 40 (by decide), ha 41 (by decide), ha 42 (by decide), ha 43 (by decide), ha 44 (by decide)]
  · rw [hc 31 (by decide) (by decide), mC_31]
  · rw [hc 32 (by decide) (by decide), mC_32]
  · rw [hc 33 (by decide) (by decide), mC_33]
  · rw [hc 34 (by decide) (by decide), mC_34]
  · rw [hc 35 (by decide) (by decide), mC_35]
  · rw [hc 36 (by decide) (by decide), mC_36]
  · rw [hc 37 (by decide) (by decide), mC_37]
  · rw [hc 38 (by decide) (by decide), mC_38]
  · rw [hc 39 (by decide) (by decide), mC_39]
  · rw [hc 40 (by decide) (by decide), mC_40]
  · rw [hc 41 (by decide) (by decide), mC_41]
  · rw [hc 42 (by decide) (by decide), mC_42]
  · rw [hc 43 (by decide) (by decide), mC_43]
  · rw [hc 44 (by decide) (by decide), mC_44]
/-- where the loop stands: behind j calls -/
def lwS (G : rG) (s : State) (b j : Nat) (T : rTab) (C : rC) (ad : rA) (H : Heap) (locs : List Loc) (ls : Array Slot) : Prop := (∃ L', cInv G T L' C ad) ∧ rst T ∧ (∃ th rg, mC G T th rg C ad = C) ∧ (∃ f, C 46 0 = some (oA G f)) ∧ rS G.1 (fun q => s.heap.size ≤ q) s.heap C ad H locs ∧ lv_has ls 7 [(4, .int (nI (4 * j))), (3, .ref (ad 46 0)), (2, .ref (ad 30 0)), (1, .ref (ad 0 0)), (0, .ref b)]
def lwH (G : rG) (p : Program) (l : Launch) (s : State) (m : MethodId) (c : Code) (b L : Nat) (xs : Nat → Int32) : Prop := p.tables.exec = Jvm.exec ∧ c.code = cL_law ∧ c.maxLocals = 7 ∧ s.vm.findClass RL = some m.cls ∧ rK G s ∧ rZ G (fun q => s.heap.size ≤ q) s s.heap ∧ va_X b L xs s s.heap ∧ b < s.heap.size ∧ l.stackTraces = false ∧ L ≤ 2048
set_option maxHeartbeats 4000000 in
set_option maxRecDepth 100000 in
theorem law_0 {p : Program} {l : Launch} {e : Env} {s : State} {m : MethodId} {below : List Frame} {meth : Method} {c : Code} {Q : State → Prop} {G : rG} {b L j : Nat} {xs : Nat → Int32} (hh : lwH G p l s m c b L xs) (hj : 4 * j + 4 ≤ L) {T : rTab} {C : rC} {ad : rA} {H : Heap} {locs : List Loc} {ls : Array Slot} (hs : lwS G s b j T C ad H locs ls) (next : ∀ (T' : rTab) (C' : rC) (ad' : rA) (H' : Heap) (locs' : List Loc) (ls' : Array Slot), lwS G s b j T' C' ad' H' locs' ls' → W p l e room_1 s m #[Value.ref b] below meth c H' locs' (100 + 150 * (j + 1)) (2000 + 6300 * (j + 1)) Q (F0 m 1889 ls' [])) : W p l e room_1 s m #[Value.ref b] below meth c H locs (100 + 150 * j) (2000 + 6300 * j) Q (F0 m 176 ls []) := by
  obtain ⟨hx, hb, hml, hown, hK, hZ, hX, hbl, hlt, hL⟩ := hh
  obtain ⟨⟨L0, hI⟩, hR, ⟨th, rg, hM⟩, ⟨f, hO⟩, hS, hl⟩ := hs
  have hN := mNu_of hI hR
  have hnC := hN.hC
  have hnS := hN.hS
  have hA : ∀ q : Nat, s.heap.size ≤ q → (fun q => s.heap.size ≤ q) q := fun _ h => h
  have hbA : ¬ (fun q => s.heap.size ≤ q) b := Nat.not_le.mpr hbl
  obtain ⟨x1, hx1⟩ : ∃ z, z = xs (nI (4 * j + 1)).toNatClampNeg := ⟨_, rfl⟩
  refine lv_aload_n hx hb dL_law_176 rfl (lv_at hl 3 rfl) ?_
  refine lv_aload_n hx hb dL_law_177 rfl (lv_at hl 4 rfl) ?_
  refine lv_iload hx hb dL_law_178 (lv_at hl 0 rfl) ?_
  refine lv_iconst (v := nI 1) hx hb dL_law_180 (by decide) ?_
  refine lv_iadd hx hb dL_law_181 ?_
  refine r_top (nI_add _ _) ?_
  refine va_sld hx hb hX hbl hbA hS.2.2 (nI_in0 (by omega) (by omega)) dL_law_182 ?_
  refine r_top (y := x1) hx1.symm ?_
  refine lv_aload_n hx hb dL_law_183 rfl (lv_at hl 1 rfl) ?_
  refine cl_L_106 hx hb hml hown hK hZ hS hA (c_L_addDie hlt hI hO x1) rfl hl.1 (Nat.le_of_ble_eq_true rfl) ⟨Nat.le_of_ble_eq_true rfl, Nat.le_of_ble_eq_true rfl⟩ ⟨(by show _ ≤ 601024; dsimp only [rmM, rmP]; omega), (by show _ ≤ 7293034; dsimp only [rmM, rmP]; omega)⟩ rfl dL_law_184 (r_kr (fun r C1 ad1 H locs hQ hS => ?_))
  obtain ⟨rfl, ⟨L1, hI1⟩, ⟨f1, hO1, hv1⟩, hF1⟩ := hQ
  have e00 : ad 0 0 = ad1 0 0 := (hF1).2.symm
  have e30 : ad 30 0 = ad1 30 0 := ((hF1).1 30 0 (by decide)).1.symm
  have e46 : ad 46 0 = ad1 46 0 := ((hF1).1 46 0 (by decide)).1.symm
  rw [e00, e30, e46] at hl
  have hM1 := mC_o hM hF1
  rw [← hM1] at hS
  have hle := sAddDie_le (T := T) (a := x1)
  have hle : (sAddDie T x1).1 ≤ 3 := Nat.le_trans hle (by decide)
  refine lv_istore (lv' := [(5, .int (nI (sAddDie T x1).1)), (4, .int (nI (4 * j))), (3, .ref (ad1 46 0)), (2, .ref (ad1 30 0)), (1, .ref (ad1 0 0)), (0, .ref b)]) hx hb dL_law_187 hl (by decide) rfl (fun ls hl => ?_)
  refine lv_aload_n hx hb dL_law_189 rfl (lv_at hl 3 rfl) ?_
  refine lv_aload_n hx hb dL_law_190 rfl (lv_at hl 5 rfl) ?_
  refine lv_iload hx hb dL_law_191 (lv_at hl 1 rfl) ?_
  refine lv_iconst (v := nI 1) hx hb dL_law_193 (by decide) ?_
  refine lv_iadd hx hb dL_law_194 ?_
  refine r_top (nI_add _ _) ?_
  refine va_sld hx hb hX hbl hbA hS.2.2 (nI_in0 (by omega) (by omega)) dL_law_195 ?_
  refine r_top (y := x1) hx1.symm ?_
  refine cl_L_111 hx hb hml hown hK hZ hS hA (c_X5_addDie hN x1) mC_30 rfl hl.1 (Nat.le_of_ble_eq_true rfl) ⟨Nat.le_of_ble_eq_true rfl, Nat.le_of_ble_eq_true rfl⟩ ⟨(by show _ ≤ 601024; dsimp only [rmM, rmP]; omega), (by show _ ≤ 7293034; dsimp only [rmM, rmP]; omega)⟩ rfl dL_law_196 (r_kr (fun r C2 ad2 H locs hQ hS => ?_))
  obtain ⟨rfl, rfl, rfl⟩ := hQ
  refine lv_istore (lv' := [(6, .int (if (sAddDie T x1).1 = 0 then (sAddDie T x1).2.1 else nI 0)), (5, .int (nI (sAddDie T x1).1)), (4, .int (nI (4 * j))), (3, .ref (ad1 46 0)), (2, .ref (ad1 30 0)), (1, .ref (ad1 0 0)), (0, .ref b)]) hx hb dL_law_199 hl (by decide) rfl (fun ls hl => ?_)
  refine lv_aload_n hx hb dL_law_201 rfl (lv_at hl 4 rfl) ?_
  refine cl_L_112 hx hb hml hown hK hZ hS hA c_X5_thrown mC_30 rfl hl.1 (Nat.le_of_ble_eq_true rfl) ⟨Nat.le_of_ble_eq_true rfl, Nat.le_of_ble_eq_true rfl⟩ ⟨(by show _ ≤ 601024; dsimp only [rmM, rmP]; omega), (by show _ ≤ 7293034; dsimp only [rmM, rmP]; omega)⟩ rfl dL_law_202 (r_kp (fun H locs hS => ?_))
  refine lv_iload hx hb dL_law_205 (lv_at hl 1 rfl) ?_
  refine lv_icmp_eq (tgt := 212) hx hb dL_law_207 (by decide) (fun q207 => ?_) (fun q207 => absurd rfl q207)
  refine lv_iload hx hb dL_law_212 (lv_at hl 1 rfl) ?_
  refine r_if_ne (a := (sAddDie T x1).1) (tgt := 229) hx hb (by omega) dL_law_214 (by decide) (fun q0 => ?_) (fun q0 => ?_)
  · -- T
    refine lv_goto (tgt := 1889) hx hb dL_law_229 (by decide) ?_
    exact W.widen (by dsimp only [rmM, rmP]; omega) (by dsimp only [rmM, rmP]; omega) (next _ _ _ _ _ _ ⟨⟨_, (hI1).fr (fun k i hk => ⟨mC_n (Or.inl (by omega)), rfl⟩)⟩, rst_addDie hN x1, ⟨_, _, mC_id⟩, ⟨f1, (mC_n (Or.inr (Or.inl (by decide)))).trans hO1⟩, hS, lv_sub hl [2, 3, 4, 5, 6] rfl⟩)
  · -- F
    refine lv_aload_n hx hb dL_law_217 rfl (lv_at hl 3 rfl) ?_
    refine lv_iconst (v := nI 0) hx hb dL_law_218 (by decide) ?_
    refine r_lald hx hb hK.1 hS 1 ((mC_n (Or.inr (Or.inl (by decide)))).trans hO1) rfl (nI_in0 (by omega) (by omega)) (v := f1 0) (by rw [nI_clamp (by omega)]) dL_law_219 ?_
    refine lv_iload hx hb dL_law_220 (lv_at hl 0 rfl) ?_
    refine lv_i2l (v := (if (sAddDie T x1).1 = 0 then (sAddDie T x1).2.1 else nI 0).toInt64) hx hb dL_law_222 rfl ?_
    refine W.lcmp hx hb dL_law_223 ?_
    refine r_top (y := nI 0) (by rw [hv1 q0, if_pos q0]; exact lg_refl _) ?_
    refine r_if_eq (a := 0) (tgt := 229) hx hb (by decide) dL_law_224 (by decide) (fun q224 => ?_) (fun q224 => absurd rfl q224)
    refine lv_goto (tgt := 1889) hx hb dL_law_229 (by decide) ?_
    exact W.widen (by dsimp only [rmM, rmP]; omega) (by dsimp only [rmM, rmP]; omega) (next _ _ _ _ _ _ ⟨⟨_, (hI1).fr (fun k i hk => ⟨mC_n (Or.inl (by omega)), rfl⟩)⟩, rst_addDie hN x1, ⟨_, _, mC_id⟩, ⟨f1, (mC_n (Or.inr (Or.inl (by decide)))).trans hO1⟩, hS, lv_sub hl [2, 3, 4, 5, 6] rfl⟩)

set_option maxHeartbeats 4000000 in
set_option maxRecDepth 100000 in
theorem law_1 {p : Program} {l : Launch} {e : Env} {s : State} {m : MethodId} {below : List Frame} {meth : Method} {c : Code} {Q : State → Prop} {G : rG} {b L j : Nat} {xs : Nat → Int32} (hh : lwH G p l s m c b L xs) (hj : 4 * j + 4 ≤ L) {T : rTab} {C : rC} {ad : rA} {H : Heap} {locs : List Loc} {ls : Array Slot} (hs : lwS G s b j T C ad H locs ls) (next : ∀ (T' : rTab) (C' : rC) (ad' : rA) (H' : Heap) (locs' : List Loc) (ls' : Array Slot), lwS G s b j T' C' ad' H' locs' ls' → W p l e room_1 s m #[Value.ref b] below meth c H' locs' (100 + 150 * (j + 1)) (2000 + 6300 * (j + 1)) Q (F0 m 1889 ls' [])) : W p l e room_1 s m #[Value.ref b] below meth c H locs (100 + 150 * j) (2000 + 6300 * j) Q (F0 m 232 ls []) := by
  obtain ⟨hx, hb, hml, hown, hK, hZ, hX, hbl, hlt, hL⟩ := hh
  obtain ⟨⟨L0, hI⟩, hR, ⟨th, rg, hM⟩, ⟨f, hO⟩, hS, hl⟩ := hs
  have hN := mNu_of hI hR
  have hnC := hN.hC
  have hnS := hN.hS
  have hA : ∀ q : Nat, s.heap.size ≤ q → (fun q => s.heap.size ≤ q) q := fun _ h => h
  have hbA : ¬ (fun q => s.heap.size ≤ q) b := Nat.not_le.mpr hbl
  obtain ⟨x1, hx1⟩ : ∃ z, z = xs (nI (4 * j + 1)).toNatClampNeg := ⟨_, rfl⟩
  obtain ⟨x2, hx2⟩ : ∃ z, z = xs (nI (4 * j + 2)).toNatClampNeg := ⟨_, rfl⟩
  refine lv_aload_n hx hb dL_law_232 rfl (lv_at hl 3 rfl) ?_
  refine lv_aload_n hx hb dL_law_233 rfl (lv_at hl 4 rfl) ?_
  refine lv_iload hx hb dL_law_234 (lv_at hl 0 rfl) ?_
  refine lv_iconst (v := nI 1) hx hb dL_law_236 (by decide) ?_
  refine lv_iadd hx hb dL_law_237 ?_
  refine r_top (nI_add _ _) ?_
  refine va_sld hx hb hX hbl hbA hS.2.2 (nI_in0 (by omega) (by omega)) dL_law_238 ?_
  refine r_top (y := x1) hx1.symm ?_
  refine lv_aload_n hx hb dL_law_239 rfl (lv_at hl 4 rfl) ?_
  refine lv_iload hx hb dL_law_240 (lv_at hl 0 rfl) ?_
  refine lv_iconst (v := nI 2) hx hb dL_law_242 (by decide) ?_
  refine lv_iadd hx hb dL_law_243 ?_
  refine r_top (nI_add _ _) ?_
  refine va_sld hx hb hX hbl hbA hS.2.2 (nI_in0 (by omega) (by omega)) dL_law_244 ?_
  refine r_top (y := x2) hx2.symm ?_
  refine lv_aload_n hx hb dL_law_245 rfl (lv_at hl 1 rfl) ?_
  refine cl_L_115 hx hb hml hown hK hZ hS hA (c_L_crack hlt hI hO x1 x2) rfl hl.1 (Nat.le_of_ble_eq_true rfl) ⟨Nat.le_of_ble_eq_true rfl, Nat.le_of_ble_eq_true rfl⟩ ⟨(by show _ ≤ 601024; dsimp only [rmM, rmP]; omega), (by show _ ≤ 7293034; dsimp only [rmM, rmP]; omega)⟩ rfl dL_law_246 (r_kr (fun r C1 ad1 H locs hQ hS => ?_))
  obtain ⟨rfl, ⟨L1, hI1⟩, ⟨f1, hO1, hv1⟩, hF1⟩ := hQ
  have e00 : ad 0 0 = ad1 0 0 := (hF1).2.symm
  have e30 : ad 30 0 = ad1 30 0 := ((hF1).1 30 0 (by decide)).1.symm
  have e46 : ad 46 0 = ad1 46 0 := ((hF1).1 46 0 (by decide)).1.symm
  rw [e00, e30, e46] at hl
  have hM1 := mC_o hM hF1
  rw [← hM1] at hS
  have hle := sCrack_le (T := T) (a := x1) (b := x2)
  have hle : (sCrack T x1 x2).1 ≤ 3 := Nat.le_trans hle (by decide)
  refine lv_istore (lv' := [(5, .int (nI (sCrack T x1 x2).1)), (4, .int (nI (4 * j))), (3, .ref (ad1 46 0)), (2, .ref (ad1 30 0)), (1, .ref (ad1 0 0)), (0, .ref b)]) hx hb dL_law_249 hl (by decide) rfl (fun ls hl => ?_)
  refine lv_aload_n hx hb dL_law_251 rfl (lv_at hl 3 rfl) ?_
  refine lv_aload_n hx hb dL_law_252 rfl (lv_at hl 5 rfl) ?_
  refine lv_iload hx hb dL_law_253 (lv_at hl 1 rfl) ?_
  refine lv_iconst (v := nI 1) hx hb dL_law_255 (by decide) ?_
  refine lv_iadd hx hb dL_law_256 ?_
  refine r_top (nI_add _ _) ?_
  refine va_sld hx hb hX hbl hbA hS.2.2 (nI_in0 (by omega) (by omega)) dL_law_257 ?_
  refine r_top (y := x1) hx1.symm ?_
  refine lv_aload_n hx hb dL_law_258 rfl (lv_at hl 5 rfl) ?_
  refine lv_iload hx hb dL_law_259 (lv_at hl 1 rfl) ?_
  refine lv_iconst (v := nI 2) hx hb dL_law_261 (by decide) ?_
  refine lv_iadd hx hb dL_law_262 ?_
  refine r_top (nI_add _ _) ?_
  refine va_sld hx hb hX hbl hbA hS.2.2 (nI_in0 (by omega) (by omega)) dL_law_263 ?_
  refine r_top (y := x2) hx2.symm ?_
  refine cl_L_118 hx hb hml hown hK hZ hS hA (c_X5_crack hN x1 x2) mC_30 rfl hl.1 (Nat.le_of_ble_eq_true rfl) ⟨Nat.le_of_ble_eq_true rfl, Nat.le_of_ble_eq_true rfl⟩ ⟨(by show _ ≤ 601024; dsimp only [rmM, rmP]; omega), (by show _ ≤ 7293034; dsimp only [rmM, rmP]; omega)⟩ rfl dL_law_264 (r_kr (fun r C2 ad2 H locs hQ hS => ?_))
  obtain ⟨rfl, rfl, rfl⟩ := hQ
  refine lv_istore (lv' := [(6, .int (if (sCrack T x1 x2).1 = 0 then (sCrack T x1 x2).2.1 else nI 0)), (5, .int (nI (sCrack T x1 x2).1)), (4, .int (nI (4 * j))), (3, .ref (ad1 46 0)), (2, .ref (ad1 30 0)), (1, .ref (ad1 0 0)), (0, .ref b)]) hx hb dL_law_267 hl (by decide) rfl (fun ls hl => ?_)
  refine lv_aload_n hx hb dL_law_269 rfl (lv_at hl 4 rfl) ?_
  refine cl_L_112 hx hb hml hown hK hZ hS hA c_X5_thrown mC_30 rfl hl.1 (Nat.le_of_ble_eq_true rfl) ⟨Nat.le_of_ble_eq_true rfl, Nat.le_of_ble_eq_true rfl⟩ ⟨(by show _ ≤ 601024; dsimp only [rmM, rmP]; omega), (by show _ ≤ 7293034; dsimp only [rmM, rmP]; omega)⟩ rfl dL_law_270 (r_kp (fun H locs hS => ?_))
  refine lv_iload hx hb dL_law_273 (lv_at hl 1 rfl) ?_
  refine lv_icmp_eq (tgt := 280) hx hb dL_law_275 (by decide) (fun q275 => ?_) (fun q275 => absurd rfl q275)
  refine lv_iload hx hb dL_law_280 (lv_at hl 1 rfl) ?_
  refine r_if_ne (a := (sCrack T x1 x2).1) (tgt := 297) hx hb (by omega) dL_law_282 (by decide) (fun q0 => ?_) (fun q0 => ?_)
  · -- T
    refine lv_goto (tgt := 1889) hx hb dL_law_297 (by decide) ?_
    exact W.widen (by dsimp only [rmM, rmP]; omega) (by dsimp only [rmM, rmP]; omega) (next _ _ _ _ _ _ ⟨⟨_, (hI1).fr (fun k i hk => ⟨mC_n (Or.inl (by omega)), rfl⟩)⟩, rst_crack hR x1 x2, ⟨_, _, mC_id⟩, ⟨f1, (mC_n (Or.inr (Or.inl (by decide)))).trans hO1⟩, hS, lv_sub hl [2, 3, 4, 5, 6] rfl⟩)
  · -- F
    refine lv_aload_n hx hb dL_law_285 rfl (lv_at hl 3 rfl) ?_
    refine lv_iconst (v := nI 0) hx hb dL_law_286 (by decide) ?_
    refine r_lald hx hb hK.1 hS 1 ((mC_n (Or.inr (Or.inl (by decide)))).trans hO1) rfl (nI_in0 (by omega) (by omega)) (v := f1 0) (by rw [nI_clamp (by omega)]) dL_law_287 ?_
    refine lv_iload hx hb dL_law_288 (lv_at hl 0 rfl) ?_
    refine lv_i2l (v := (if (sCrack T x1 x2).1 = 0 then (sCrack T x1 x2).2.1 else nI 0).toInt64) hx hb dL_law_290 rfl ?_
    refine W.lcmp hx hb dL_law_291 ?_
    refine r_top (y := nI 0) (by rw [hv1 q0, if_pos q0]; exact lg_refl _) ?_
    refine r_if_eq (a := 0) (tgt := 297) hx hb (by decide) dL_law_292 (by decide) (fun q292 => ?_) (fun q292 => absurd rfl q292)
    refine lv_goto (tgt := 1889) hx hb dL_law_297 (by decide) ?_
    exact W.widen (by dsimp only [rmM, rmP]; omega) (by dsimp only [rmM, rmP]; omega) (next _ _ _ _ _ _ ⟨⟨_, (hI1).fr (fun k i hk => ⟨mC_n (Or.inl (by omega)), rfl⟩)⟩, rst_crack hR x1 x2, ⟨_, _, mC_id⟩, ⟨f1, (mC_n (Or.inr (Or.inl (by decide)))).trans hO1⟩, hS, lv_sub hl [2, 3, 4, 5, 6] rfl⟩)

set_option maxHeartbeats 4000000 in
set_option maxRecDepth 100000 in
theorem law_2 {p : Program} {l : Launch} {e : Env} {s : State} {m : MethodId} {below : List Frame} {meth : Method} {c : Code} {Q : State → Prop} {G : rG} {b L j : Nat} {xs : Nat → Int32} (hh : lwH G p l s m c b L xs) (hj : 4 * j + 4 ≤ L) {T : rTab} {C : rC} {ad : rA} {H : Heap} {locs : List Loc} {ls : Array Slot} (hs : lwS G s b j T C ad H locs ls) (next : ∀ (T' : rTab) (C' : rC) (ad' : rA) (H' : Heap) (locs' : List Loc) (ls' : Array Slot), lwS G s b j T' C' ad' H' locs' ls' → W p l e room_1 s m #[Value.ref b] below meth c H' locs' (100 + 150 * (j + 1)) (2000 + 6300 * (j + 1)) Q (F0 m 1889 ls' [])) : W p l e room_1 s m #[Value.ref b] below meth c H locs (100 + 150 * j) (2000 + 6300 * j) Q (F0 m 300 ls []) := by
  obtain ⟨hx, hb, hml, hown, hK, hZ, hX, hbl, hlt, hL⟩ := hh
  obtain ⟨⟨L0, hI⟩, hR, ⟨th, rg, hM⟩, ⟨f, hO⟩, hS, hl⟩ := hs
  have hN := mNu_of hI hR
  have hnC := hN.hC
  have hnS := hN.hS
  have hA : ∀ q : Nat, s.heap.size ≤ q → (fun q => s.heap.size ≤ q) q := fun _ h => h
  have hbA : ¬ (fun q => s.heap.size ≤ q) b := Nat.not_le.mpr hbl
  obtain ⟨x1, hx1⟩ : ∃ z, z = xs (nI (4 * j + 1)).toNatClampNeg := ⟨_, rfl⟩
  obtain ⟨x2, hx2⟩ : ∃ z, z = xs (nI (4 * j + 2)).toNatClampNeg := ⟨_, rfl⟩
  refine lv_aload_n hx hb dL_law_300 rfl (lv_at hl 3 rfl) ?_
  refine lv_aload_n hx hb dL_law_301 rfl (lv_at hl 4 rfl) ?_
  refine lv_iload hx hb dL_law_302 (lv_at hl 0 rfl) ?_
  refine lv_iconst (v := nI 1) hx hb dL_law_304 (by decide) ?_
  refine lv_iadd hx hb dL_law_305 ?_
  refine r_top (nI_add _ _) ?_
  refine va_sld hx hb hX hbl hbA hS.2.2 (nI_in0 (by omega) (by omega)) dL_law_306 ?_
  refine r_top (y := x1) hx1.symm ?_
  refine lv_aload_n hx hb dL_law_307 rfl (lv_at hl 4 rfl) ?_
  refine lv_iload hx hb dL_law_308 (lv_at hl 0 rfl) ?_
  refine lv_iconst (v := nI 2) hx hb dL_law_310 (by decide) ?_
  refine lv_iadd hx hb dL_law_311 ?_
  refine r_top (nI_add _ _) ?_
  refine va_sld hx hb hX hbl hbA hS.2.2 (nI_in0 (by omega) (by omega)) dL_law_312 ?_
  refine r_top (y := x2) hx2.symm ?_
  refine lv_aload_n hx hb dL_law_313 rfl (lv_at hl 1 rfl) ?_
  refine cl_L_119 hx hb hml hown hK hZ hS hA (c_L_strike hlt hI hO x1 x2) rfl hl.1 (Nat.le_of_ble_eq_true rfl) ⟨Nat.le_of_ble_eq_true rfl, Nat.le_of_ble_eq_true rfl⟩ ⟨(by show _ ≤ 601024; dsimp only [rmM, rmP]; omega), (by show _ ≤ 7293034; dsimp only [rmM, rmP]; omega)⟩ rfl dL_law_314 (r_kr (fun r C1 ad1 H locs hQ hS => ?_))
  obtain ⟨rfl, ⟨L1, hI1⟩, ⟨f1, hO1, hv1⟩, hF1⟩ := hQ
  have e00 : ad 0 0 = ad1 0 0 := (hF1).2.symm
  have e30 : ad 30 0 = ad1 30 0 := ((hF1).1 30 0 (by decide)).1.symm
  have e46 : ad 46 0 = ad1 46 0 := ((hF1).1 46 0 (by decide)).1.symm
  rw [e00, e30, e46] at hl
  have hM1 := mC_o hM hF1
  rw [← hM1] at hS
  have hle := sStrike_le (T := T) (a := x1) (b := x2)
  have hle : (sStrike T x1 x2).1 ≤ 3 := Nat.le_trans hle (by decide)
  refine lv_istore (lv' := [(5, .int (nI (sStrike T x1 x2).1)), (4, .int (nI (4 * j))), (3, .ref (ad1 46 0)), (2, .ref (ad1 30 0)), (1, .ref (ad1 0 0)), (0, .ref b)]) hx hb dL_law_317 hl (by decide) rfl (fun ls hl => ?_)
  refine lv_aload_n hx hb dL_law_319 rfl (lv_at hl 3 rfl) ?_
  refine lv_aload_n hx hb dL_law_320 rfl (lv_at hl 5 rfl) ?_
  refine lv_iload hx hb dL_law_321 (lv_at hl 1 rfl) ?_
  refine lv_iconst (v := nI 1) hx hb dL_law_323 (by decide) ?_
  refine lv_iadd hx hb dL_law_324 ?_
  refine r_top (nI_add _ _) ?_
  refine va_sld hx hb hX hbl hbA hS.2.2 (nI_in0 (by omega) (by omega)) dL_law_325 ?_
  refine r_top (y := x1) hx1.symm ?_
  refine lv_aload_n hx hb dL_law_326 rfl (lv_at hl 5 rfl) ?_
  refine lv_iload hx hb dL_law_327 (lv_at hl 1 rfl) ?_
  refine lv_iconst (v := nI 2) hx hb dL_law_329 (by decide) ?_
  refine lv_iadd hx hb dL_law_330 ?_
  refine r_top (nI_add _ _) ?_
  refine va_sld hx hb hX hbl hbA hS.2.2 (nI_in0 (by omega) (by omega)) dL_law_331 ?_
  refine r_top (y := x2) hx2.symm ?_
  refine cl_L_121 hx hb hml hown hK hZ hS hA (c_X5_strike hN x1 x2) mC_30 rfl hl.1 (Nat.le_of_ble_eq_true rfl) ⟨Nat.le_of_ble_eq_true rfl, Nat.le_of_ble_eq_true rfl⟩ ⟨(by show _ ≤ 601024; dsimp only [rmM, rmP]; omega), (by show _ ≤ 7293034; dsimp only [rmM, rmP]; omega)⟩ rfl dL_law_332 (r_kr (fun r C2 ad2 H locs hQ hS => ?_))
  obtain ⟨rfl, rfl, rfl⟩ := hQ
  refine lv_istore (lv' := [(6, .int (if (sStrike T x1 x2).1 = 0 then (sStrike T x1 x2).2.1 else nI 0)), (5, .int (nI (sStrike T x1 x2).1)), (4, .int (nI (4 * j))), (3, .ref (ad1 46 0)), (2, .ref (ad1 30 0)), (1, .ref (ad1 0 0)), (0, .ref b)]) hx hb dL_law_335 hl (by decide) rfl (fun ls hl => ?_)
  refine lv_aload_n hx hb dL_law_337 rfl (lv_at hl 4 rfl) ?_
  refine cl_L_112 hx hb hml hown hK hZ hS hA c_X5_thrown mC_30 rfl hl.1 (Nat.le_of_ble_eq_true rfl) ⟨Nat.le_of_ble_eq_true rfl, Nat.le_of_ble_eq_true rfl⟩ ⟨(by show _ ≤ 601024; dsimp only [rmM, rmP]; omega), (by show _ ≤ 7293034; dsimp only [rmM, rmP]; omega)⟩ rfl dL_law_338 (r_kp (fun H locs hS => ?_))
  refine lv_iload hx hb dL_law_341 (lv_at hl 1 rfl) ?_
  refine lv_icmp_eq (tgt := 348) hx hb dL_law_343 (by decide) (fun q343 => ?_) (fun q343 => absurd rfl q343)
  refine lv_iload hx hb dL_law_348 (lv_at hl 1 rfl) ?_
  refine r_if_ne (a := (sStrike T x1 x2).1) (tgt := 365) hx hb (by omega) dL_law_350 (by decide) (fun q0 => ?_) (fun q0 => ?_)
  · -- T
    refine lv_goto (tgt := 1889) hx hb dL_law_365 (by decide) ?_
    exact W.widen (by dsimp only [rmM, rmP]; omega) (by dsimp only [rmM, rmP]; omega) (next _ _ _ _ _ _ ⟨⟨_, (hI1).fr (fun k i hk => ⟨mC_n (Or.inl (by omega)), rfl⟩)⟩, rst_strike hR x1 x2, ⟨_, _, mC_id⟩, ⟨f1, (mC_n (Or.inr (Or.inl (by decide)))).trans hO1⟩, hS, lv_sub hl [2, 3, 4, 5, 6] rfl⟩)
  · -- F
    refine lv_aload_n hx hb dL_law_353 rfl (lv_at hl 3 rfl) ?_
    refine lv_iconst (v := nI 0) hx hb dL_law_354 (by decide) ?_
    refine r_lald hx hb hK.1 hS 1 ((mC_n (Or.inr (Or.inl (by decide)))).trans hO1) rfl (nI_in0 (by omega) (by omega)) (v := f1 0) (by rw [nI_clamp (by omega)]) dL_law_355 ?_
    refine lv_iload hx hb dL_law_356 (lv_at hl 0 rfl) ?_
    refine lv_i2l (v := (if (sStrike T x1 x2).1 = 0 then (sStrike T x1 x2).2.1 else nI 0).toInt64) hx hb dL_law_358 rfl ?_
    refine W.lcmp hx hb dL_law_359 ?_
    refine r_top (y := nI 0) (by rw [hv1 q0, if_pos q0]; exact lg_refl _) ?_
    refine r_if_eq (a := 0) (tgt := 365) hx hb (by decide) dL_law_360 (by decide) (fun q360 => ?_) (fun q360 => absurd rfl q360)
    refine lv_goto (tgt := 1889) hx hb dL_law_365 (by decide) ?_
    exact W.widen (by dsimp only [rmM, rmP]; omega) (by dsimp only [rmM, rmP]; omega) (next _ _ _ _ _ _ ⟨⟨_, (hI1).fr (fun k i hk => ⟨mC_n (Or.inl (by omega)), rfl⟩)⟩, rst_strike hR x1 x2, ⟨_, _, mC_id⟩, ⟨f1, (mC_n (Or.inr (Or.inl (by decide)))).trans hO1⟩, hS, lv_sub hl [2, 3, 4, 5, 6] rfl⟩)

set_option maxHeartbeats 4000000 in
set_option maxRecDepth 100000 in
theorem law_3 {p : Program} {l : Launch} {e : Env} {s : State} {m : MethodId} {below : List Frame} {meth : Method} {c : Code} {Q : State → Prop} {G : rG} {b L j : Nat} {xs : Nat → Int32} (hh : lwH G p l s m c b L xs) (hj : 4 * j + 4 ≤ L) {T : rTab} {C : rC} {ad : rA} {H : Heap} {locs : List Loc} {ls : Array Slot} (hs : lwS G s b j T C ad H locs ls) (next : ∀ (T' : rTab) (C' : rC) (ad' : rA) (H' : Heap) (locs' : List Loc) (ls' : Array Slot), lwS G s b j T' C' ad' H' locs' ls' → W p l e room_1 s m #[Value.ref b] below meth c H' locs' (100 + 150 * (j + 1)) (2000 + 6300 * (j + 1)) Q (F0 m 1889 ls' [])) : W p l e room_1 s m #[Value.ref b] below meth c H locs (100 + 150 * j) (2000 + 6300 * j) Q (F0 m 368 ls []) := by
  obtain ⟨hx, hb, hml, hown, hK, hZ, hX, hbl, hlt, hL⟩ := hh
  obtain ⟨⟨L0, hI⟩, hR, ⟨th, rg, hM⟩, ⟨f, hO⟩, hS, hl⟩ := hs
  have hN := mNu_of hI hR
  have hnC := hN.hC
  have hnS := hN.hS
  have hA : ∀ q : Nat, s.heap.size ≤ q → (fun q => s.heap.size ≤ q) q := fun _ h => h
  have hbA : ¬ (fun q => s.heap.size ≤ q) b := Nat.not_le.mpr hbl
  obtain ⟨x1, hx1⟩ : ∃ z, z = xs (nI (4 * j + 1)).toNatClampNeg := ⟨_, rfl⟩
  refine lv_aload_n hx hb dL_law_368 rfl (lv_at hl 3 rfl) ?_
  refine lv_aload_n hx hb dL_law_369 rfl (lv_at hl 4 rfl) ?_
  refine lv_iload hx hb dL_law_370 (lv_at hl 0 rfl) ?_
  refine lv_iconst (v := nI 1) hx hb dL_law_372 (by decide) ?_
  refine lv_iadd hx hb dL_law_373 ?_
  refine r_top (nI_add _ _) ?_
  refine va_sld hx hb hX hbl hbA hS.2.2 (nI_in0 (by omega) (by omega)) dL_law_374 ?_
  refine r_top (y := x1) hx1.symm ?_
  refine lv_aload_n hx hb dL_law_375 rfl (lv_at hl 1 rfl) ?_
  refine cl_L_122 hx hb hml hown hK hZ hS hA (c_L_cast hlt hI hO x1) rfl hl.1 (Nat.le_of_ble_eq_true rfl) ⟨Nat.le_of_ble_eq_true rfl, Nat.le_of_ble_eq_true rfl⟩ ⟨(by show _ ≤ 601024; dsimp only [rmM, rmP]; omega), (by show _ ≤ 7293034; dsimp only [rmM, rmP]; omega)⟩ rfl dL_law_376 (r_kr (fun r C1 ad1 H locs hQ hS => ?_))
  obtain ⟨rfl, ⟨L1, hI1⟩, ⟨f1, hO1, hv1⟩, hF1⟩ := hQ
  have e00 : ad 0 0 = ad1 0 0 := (hF1).2.symm
  have e30 : ad 30 0 = ad1 30 0 := ((hF1).1 30 0 (by decide)).1.symm
  have e46 : ad 46 0 = ad1 46 0 := ((hF1).1 46 0 (by decide)).1.symm
  rw [e00, e30, e46] at hl
  have hM1 := mC_o hM hF1
  rw [← hM1] at hS
  have hle := sCast_le (T := T) (a := x1)
  have hle : (sCast T x1).1 ≤ 3 := Nat.le_trans hle (by decide)
  refine lv_istore (lv' := [(5, .int (nI (sCast T x1).1)), (4, .int (nI (4 * j))), (3, .ref (ad1 46 0)), (2, .ref (ad1 30 0)), (1, .ref (ad1 0 0)), (0, .ref b)]) hx hb dL_law_379 hl (by decide) rfl (fun ls hl => ?_)
  refine lv_aload_n hx hb dL_law_381 rfl (lv_at hl 3 rfl) ?_
  refine lv_aload_n hx hb dL_law_382 rfl (lv_at hl 5 rfl) ?_
  refine lv_iload hx hb dL_law_383 (lv_at hl 1 rfl) ?_
  refine lv_iconst (v := nI 1) hx hb dL_law_385 (by decide) ?_
  refine lv_iadd hx hb dL_law_386 ?_
  refine r_top (nI_add _ _) ?_
  refine va_sld hx hb hX hbl hbA hS.2.2 (nI_in0 (by omega) (by omega)) dL_law_387 ?_
  refine r_top (y := x1) hx1.symm ?_
  refine cl_L_124 hx hb hml hown hK hZ hS hA (c_X5_cast hN x1) mC_30 rfl hl.1 (Nat.le_of_ble_eq_true rfl) ⟨Nat.le_of_ble_eq_true rfl, Nat.le_of_ble_eq_true rfl⟩ ⟨(by show _ ≤ 601024; dsimp only [rmM, rmP]; omega), (by show _ ≤ 7293034; dsimp only [rmM, rmP]; omega)⟩ rfl dL_law_388 (r_kr (fun r C2 ad2 H locs hQ hS => ?_))
  obtain ⟨rfl, rfl, rfl⟩ := hQ
  refine lv_istore (lv' := [(6, .int (if (sCast T x1).1 = 0 then (sCast T x1).2.1 else nI 0)), (5, .int (nI (sCast T x1).1)), (4, .int (nI (4 * j))), (3, .ref (ad1 46 0)), (2, .ref (ad1 30 0)), (1, .ref (ad1 0 0)), (0, .ref b)]) hx hb dL_law_391 hl (by decide) rfl (fun ls hl => ?_)
  refine lv_aload_n hx hb dL_law_393 rfl (lv_at hl 4 rfl) ?_
  refine cl_L_112 hx hb hml hown hK hZ hS hA c_X5_thrown mC_30 rfl hl.1 (Nat.le_of_ble_eq_true rfl) ⟨Nat.le_of_ble_eq_true rfl, Nat.le_of_ble_eq_true rfl⟩ ⟨(by show _ ≤ 601024; dsimp only [rmM, rmP]; omega), (by show _ ≤ 7293034; dsimp only [rmM, rmP]; omega)⟩ rfl dL_law_394 (r_kp (fun H locs hS => ?_))
  refine lv_iload hx hb dL_law_397 (lv_at hl 1 rfl) ?_
  refine lv_icmp_eq (tgt := 404) hx hb dL_law_399 (by decide) (fun q399 => ?_) (fun q399 => absurd rfl q399)
  refine lv_iload hx hb dL_law_404 (lv_at hl 1 rfl) ?_
  refine r_if_ne (a := (sCast T x1).1) (tgt := 421) hx hb (by omega) dL_law_406 (by decide) (fun q0 => ?_) (fun q0 => ?_)
  · -- T
    refine lv_goto (tgt := 1889) hx hb dL_law_421 (by decide) ?_
    exact W.widen (by dsimp only [rmM, rmP]; omega) (by dsimp only [rmM, rmP]; omega) (next _ _ _ _ _ _ ⟨⟨_, (hI1).fr (fun k i hk => ⟨mC_n (Or.inl (by omega)), rfl⟩)⟩, rst_cast hN x1, ⟨_, _, mC_id⟩, ⟨f1, (mC_n (Or.inr (Or.inl (by decide)))).trans hO1⟩, hS, lv_sub hl [2, 3, 4, 5, 6] rfl⟩)
  · -- F
    refine lv_aload_n hx hb dL_law_409 rfl (lv_at hl 3 rfl) ?_
    refine lv_iconst (v := nI 0) hx hb dL_law_410 (by decide) ?_
    refine r_lald hx hb hK.1 hS 1 ((mC_n (Or.inr (Or.inl (by decide)))).trans hO1) rfl (nI_in0 (by omega) (by omega)) (v := f1 0) (by rw [nI_clamp (by omega)]) dL_law_411 ?_
    refine lv_iload hx hb dL_law_412 (lv_at hl 0 rfl) ?_
    refine lv_i2l (v := (if (sCast T x1).1 = 0 then (sCast T x1).2.1 else nI 0).toInt64) hx hb dL_law_414 rfl ?_
    refine W.lcmp hx hb dL_law_415 ?_
    refine r_top (y := nI 0) (by rw [hv1 q0, if_pos q0]; exact lg_refl _) ?_
    refine r_if_eq (a := 0) (tgt := 421) hx hb (by decide) dL_law_416 (by decide) (fun q416 => ?_) (fun q416 => absurd rfl q416)
    refine lv_goto (tgt := 1889) hx hb dL_law_421 (by decide) ?_
    exact W.widen (by dsimp only [rmM, rmP]; omega) (by dsimp only [rmM, rmP]; omega) (next _ _ _ _ _ _ ⟨⟨_, (hI1).fr (fun k i hk => ⟨mC_n (Or.inl (by omega)), rfl⟩)⟩, rst_cast hN x1, ⟨_, _, mC_id⟩, ⟨f1, (mC_n (Or.inr (Or.inl (by decide)))).trans hO1⟩, hS, lv_sub hl [2, 3, 4, 5, 6] rfl⟩)

set_option maxHeartbeats 4000000 in
set_option maxRecDepth 100000 in
theorem law_4 {p : Program} {l : Launch} {e : Env} {s : State} {m : MethodId} {below : List Frame} {meth : Method} {c : Code} {Q : State → Prop} {G : rG} {b L j : Nat} {xs : Nat → Int32} (hh : lwH G p l s m c b L xs) (hj : 4 * j + 4 ≤ L) {T : rTab} {C : rC} {ad : rA} {H : Heap} {locs : List Loc} {ls : Array Slot} (hs : lwS G s b j T C ad H locs ls) (next : ∀ (T' : rTab) (C' : rC) (ad' : rA) (H' : Heap) (locs' : List Loc) (ls' : Array Slot), lwS G s b j T' C' ad' H' locs' ls' → W p l e room_1 s m #[Value.ref b] below meth c H' locs' (100 + 150 * (j + 1)) (2000 + 6300 * (j + 1)) Q (F0 m 1889 ls' [])) : W p l e room_1 s m #[Value.ref b] below meth c H locs (100 + 150 * j) (2000 + 6300 * j) Q (F0 m 424 ls []) := by
  obtain ⟨hx, hb, hml, hown, hK, hZ, hX, hbl, hlt, hL⟩ := hh
  obtain ⟨⟨L0, hI⟩, hR, ⟨th, rg, hM⟩, ⟨f, hO⟩, hS, hl⟩ := hs
  have hN := mNu_of hI hR
  have hnC := hN.hC
  have hnS := hN.hS
  have hA : ∀ q : Nat, s.heap.size ≤ q → (fun q => s.heap.size ≤ q) q := fun _ h => h
  have hbA : ¬ (fun q => s.heap.size ≤ q) b := Nat.not_le.mpr hbl
  obtain ⟨x1, hx1⟩ : ∃ z, z = xs (nI (4 * j + 1)).toNatClampNeg := ⟨_, rfl⟩
  refine lv_aload_n hx hb dL_law_424 rfl (lv_at hl 3 rfl) ?_
  refine lv_aload_n hx hb dL_law_425 rfl (lv_at hl 4 rfl) ?_
  refine lv_iload hx hb dL_law_426 (lv_at hl 0 rfl) ?_
  refine lv_iconst (v := nI 1) hx hb dL_law_428 (by decide) ?_
  refine lv_iadd hx hb dL_law_429 ?_
  refine r_top (nI_add _ _) ?_
  refine va_sld hx hb hX hbl hbA hS.2.2 (nI_in0 (by omega) (by omega)) dL_law_430 ?_
  refine r_top (y := x1) hx1.symm ?_
  refine lv_aload_n hx hb dL_law_431 rfl (lv_at hl 1 rfl) ?_
  refine cl_L_125 hx hb hml hown hK hZ hS hA (c_L_melt hlt hI hO x1) rfl hl.1 (Nat.le_of_ble_eq_true rfl) ⟨Nat.le_of_ble_eq_true rfl, Nat.le_of_ble_eq_true rfl⟩ ⟨(by show _ ≤ 601024; dsimp only [rmM, rmP]; omega), (by show _ ≤ 7293034; dsimp only [rmM, rmP]; omega)⟩ rfl dL_law_432 (r_kr (fun r C1 ad1 H locs hQ hS => ?_))
  obtain ⟨rfl, ⟨L1, hI1⟩, ⟨f1, hO1, hv1⟩, hF1⟩ := hQ
  have e00 : ad 0 0 = ad1 0 0 := (hF1).2.symm
  have e30 : ad 30 0 = ad1 30 0 := ((hF1).1 30 0 (by decide)).1.symm
  have e46 : ad 46 0 = ad1 46 0 := ((hF1).1 46 0 (by decide)).1.symm
  rw [e00, e30, e46] at hl
  have hM1 := mC_o hM hF1
  rw [← hM1] at hS
  have hle := sMelt_le (T := T) (a := x1)
  have hle : (sMelt T x1).1 ≤ 3 := Nat.le_trans hle (by decide)
  refine lv_istore (lv' := [(5, .int (nI (sMelt T x1).1)), (4, .int (nI (4 * j))), (3, .ref (ad1 46 0)), (2, .ref (ad1 30 0)), (1, .ref (ad1 0 0)), (0, .ref b)]) hx hb dL_law_435 hl (by decide) rfl (fun ls hl => ?_)
  refine lv_aload_n hx hb dL_law_437 rfl (lv_at hl 3 rfl) ?_
  refine lv_aload_n hx hb dL_law_438 rfl (lv_at hl 5 rfl) ?_
  refine lv_iload hx hb dL_law_439 (lv_at hl 1 rfl) ?_
  refine lv_iconst (v := nI 1) hx hb dL_law_441 (by decide) ?_
  refine lv_iadd hx hb dL_law_442 ?_
  refine r_top (nI_add _ _) ?_
  refine va_sld hx hb hX hbl hbA hS.2.2 (nI_in0 (by omega) (by omega)) dL_law_443 ?_
  refine r_top (y := x1) hx1.symm ?_
  refine cl_L_127 hx hb hml hown hK hZ hS hA (c_X5_melt hN x1) mC_30 rfl hl.1 (Nat.le_of_ble_eq_true rfl) ⟨Nat.le_of_ble_eq_true rfl, Nat.le_of_ble_eq_true rfl⟩ ⟨(by show _ ≤ 601024; dsimp only [rmM, rmP]; omega), (by show _ ≤ 7293034; dsimp only [rmM, rmP]; omega)⟩ rfl dL_law_444 (r_kr (fun r C2 ad2 H locs hQ hS => ?_))
  obtain ⟨rfl, rfl, rfl⟩ := hQ
  refine lv_istore (lv' := [(6, .int (if (sMelt T x1).1 = 0 then (sMelt T x1).2.1 else nI 0)), (5, .int (nI (sMelt T x1).1)), (4, .int (nI (4 * j))), (3, .ref (ad1 46 0)), (2, .ref (ad1 30 0)), (1, .ref (ad1 0 0)), (0, .ref b)]) hx hb dL_law_447 hl (by decide) rfl (fun ls hl => ?_)
  refine lv_aload_n hx hb dL_law_449 rfl (lv_at hl 4 rfl) ?_
  refine cl_L_112 hx hb hml hown hK hZ hS hA c_X5_thrown mC_30 rfl hl.1 (Nat.le_of_ble_eq_true rfl) ⟨Nat.le_of_ble_eq_true rfl, Nat.le_of_ble_eq_true rfl⟩ ⟨(by show _ ≤ 601024; dsimp only [rmM, rmP]; omega), (by show _ ≤ 7293034; dsimp only [rmM, rmP]; omega)⟩ rfl dL_law_450 (r_kp (fun H locs hS => ?_))
  refine lv_iload hx hb dL_law_453 (lv_at hl 1 rfl) ?_
  refine lv_icmp_eq (tgt := 460) hx hb dL_law_455 (by decide) (fun q455 => ?_) (fun q455 => absurd rfl q455)
  refine lv_iload hx hb dL_law_460 (lv_at hl 1 rfl) ?_
  refine r_if_ne (a := (sMelt T x1).1) (tgt := 477) hx hb (by omega) dL_law_462 (by decide) (fun q0 => ?_) (fun q0 => ?_)
  · -- T
    refine lv_goto (tgt := 1889) hx hb dL_law_477 (by decide) ?_
    exact W.widen (by dsimp only [rmM, rmP]; omega) (by dsimp only [rmM, rmP]; omega) (next _ _ _ _ _ _ ⟨⟨_, (hI1).fr (fun k i hk => ⟨mC_n (Or.inl (by omega)), rfl⟩)⟩, rst_melt hR x1, ⟨_, _, mC_id⟩, ⟨f1, (mC_n (Or.inr (Or.inl (by decide)))).trans hO1⟩, hS, lv_sub hl [2, 3, 4, 5, 6] rfl⟩)
  · -- F
    refine lv_aload_n hx hb dL_law_465 rfl (lv_at hl 3 rfl) ?_
    refine lv_iconst (v := nI 0) hx hb dL_law_466 (by decide) ?_
    refine r_lald hx hb hK.1 hS 1 ((mC_n (Or.inr (Or.inl (by decide)))).trans hO1) rfl (nI_in0 (by omega) (by omega)) (v := f1 0) (by rw [nI_clamp (by omega)]) dL_law_467 ?_
    refine lv_iload hx hb dL_law_468 (lv_at hl 0 rfl) ?_
    refine lv_i2l (v := (if (sMelt T x1).1 = 0 then (sMelt T x1).2.1 else nI 0).toInt64) hx hb dL_law_470 rfl ?_
    refine W.lcmp hx hb dL_law_471 ?_
    refine r_top (y := nI 0) (by rw [hv1 q0, if_pos q0]; exact lg_refl _) ?_
    refine r_if_eq (a := 0) (tgt := 477) hx hb (by decide) dL_law_472 (by decide) (fun q472 => ?_) (fun q472 => absurd rfl q472)
    refine lv_goto (tgt := 1889) hx hb dL_law_477 (by decide) ?_
    exact W.widen (by dsimp only [rmM, rmP]; omega) (by dsimp only [rmM, rmP]; omega) (next _ _ _ _ _ _ ⟨⟨_, (hI1).fr (fun k i hk => ⟨mC_n (Or.inl (by omega)), rfl⟩)⟩, rst_melt hR x1, ⟨_, _, mC_id⟩, ⟨f1, (mC_n (Or.inr (Or.inl (by decide)))).trans hO1⟩, hS, lv_sub hl [2, 3, 4, 5, 6] rfl⟩)

set_option maxHeartbeats 4000000 in
set_option maxRecDepth 100000 in
theorem law_5 {p : Program} {l : Launch} {e : Env} {s : State} {m : MethodId} {below : List Frame} {meth : Method} {c : Code} {Q : State → Prop} {G : rG} {b L j : Nat} {xs : Nat → Int32} (hh : lwH G p l s m c b L xs) (hj : 4 * j + 4 ≤ L) {T : rTab} {C : rC} {ad : rA} {H : Heap} {locs : List Loc} {ls : Array Slot} (hs : lwS G s b j T C ad H locs ls) (next : ∀ (T' : rTab) (C' : rC) (ad' : rA) (H' : Heap) (locs' : List Loc) (ls' : Array Slot), lwS G s b j T' C' ad' H' locs' ls' → W p l e room_1 s m #[Value.ref b] below meth c H' locs' (100 + 150 * (j + 1)) (2000 + 6300 * (j + 1)) Q (F0 m 1889 ls' [])) : W p l e room_1 s m #[Value.ref b] below meth c H locs (100 + 150 * j) (2000 + 6300 * j) Q (F0 m 480 ls []) := by
  obtain ⟨hx, hb, hml, hown, hK, hZ, hX, hbl, hlt, hL⟩ := hh
  obtain ⟨⟨L0, hI⟩, hR, ⟨th, rg, hM⟩, ⟨f, hO⟩, hS, hl⟩ := hs
  have hN := mNu_of hI hR
  have hnC := hN.hC
  have hnS := hN.hS
  have hA : ∀ q : Nat, s.heap.size ≤ q → (fun q => s.heap.size ≤ q) q := fun _ h => h
  have hbA : ¬ (fun q => s.heap.size ≤ q) b := Nat.not_le.mpr hbl
  refine lv_aload_n hx hb dL_law_480 rfl (lv_at hl 3 rfl) ?_
  refine cl_L_128 hx hb hml hown hK hZ hS hA (c_X4_struck hI) hI.reg rfl hl.1 (Nat.le_of_ble_eq_true rfl) ⟨Nat.le_of_ble_eq_true rfl, Nat.le_of_ble_eq_true rfl⟩ ⟨(by show _ ≤ 601024; dsimp only [rmM, rmP]; omega), (by show _ ≤ 7293034; dsimp only [rmM, rmP]; omega)⟩ rfl dL_law_481 (r_kp (fun H locs hS => ?_))
  rw [← hM] at hS
  refine lv_aload_n hx hb dL_law_484 rfl (lv_at hl 2 rfl) ?_
  refine cl_L_131 hx hb hml hown hK hZ hS hA (c_X5_struck hN) mC_30 rfl hl.1 (Nat.le_of_ble_eq_true rfl) ⟨Nat.le_of_ble_eq_true rfl, Nat.le_of_ble_eq_true rfl⟩ ⟨(by show _ ≤ 601024; dsimp only [rmM, rmP]; omega), (by show _ ≤ 7293034; dsimp only [rmM, rmP]; omega)⟩ rfl dL_law_485 (r_kr (fun r C2 ad2 H locs hQ hS => ?_))
  obtain ⟨rfl, rfl, rfl⟩ := hQ
  refine r_top (y := nI (nC T)) (if_pos rfl) ?_
  refine lv_icmp_eq (tgt := 1889) hx hb dL_law_488 (by decide) (fun q488 => ?_) (fun q488 => absurd rfl q488)
  exact W.widen (by dsimp only [rmM, rmP]; omega) (by dsimp only [rmM, rmP]; omega) (next _ _ _ _ _ _ ⟨⟨_, (hI).fr (fun k i hk => ⟨mC_n (Or.inl (by omega)), rfl⟩)⟩, hR, ⟨_, _, mC_id⟩, ⟨f, (mC_n (Or.inr (Or.inl (by decide)))).trans hO⟩, hS, lv_sub hl [0, 1, 2, 3, 4] rfl⟩)

set_option maxHeartbeats 4000000 in
set_option maxRecDepth 100000 in
theorem law_6 {p : Program} {l : Launch} {e : Env} {s : State} {m : MethodId} {below : List Frame} {meth : Method} {c : Code} {Q : State → Prop} {G : rG} {b L j : Nat} {xs : Nat → Int32} (hh : lwH G p l s m c b L xs) (hj : 4 * j + 4 ≤ L) {T : rTab} {C : rC} {ad : rA} {H : Heap} {locs : List Loc} {ls : Array Slot} (hs : lwS G s b j T C ad H locs ls) (next : ∀ (T' : rTab) (C' : rC) (ad' : rA) (H' : Heap) (locs' : List Loc) (ls' : Array Slot), lwS G s b j T' C' ad' H' locs' ls' → W p l e room_1 s m #[Value.ref b] below meth c H' locs' (100 + 150 * (j + 1)) (2000 + 6300 * (j + 1)) Q (F0 m 1889 ls' [])) : W p l e room_1 s m #[Value.ref b] below meth c H locs (100 + 150 * j) (2000 + 6300 * j) Q (F0 m 493 ls []) := by
  obtain ⟨hx, hb, hml, hown, hK, hZ, hX, hbl, hlt, hL⟩ := hh
  obtain ⟨⟨L0, hI⟩, hR, ⟨th, rg, hM⟩, ⟨f, hO⟩, hS, hl⟩ := hs
  have hN := mNu_of hI hR
  have hnC := hN.hC
  have hnS := hN.hS
  have hA : ∀ q : Nat, s.heap.size ≤ q → (fun q => s.heap.size ≤ q) q := fun _ h => h
  have hbA : ¬ (fun q => s.heap.size ≤ q) b := Nat.not_le.mpr hbl
  obtain ⟨x1, hx1⟩ : ∃ z, z = xs (nI (4 * j + 1)).toNatClampNeg := ⟨_, rfl⟩
  refine lv_aload_n hx hb dL_law_493 rfl (lv_at hl 3 rfl) ?_
  refine lv_aload_n hx hb dL_law_494 rfl (lv_at hl 4 rfl) ?_
  refine lv_iload hx hb dL_law_495 (lv_at hl 0 rfl) ?_
  refine lv_iconst (v := nI 1) hx hb dL_law_497 (by decide) ?_
  refine lv_iadd hx hb dL_law_498 ?_
  refine r_top (nI_add _ _) ?_
  refine va_sld hx hb hX hbl hbA hS.2.2 (nI_in0 (by omega) (by omega)) dL_law_499 ?_
  refine r_top (y := x1) hx1.symm ?_
  refine lv_aload_n hx hb dL_law_500 rfl (lv_at hl 1 rfl) ?_
  refine cl_L_132 hx hb hml hown hK hZ hS hA (c_L_defects hlt hI hO x1) rfl hl.1 (Nat.le_of_ble_eq_true rfl) ⟨Nat.le_of_ble_eq_true rfl, Nat.le_of_ble_eq_true rfl⟩ ⟨(by show _ ≤ 601024; dsimp only [rmM, rmP]; omega), (by show _ ≤ 7293034; dsimp only [rmM, rmP]; omega)⟩ rfl dL_law_501 (r_kr (fun r C1 ad1 H locs hQ hS => ?_))
  obtain ⟨rfl, ⟨L1, hI1⟩, ⟨f1, hO1, hv1⟩, hF1⟩ := hQ
  have e00 : ad 0 0 = ad1 0 0 := (hF1).2.symm
  have e30 : ad 30 0 = ad1 30 0 := ((hF1).1 30 0 (by decide)).1.symm
  have e46 : ad 46 0 = ad1 46 0 := ((hF1).1 46 0 (by decide)).1.symm
  rw [e00, e30, e46] at hl
  have hM1 := mC_o hM hF1
  rw [← hM1] at hS
  have hle := byN_le (n := (nC T)) (a := x1) (f := fun j => nI (T 6 j))
  have hle : (qS T (byN (nC T) x1 (fun j => nI (T 6 j)))).1 ≤ 3 := Nat.le_trans hle (by decide)
  refine lv_istore (lv' := [(5, .int (nI (qS T (byN (nC T) x1 (fun j => nI (T 6 j)))).1)), (4, .int (nI (4 * j))), (3, .ref (ad1 46 0)), (2, .ref (ad1 30 0)), (1, .ref (ad1 0 0)), (0, .ref b)]) hx hb dL_law_504 hl (by decide) rfl (fun ls hl => ?_)
  refine lv_aload_n hx hb dL_law_506 rfl (lv_at hl 3 rfl) ?_
  refine lv_aload_n hx hb dL_law_507 rfl (lv_at hl 5 rfl) ?_
  refine lv_iload hx hb dL_law_508 (lv_at hl 1 rfl) ?_
  refine lv_iconst (v := nI 1) hx hb dL_law_510 (by decide) ?_
  refine lv_iadd hx hb dL_law_511 ?_
  refine r_top (nI_add _ _) ?_
  refine va_sld hx hb hX hbl hbA hS.2.2 (nI_in0 (by omega) (by omega)) dL_law_512 ?_
  refine r_top (y := x1) hx1.symm ?_
  refine cl_L_134 hx hb hml hown hK hZ hS hA (c_X5_defects hN x1) mC_30 rfl hl.1 (Nat.le_of_ble_eq_true rfl) ⟨Nat.le_of_ble_eq_true rfl, Nat.le_of_ble_eq_true rfl⟩ ⟨(by show _ ≤ 601024; dsimp only [rmM, rmP]; omega), (by show _ ≤ 7293034; dsimp only [rmM, rmP]; omega)⟩ rfl dL_law_513 (r_kr (fun r C2 ad2 H locs hQ hS => ?_))
  obtain ⟨rfl, rfl, rfl⟩ := hQ
  refine lv_istore (lv' := [(6, .int (if (qS T (byN (nC T) x1 (fun j => nI (T 6 j)))).1 = 0 then (qS T (byN (nC T) x1 (fun j => nI (T 6 j)))).2.1 else nI 0)), (5, .int (nI (qS T (byN (nC T) x1 (fun j => nI (T 6 j)))).1)), (4, .int (nI (4 * j))), (3, .ref (ad1 46 0)), (2, .ref (ad1 30 0)), (1, .ref (ad1 0 0)), (0, .ref b)]) hx hb dL_law_516 hl (by decide) rfl (fun ls hl => ?_)
  refine lv_aload_n hx hb dL_law_518 rfl (lv_at hl 4 rfl) ?_
  refine cl_L_112 hx hb hml hown hK hZ hS hA c_X5_thrown mC_30 rfl hl.1 (Nat.le_of_ble_eq_true rfl) ⟨Nat.le_of_ble_eq_true rfl, Nat.le_of_ble_eq_true rfl⟩ ⟨(by show _ ≤ 601024; dsimp only [rmM, rmP]; omega), (by show _ ≤ 7293034; dsimp only [rmM, rmP]; omega)⟩ rfl dL_law_519 (r_kp (fun H locs hS => ?_))
  refine lv_iload hx hb dL_law_522 (lv_at hl 1 rfl) ?_
  refine lv_icmp_eq (tgt := 529) hx hb dL_law_524 (by decide) (fun q524 => ?_) (fun q524 => absurd rfl q524)
  refine lv_iload hx hb dL_law_529 (lv_at hl 1 rfl) ?_
  refine r_if_ne (a := (qS T (byN (nC T) x1 (fun j => nI (T 6 j)))).1) (tgt := 546) hx hb (by omega) dL_law_531 (by decide) (fun q0 => ?_) (fun q0 => ?_)
  · -- T
    refine lv_goto (tgt := 1889) hx hb dL_law_546 (by decide) ?_
    exact W.widen (by dsimp only [rmM, rmP]; omega) (by dsimp only [rmM, rmP]; omega) (next _ _ _ _ _ _ ⟨⟨_, (hI1).fr (fun k i hk => ⟨mC_n (Or.inl (by omega)), rfl⟩)⟩, (show rst (qS T (byN (nC T) x1 (fun j => nI (T 6 j)))).2.2 from hR), ⟨_, _, mC_id⟩, ⟨f1, (mC_n (Or.inr (Or.inl (by decide)))).trans hO1⟩, hS, lv_sub hl [2, 3, 4, 5, 6] rfl⟩)
  · -- F
    refine lv_aload_n hx hb dL_law_534 rfl (lv_at hl 3 rfl) ?_
    refine lv_iconst (v := nI 0) hx hb dL_law_535 (by decide) ?_
    refine r_lald hx hb hK.1 hS 1 ((mC_n (Or.inr (Or.inl (by decide)))).trans hO1) rfl (nI_in0 (by omega) (by omega)) (v := f1 0) (by rw [nI_clamp (by omega)]) dL_law_536 ?_
    refine lv_iload hx hb dL_law_537 (lv_at hl 0 rfl) ?_
    refine lv_i2l (v := (if (qS T (byN (nC T) x1 (fun j => nI (T 6 j)))).1 = 0 then (qS T (byN (nC T) x1 (fun j => nI (T 6 j)))).2.1 else nI 0).toInt64) hx hb dL_law_539 rfl ?_
    refine W.lcmp hx hb dL_law_540 ?_
    refine r_top (y := nI 0) (by rw [hv1 q0, if_pos q0]; exact lg_refl _) ?_
    refine r_if_eq (a := 0) (tgt := 546) hx hb (by decide) dL_law_541 (by decide) (fun q541 => ?_) (fun q541 => absurd rfl q541)
    refine lv_goto (tgt := 1889) hx hb dL_law_546 (by decide) ?_
    exact W.widen (by dsimp only [rmM, rmP]; omega) (by dsimp only [rmM, rmP]; omega) (next _ _ _ _ _ _ ⟨⟨_, (hI1).fr (fun k i hk => ⟨mC_n (Or.inl (by omega)), rfl⟩)⟩, (show rst (qS T (byN (nC T) x1 (fun j => nI (T 6 j)))).2.2 from hR), ⟨_, _, mC_id⟩, ⟨f1, (mC_n (Or.inr (Or.inl (by decide)))).trans hO1⟩, hS, lv_sub hl [2, 3, 4, 5, 6] rfl⟩)

set_option maxHeartbeats 4000000 in
set_option maxRecDepth 100000 in
theorem law_7 {p : Program} {l : Launch} {e : Env} {s : State} {m : MethodId} {below : List Frame} {meth : Method} {c : Code} {Q : State → Prop} {G : rG} {b L j : Nat} {xs : Nat → Int32} (hh : lwH G p l s m c b L xs) (hj : 4 * j + 4 ≤ L) {T : rTab} {C : rC} {ad : rA} {H : Heap} {locs : List Loc} {ls : Array Slot} (hs : lwS G s b j T C ad H locs ls) (next : ∀ (T' : rTab) (C' : rC) (ad' : rA) (H' : Heap) (locs' : List Loc) (ls' : Array Slot), lwS G s b j T' C' ad' H' locs' ls' → W p l e room_1 s m #[Value.ref b] below meth c H' locs' (100 + 150 * (j + 1)) (2000 + 6300 * (j + 1)) Q (F0 m 1889 ls' [])) : W p l e room_1 s m #[Value.ref b] below meth c H locs (100 + 150 * j) (2000 + 6300 * j) Q (F0 m 549 ls []) := by
  obtain ⟨hx, hb, hml, hown, hK, hZ, hX, hbl, hlt, hL⟩ := hh
  obtain ⟨⟨L0, hI⟩, hR, ⟨th, rg, hM⟩, ⟨f, hO⟩, hS, hl⟩ := hs
  have hN := mNu_of hI hR
  have hnC := hN.hC
  have hnS := hN.hS
  have hA : ∀ q : Nat, s.heap.size ≤ q → (fun q => s.heap.size ≤ q) q := fun _ h => h
  have hbA : ¬ (fun q => s.heap.size ≤ q) b := Nat.not_le.mpr hbl
  obtain ⟨x1, hx1⟩ : ∃ z, z = xs (nI (4 * j + 1)).toNatClampNeg := ⟨_, rfl⟩
  refine lv_aload_n hx hb dL_law_549 rfl (lv_at hl 3 rfl) ?_
  refine lv_aload_n hx hb dL_law_550 rfl (lv_at hl 4 rfl) ?_
  refine lv_iload hx hb dL_law_551 (lv_at hl 0 rfl) ?_
  refine lv_iconst (v := nI 1) hx hb dL_law_553 (by decide) ?_
  refine lv_iadd hx hb dL_law_554 ?_
  refine r_top (nI_add _ _) ?_
  refine va_sld hx hb hX hbl hbA hS.2.2 (nI_in0 (by omega) (by omega)) dL_law_555 ?_
  refine r_top (y := x1) hx1.symm ?_
  refine lv_aload_n hx hb dL_law_556 rfl (lv_at hl 1 rfl) ?_
  refine cl_L_135 hx hb hml hown hK hZ hS hA (c_L_couldBeOf hlt hI hO x1) rfl hl.1 (Nat.le_of_ble_eq_true rfl) ⟨Nat.le_of_ble_eq_true rfl, Nat.le_of_ble_eq_true rfl⟩ ⟨(by show _ ≤ 601024; dsimp only [rmM, rmP]; omega), (by show _ ≤ 7293034; dsimp only [rmM, rmP]; omega)⟩ rfl dL_law_557 (r_kr (fun r C1 ad1 H locs hQ hS => ?_))
  obtain ⟨rfl, ⟨L1, hI1⟩, ⟨f1, hO1, hv1⟩, hF1⟩ := hQ
  have e00 : ad 0 0 = ad1 0 0 := (hF1).2.symm
  have e30 : ad 30 0 = ad1 30 0 := ((hF1).1 30 0 (by decide)).1.symm
  have e46 : ad 46 0 = ad1 46 0 := ((hF1).1 46 0 (by decide)).1.symm
  rw [e00, e30, e46] at hl
  have hM1 := mC_o hM hF1
  rw [← hM1] at hS
  have hle := byN_le (n := (nC T)) (a := x1) (f := fun j => nI (setN (cbB T j) (nD T)))
  have hle : (qS T (byN (nC T) x1 (fun j => nI (setN (cbB T j) (nD T))))).1 ≤ 3 := Nat.le_trans hle (by decide)
  refine lv_istore (lv' := [(5, .int (nI (qS T (byN (nC T) x1 (fun j => nI (setN (cbB T j) (nD T))))).1)), (4, .int (nI (4 * j))), (3, .ref (ad1 46 0)), (2, .ref (ad1 30 0)), (1, .ref (ad1 0 0)), (0, .ref b)]) hx hb dL_law_560 hl (by decide) rfl (fun ls hl => ?_)
  refine lv_aload_n hx hb dL_law_562 rfl (lv_at hl 3 rfl) ?_
  refine lv_aload_n hx hb dL_law_563 rfl (lv_at hl 5 rfl) ?_
  refine lv_iload hx hb dL_law_564 (lv_at hl 1 rfl) ?_
  refine lv_iconst (v := nI 1) hx hb dL_law_566 (by decide) ?_
  refine lv_iadd hx hb dL_law_567 ?_
  refine r_top (nI_add _ _) ?_
  refine va_sld hx hb hX hbl hbA hS.2.2 (nI_in0 (by omega) (by omega)) dL_law_568 ?_
  refine r_top (y := x1) hx1.symm ?_
  refine cl_L_137 hx hb hml hown hK hZ hS hA (c_X5_couldBeOf hN x1) mC_30 rfl hl.1 (Nat.le_of_ble_eq_true rfl) ⟨Nat.le_of_ble_eq_true rfl, Nat.le_of_ble_eq_true rfl⟩ ⟨(by show _ ≤ 601024; dsimp only [rmM, rmP]; omega), (by show _ ≤ 7293034; dsimp only [rmM, rmP]; omega)⟩ rfl dL_law_569 (r_kr (fun r C2 ad2 H locs hQ hS => ?_))
  obtain ⟨rfl, rfl, rfl⟩ := hQ
  refine lv_istore (lv' := [(6, .int (if (qS T (byN (nC T) x1 (fun j => nI (setN (cbB T j) (nD T))))).1 = 0 then (qS T (byN (nC T) x1 (fun j => nI (setN (cbB T j) (nD T))))).2.1 else nI 0)), (5, .int (nI (qS T (byN (nC T) x1 (fun j => nI (setN (cbB T j) (nD T))))).1)), (4, .int (nI (4 * j))), (3, .ref (ad1 46 0)), (2, .ref (ad1 30 0)), (1, .ref (ad1 0 0)), (0, .ref b)]) hx hb dL_law_572 hl (by decide) rfl (fun ls hl => ?_)
  refine lv_aload_n hx hb dL_law_574 rfl (lv_at hl 4 rfl) ?_
  refine cl_L_112 hx hb hml hown hK hZ hS hA c_X5_thrown mC_30 rfl hl.1 (Nat.le_of_ble_eq_true rfl) ⟨Nat.le_of_ble_eq_true rfl, Nat.le_of_ble_eq_true rfl⟩ ⟨(by show _ ≤ 601024; dsimp only [rmM, rmP]; omega), (by show _ ≤ 7293034; dsimp only [rmM, rmP]; omega)⟩ rfl dL_law_575 (r_kp (fun H locs hS => ?_))
  refine lv_iload hx hb dL_law_578 (lv_at hl 1 rfl) ?_
  refine lv_icmp_eq (tgt := 585) hx hb dL_law_580 (by decide) (fun q580 => ?_) (fun q580 => absurd rfl q580)
  refine lv_iload hx hb dL_law_585 (lv_at hl 1 rfl) ?_
  refine r_if_ne (a := (qS T (byN (nC T) x1 (fun j => nI (setN (cbB T j) (nD T))))).1) (tgt := 602) hx hb (by omega) dL_law_587 (by decide) (fun q0 => ?_) (fun q0 => ?_)
  · -- T
    refine lv_goto (tgt := 1889) hx hb dL_law_602 (by decide) ?_
    exact W.widen (by dsimp only [rmM, rmP]; omega) (by dsimp only [rmM, rmP]; omega) (next _ _ _ _ _ _ ⟨⟨_, (hI1).fr (fun k i hk => ⟨mC_n (Or.inl (by omega)), rfl⟩)⟩, (show rst (qS T (byN (nC T) x1 (fun j => nI (setN (cbB T j) (nD T))))).2.2 from hR), ⟨_, _, mC_id⟩, ⟨f1, (mC_n (Or.inr (Or.inl (by decide)))).trans hO1⟩, hS, lv_sub hl [2, 3, 4, 5, 6] rfl⟩)
  · -- F
    refine lv_aload_n hx hb dL_law_590 rfl (lv_at hl 3 rfl) ?_
    refine lv_iconst (v := nI 0) hx hb dL_law_591 (by decide) ?_
    refine r_lald hx hb hK.1 hS 1 ((mC_n (Or.inr (Or.inl (by decide)))).trans hO1) rfl (nI_in0 (by omega) (by omega)) (v := f1 0) (by rw [nI_clamp (by omega)]) dL_law_592 ?_
    refine lv_iload hx hb dL_law_593 (lv_at hl 0 rfl) ?_
    refine lv_i2l (v := (if (qS T (byN (nC T) x1 (fun j => nI (setN (cbB T j) (nD T))))).1 = 0 then (qS T (byN (nC T) x1 (fun j => nI (setN (cbB T j) (nD T))))).2.1 else nI 0).toInt64) hx hb dL_law_595 rfl ?_
    refine W.lcmp hx hb dL_law_596 ?_
    refine r_top (y := nI 0) (by rw [hv1 q0, if_pos q0]; exact lg_refl _) ?_
    refine r_if_eq (a := 0) (tgt := 602) hx hb (by decide) dL_law_597 (by decide) (fun q597 => ?_) (fun q597 => absurd rfl q597)
    refine lv_goto (tgt := 1889) hx hb dL_law_602 (by decide) ?_
    exact W.widen (by dsimp only [rmM, rmP]; omega) (by dsimp only [rmM, rmP]; omega) (next _ _ _ _ _ _ ⟨⟨_, (hI1).fr (fun k i hk => ⟨mC_n (Or.inl (by omega)), rfl⟩)⟩, (show rst (qS T (byN (nC T) x1 (fun j => nI (setN (cbB T j) (nD T))))).2.2 from hR), ⟨_, _, mC_id⟩, ⟨f1, (mC_n (Or.inr (Or.inl (by decide)))).trans hO1⟩, hS, lv_sub hl [2, 3, 4, 5, 6] rfl⟩)

set_option maxHeartbeats 4000000 in
set_option maxRecDepth 100000 in
theorem law_8 {p : Program} {l : Launch} {e : Env} {s : State} {m : MethodId} {below : List Frame} {meth : Method} {c : Code} {Q : State → Prop} {G : rG} {b L j : Nat} {xs : Nat → Int32} (hh : lwH G p l s m c b L xs) (hj : 4 * j + 4 ≤ L) {T : rTab} {C : rC} {ad : rA} {H : Heap} {locs : List Loc} {ls : Array Slot} (hs : lwS G s b j T C ad H locs ls) (next : ∀ (T' : rTab) (C' : rC) (ad' : rA) (H' : Heap) (locs' : List Loc) (ls' : Array Slot), lwS G s b j T' C' ad' H' locs' ls' → W p l e room_1 s m #[Value.ref b] below meth c H' locs' (100 + 150 * (j + 1)) (2000 + 6300 * (j + 1)) Q (F0 m 1889 ls' [])) : W p l e room_1 s m #[Value.ref b] below meth c H locs (100 + 150 * j) (2000 + 6300 * j) Q (F0 m 605 ls []) := by
  obtain ⟨hx, hb, hml, hown, hK, hZ, hX, hbl, hlt, hL⟩ := hh
  obtain ⟨⟨L0, hI⟩, hR, ⟨th, rg, hM⟩, ⟨f, hO⟩, hS, hl⟩ := hs
  have hN := mNu_of hI hR
  have hnC := hN.hC
  have hnS := hN.hS
  have hA : ∀ q : Nat, s.heap.size ≤ q → (fun q => s.heap.size ≤ q) q := fun _ h => h
  have hbA : ¬ (fun q => s.heap.size ≤ q) b := Nat.not_le.mpr hbl
  obtain ⟨x1, hx1⟩ : ∃ z, z = xs (nI (4 * j + 1)).toNatClampNeg := ⟨_, rfl⟩
  refine lv_aload_n hx hb dL_law_605 rfl (lv_at hl 3 rfl) ?_
  refine lv_aload_n hx hb dL_law_606 rfl (lv_at hl 4 rfl) ?_
  refine lv_iload hx hb dL_law_607 (lv_at hl 0 rfl) ?_
  refine lv_iconst (v := nI 1) hx hb dL_law_609 (by decide) ?_
  refine lv_iadd hx hb dL_law_610 ?_
  refine r_top (nI_add _ _) ?_
  refine va_sld hx hb hX hbl hbA hS.2.2 (nI_in0 (by omega) (by omega)) dL_law_611 ?_
  refine r_top (y := x1) hx1.symm ?_
  refine lv_aload_n hx hb dL_law_612 rfl (lv_at hl 1 rfl) ?_
  refine cl_L_138 hx hb hml hown hK hZ hS hA (c_L_stages hlt hI hO x1) rfl hl.1 (Nat.le_of_ble_eq_true rfl) ⟨Nat.le_of_ble_eq_true rfl, Nat.le_of_ble_eq_true rfl⟩ ⟨(by show _ ≤ 601024; dsimp only [rmM, rmP]; omega), (by show _ ≤ 7293034; dsimp only [rmM, rmP]; omega)⟩ rfl dL_law_613 (r_kr (fun r C1 ad1 H locs hQ hS => ?_))
  obtain ⟨rfl, ⟨L1, hI1⟩, ⟨f1, hO1, hv1⟩, hF1⟩ := hQ
  have e00 : ad 0 0 = ad1 0 0 := (hF1).2.symm
  have e30 : ad 30 0 = ad1 30 0 := ((hF1).1 30 0 (by decide)).1.symm
  have e46 : ad 46 0 = ad1 46 0 := ((hF1).1 46 0 (by decide)).1.symm
  rw [e00, e30, e46] at hl
  have hM1 := mC_o hM hF1
  rw [← hM1] at hS
  have hle := byN_le (n := (nD T)) (a := x1) (f := fun d => nI (stagesN T d))
  have hle : (qS T (byN (nD T) x1 (fun d => nI (stagesN T d)))).1 ≤ 3 := Nat.le_trans hle (by decide)
  refine lv_istore (lv' := [(5, .int (nI (qS T (byN (nD T) x1 (fun d => nI (stagesN T d)))).1)), (4, .int (nI (4 * j))), (3, .ref (ad1 46 0)), (2, .ref (ad1 30 0)), (1, .ref (ad1 0 0)), (0, .ref b)]) hx hb dL_law_616 hl (by decide) rfl (fun ls hl => ?_)
  refine lv_aload_n hx hb dL_law_618 rfl (lv_at hl 3 rfl) ?_
  refine lv_aload_n hx hb dL_law_619 rfl (lv_at hl 5 rfl) ?_
  refine lv_iload hx hb dL_law_620 (lv_at hl 1 rfl) ?_
  refine lv_iconst (v := nI 1) hx hb dL_law_622 (by decide) ?_
  refine lv_iadd hx hb dL_law_623 ?_
  refine r_top (nI_add _ _) ?_
  refine va_sld hx hb hX hbl hbA hS.2.2 (nI_in0 (by omega) (by omega)) dL_law_624 ?_
  refine r_top (y := x1) hx1.symm ?_
  refine cl_L_140 hx hb hml hown hK hZ hS hA (c_X5_stages hN x1) mC_30 rfl hl.1 (Nat.le_of_ble_eq_true rfl) ⟨Nat.le_of_ble_eq_true rfl, Nat.le_of_ble_eq_true rfl⟩ ⟨(by show _ ≤ 601024; dsimp only [rmM, rmP]; omega), (by show _ ≤ 7293034; dsimp only [rmM, rmP]; omega)⟩ rfl dL_law_625 (r_kr (fun r C2 ad2 H locs hQ hS => ?_))
  obtain ⟨rfl, rfl, rfl⟩ := hQ
  refine lv_istore (lv' := [(6, .int (if (qS T (byN (nD T) x1 (fun d => nI (stagesN T d)))).1 = 0 then (qS T (byN (nD T) x1 (fun d => nI (stagesN T d)))).2.1 else nI 0)), (5, .int (nI (qS T (byN (nD T) x1 (fun d => nI (stagesN T d)))).1)), (4, .int (nI (4 * j))), (3, .ref (ad1 46 0)), (2, .ref (ad1 30 0)), (1, .ref (ad1 0 0)), (0, .ref b)]) hx hb dL_law_628 hl (by decide) rfl (fun ls hl => ?_)
  refine lv_aload_n hx hb dL_law_630 rfl (lv_at hl 4 rfl) ?_
  refine cl_L_112 hx hb hml hown hK hZ hS hA c_X5_thrown mC_30 rfl hl.1 (Nat.le_of_ble_eq_true rfl) ⟨Nat.le_of_ble_eq_true rfl, Nat.le_of_ble_eq_true rfl⟩ ⟨(by show _ ≤ 601024; dsimp only [rmM, rmP]; omega), (by show _ ≤ 7293034; dsimp only [rmM, rmP]; omega)⟩ rfl dL_law_631 (r_kp (fun H locs hS => ?_))
  refine lv_iload hx hb dL_law_634 (lv_at hl 1 rfl) ?_
  refine lv_icmp_eq (tgt := 641) hx hb dL_law_636 (by decide) (fun q636 => ?_) (fun q636 => absurd rfl q636)
  refine lv_iload hx hb dL_law_641 (lv_at hl 1 rfl) ?_
  refine r_if_ne (a := (qS T (byN (nD T) x1 (fun d => nI (stagesN T d)))).1) (tgt := 658) hx hb (by omega) dL_law_643 (by decide) (fun q0 => ?_) (fun q0 => ?_)
  · -- T
    refine lv_goto (tgt := 1889) hx hb dL_law_658 (by decide) ?_
    exact W.widen (by dsimp only [rmM, rmP]; omega) (by dsimp only [rmM, rmP]; omega) (next _ _ _ _ _ _ ⟨⟨_, (hI1).fr (fun k i hk => ⟨mC_n (Or.inl (by omega)), rfl⟩)⟩, (show rst (qS T (byN (nD T) x1 (fun d => nI (stagesN T d)))).2.2 from hR), ⟨_, _, mC_id⟩, ⟨f1, (mC_n (Or.inr (Or.inl (by decide)))).trans hO1⟩, hS, lv_sub hl [2, 3, 4, 5, 6] rfl⟩)
  · -- F
    refine lv_aload_n hx hb dL_law_646 rfl (lv_at hl 3 rfl) ?_
    refine lv_iconst (v := nI 0) hx hb dL_law_647 (by decide) ?_
    refine r_lald hx hb hK.1 hS 1 ((mC_n (Or.inr (Or.inl (by decide)))).trans hO1) rfl (nI_in0 (by omega) (by omega)) (v := f1 0) (by rw [nI_clamp (by omega)]) dL_law_648 ?_
    refine lv_iload hx hb dL_law_649 (lv_at hl 0 rfl) ?_
    refine lv_i2l (v := (if (qS T (byN (nD T) x1 (fun d => nI (stagesN T d)))).1 = 0 then (qS T (byN (nD T) x1 (fun d => nI (stagesN T d)))).2.1 else nI 0).toInt64) hx hb dL_law_651 rfl ?_
    refine W.lcmp hx hb dL_law_652 ?_
    refine r_top (y := nI 0) (by rw [hv1 q0, if_pos q0]; exact lg_refl _) ?_
    refine r_if_eq (a := 0) (tgt := 658) hx hb (by decide) dL_law_653 (by decide) (fun q653 => ?_) (fun q653 => absurd rfl q653)
    refine lv_goto (tgt := 1889) hx hb dL_law_658 (by decide) ?_
    exact W.widen (by dsimp only [rmM, rmP]; omega) (by dsimp only [rmM, rmP]; omega) (next _ _ _ _ _ _ ⟨⟨_, (hI1).fr (fun k i hk => ⟨mC_n (Or.inl (by omega)), rfl⟩)⟩, (show rst (qS T (byN (nD T) x1 (fun d => nI (stagesN T d)))).2.2 from hR), ⟨_, _, mC_id⟩, ⟨f1, (mC_n (Or.inr (Or.inl (by decide)))).trans hO1⟩, hS, lv_sub hl [2, 3, 4, 5, 6] rfl⟩)

set_option maxHeartbeats 4000000 in
set_option maxRecDepth 100000 in
theorem law_9 {p : Program} {l : Launch} {e : Env} {s : State} {m : MethodId} {below : List Frame} {meth : Method} {c : Code} {Q : State → Prop} {G : rG} {b L j : Nat} {xs : Nat → Int32} (hh : lwH G p l s m c b L xs) (hj : 4 * j + 4 ≤ L) {T : rTab} {C : rC} {ad : rA} {H : Heap} {locs : List Loc} {ls : Array Slot} (hs : lwS G s b j T C ad H locs ls) (next : ∀ (T' : rTab) (C' : rC) (ad' : rA) (H' : Heap) (locs' : List Loc) (ls' : Array Slot), lwS G s b j T' C' ad' H' locs' ls' → W p l e room_1 s m #[Value.ref b] below meth c H' locs' (100 + 150 * (j + 1)) (2000 + 6300 * (j + 1)) Q (F0 m 1889 ls' [])) : W p l e room_1 s m #[Value.ref b] below meth c H locs (100 + 150 * j) (2000 + 6300 * j) Q (F0 m 661 ls []) := by
  obtain ⟨hx, hb, hml, hown, hK, hZ, hX, hbl, hlt, hL⟩ := hh
  obtain ⟨⟨L0, hI⟩, hR, ⟨th, rg, hM⟩, ⟨f, hO⟩, hS, hl⟩ := hs
  have hN := mNu_of hI hR
  have hnC := hN.hC
  have hnS := hN.hS
  have hA : ∀ q : Nat, s.heap.size ≤ q → (fun q => s.heap.size ≤ q) q := fun _ h => h
  have hbA : ¬ (fun q => s.heap.size ≤ q) b := Nat.not_le.mpr hbl
  obtain ⟨x1, hx1⟩ : ∃ z, z = xs (nI (4 * j + 1)).toNatClampNeg := ⟨_, rfl⟩
  refine lv_aload_n hx hb dL_law_661 rfl (lv_at hl 3 rfl) ?_
  refine lv_aload_n hx hb dL_law_662 rfl (lv_at hl 4 rfl) ?_
  refine lv_iload hx hb dL_law_663 (lv_at hl 0 rfl) ?_
  refine lv_iconst (v := nI 1) hx hb dL_law_665 (by decide) ?_
  refine lv_iadd hx hb dL_law_666 ?_
  refine r_top (nI_add _ _) ?_
  refine va_sld hx hb hX hbl hbA hS.2.2 (nI_in0 (by omega) (by omega)) dL_law_667 ?_
  refine r_top (y := x1) hx1.symm ?_
  refine lv_aload_n hx hb dL_law_668 rfl (lv_at hl 1 rfl) ?_
  refine cl_L_141 hx hb hml hown hK hZ hS hA (c_L_proof hlt hI hO x1) rfl hl.1 (Nat.le_of_ble_eq_true rfl) ⟨Nat.le_of_ble_eq_true rfl, Nat.le_of_ble_eq_true rfl⟩ ⟨(by show _ ≤ 601024; dsimp only [rmM, rmP]; omega), (by show _ ≤ 7293034; dsimp only [rmM, rmP]; omega)⟩ rfl dL_law_669 (r_kr (fun r C1 ad1 H locs hQ hS => ?_))
  obtain ⟨rfl, ⟨L1, hI1⟩, ⟨f1, hO1, hv1⟩, hF1⟩ := hQ
  have e00 : ad 0 0 = ad1 0 0 := (hF1).2.symm
  have e30 : ad 30 0 = ad1 30 0 := ((hF1).1 30 0 (by decide)).1.symm
  have e46 : ad 46 0 = ad1 46 0 := ((hF1).1 46 0 (by decide)).1.symm
  rw [e00, e30, e46] at hl
  have hM1 := mC_o hM hF1
  rw [← hM1] at hS
  have hle := byN_le (n := (nD T)) (a := x1) (f := fun d => prI T d)
  have hle : (qS T (byN (nD T) x1 (fun d => prI T d))).1 ≤ 3 := Nat.le_trans hle (by decide)
  refine lv_istore (lv' := [(5, .int (nI (qS T (byN (nD T) x1 (fun d => prI T d))).1)), (4, .int (nI (4 * j))), (3, .ref (ad1 46 0)), (2, .ref (ad1 30 0)), (1, .ref (ad1 0 0)), (0, .ref b)]) hx hb dL_law_672 hl (by decide) rfl (fun ls hl => ?_)
  refine lv_aload_n hx hb dL_law_674 rfl (lv_at hl 3 rfl) ?_
  refine lv_aload_n hx hb dL_law_675 rfl (lv_at hl 5 rfl) ?_
  refine lv_iload hx hb dL_law_676 (lv_at hl 1 rfl) ?_
  refine lv_iconst (v := nI 1) hx hb dL_law_678 (by decide) ?_
  refine lv_iadd hx hb dL_law_679 ?_
  refine r_top (nI_add _ _) ?_
  refine va_sld hx hb hX hbl hbA hS.2.2 (nI_in0 (by omega) (by omega)) dL_law_680 ?_
  refine r_top (y := x1) hx1.symm ?_
  refine cl_L_143 hx hb hml hown hK hZ hS hA (c_X5_proof hN x1) mC_30 rfl hl.1 (Nat.le_of_ble_eq_true rfl) ⟨Nat.le_of_ble_eq_true rfl, Nat.le_of_ble_eq_true rfl⟩ ⟨(by show _ ≤ 601024; dsimp only [rmM, rmP]; omega), (by show _ ≤ 7293034; dsimp only [rmM, rmP]; omega)⟩ rfl dL_law_681 (r_kr (fun r C2 ad2 H locs hQ hS => ?_))
  obtain ⟨rfl, rfl, rfl⟩ := hQ
  refine lv_istore (lv' := [(6, .int (if (qS T (byN (nD T) x1 (fun d => prI T d))).1 = 0 then (qS T (byN (nD T) x1 (fun d => prI T d))).2.1 else nI 0)), (5, .int (nI (qS T (byN (nD T) x1 (fun d => prI T d))).1)), (4, .int (nI (4 * j))), (3, .ref (ad1 46 0)), (2, .ref (ad1 30 0)), (1, .ref (ad1 0 0)), (0, .ref b)]) hx hb dL_law_684 hl (by decide) rfl (fun ls hl => ?_)
  refine lv_aload_n hx hb dL_law_686 rfl (lv_at hl 4 rfl) ?_
  refine cl_L_112 hx hb hml hown hK hZ hS hA c_X5_thrown mC_30 rfl hl.1 (Nat.le_of_ble_eq_true rfl) ⟨Nat.le_of_ble_eq_true rfl, Nat.le_of_ble_eq_true rfl⟩ ⟨(by show _ ≤ 601024; dsimp only [rmM, rmP]; omega), (by show _ ≤ 7293034; dsimp only [rmM, rmP]; omega)⟩ rfl dL_law_687 (r_kp (fun H locs hS => ?_))
  refine lv_iload hx hb dL_law_690 (lv_at hl 1 rfl) ?_
  refine lv_icmp_eq (tgt := 697) hx hb dL_law_692 (by decide) (fun q692 => ?_) (fun q692 => absurd rfl q692)
  refine lv_iload hx hb dL_law_697 (lv_at hl 1 rfl) ?_
  refine r_if_ne (a := (qS T (byN (nD T) x1 (fun d => prI T d))).1) (tgt := 714) hx hb (by omega) dL_law_699 (by decide) (fun q0 => ?_) (fun q0 => ?_)
  · -- T
    refine lv_goto (tgt := 1889) hx hb dL_law_714 (by decide) ?_
    exact W.widen (by dsimp only [rmM, rmP]; omega) (by dsimp only [rmM, rmP]; omega) (next _ _ _ _ _ _ ⟨⟨_, (hI1).fr (fun k i hk => ⟨mC_n (Or.inl (by omega)), rfl⟩)⟩, (show rst (qS T (byN (nD T) x1 (fun d => prI T d))).2.2 from hR), ⟨_, _, mC_id⟩, ⟨f1, (mC_n (Or.inr (Or.inl (by decide)))).trans hO1⟩, hS, lv_sub hl [2, 3, 4, 5, 6] rfl⟩)
  · -- F
    refine lv_aload_n hx hb dL_law_702 rfl (lv_at hl 3 rfl) ?_
    refine lv_iconst (v := nI 0) hx hb dL_law_703 (by decide) ?_
    refine r_lald hx hb hK.1 hS 1 ((mC_n (Or.inr (Or.inl (by decide)))).trans hO1) rfl (nI_in0 (by omega) (by omega)) (v := f1 0) (by rw [nI_clamp (by omega)]) dL_law_704 ?_
    refine lv_iload hx hb dL_law_705 (lv_at hl 0 rfl) ?_
    refine lv_i2l (v := (if (qS T (byN (nD T) x1 (fun d => prI T d))).1 = 0 then (qS T (byN (nD T) x1 (fun d => prI T d))).2.1 else nI 0).toInt64) hx hb dL_law_707 rfl ?_
    refine W.lcmp hx hb dL_law_708 ?_
    refine r_top (y := nI 0) (by rw [hv1 q0, if_pos q0]; exact lg_refl _) ?_
    refine r_if_eq (a := 0) (tgt := 714) hx hb (by decide) dL_law_709 (by decide) (fun q709 => ?_) (fun q709 => absurd rfl q709)
    refine lv_goto (tgt := 1889) hx hb dL_law_714 (by decide) ?_
    exact W.widen (by dsimp only [rmM, rmP]; omega) (by dsimp only [rmM, rmP]; omega) (next _ _ _ _ _ _ ⟨⟨_, (hI1).fr (fun k i hk => ⟨mC_n (Or.inl (by omega)), rfl⟩)⟩, (show rst (qS T (byN (nD T) x1 (fun d => prI T d))).2.2 from hR), ⟨_, _, mC_id⟩, ⟨f1, (mC_n (Or.inr (Or.inl (by decide)))).trans hO1⟩, hS, lv_sub hl [2, 3, 4, 5, 6] rfl⟩)

set_option maxHeartbeats 4000000 in
set_option maxRecDepth 100000 in
theorem law_10 {p : Program} {l : Launch} {e : Env} {s : State} {m : MethodId} {below : List Frame} {meth : Method} {c : Code} {Q : State → Prop} {G : rG} {b L j : Nat} {xs : Nat → Int32} (hh : lwH G p l s m c b L xs) (hj : 4 * j + 4 ≤ L) {T : rTab} {C : rC} {ad : rA} {H : Heap} {locs : List Loc} {ls : Array Slot} (hs : lwS G s b j T C ad H locs ls) (next : ∀ (T' : rTab) (C' : rC) (ad' : rA) (H' : Heap) (locs' : List Loc) (ls' : Array Slot), lwS G s b j T' C' ad' H' locs' ls' → W p l e room_1 s m #[Value.ref b] below meth c H' locs' (100 + 150 * (j + 1)) (2000 + 6300 * (j + 1)) Q (F0 m 1889 ls' [])) : W p l e room_1 s m #[Value.ref b] below meth c H locs (100 + 150 * j) (2000 + 6300 * j) Q (F0 m 717 ls []) := by
  obtain ⟨hx, hb, hml, hown, hK, hZ, hX, hbl, hlt, hL⟩ := hh
  obtain ⟨⟨L0, hI⟩, hR, ⟨th, rg, hM⟩, ⟨f, hO⟩, hS, hl⟩ := hs
  have hN := mNu_of hI hR
  have hnC := hN.hC
  have hnS := hN.hS
  have hA : ∀ q : Nat, s.heap.size ≤ q → (fun q => s.heap.size ≤ q) q := fun _ h => h
  have hbA : ¬ (fun q => s.heap.size ≤ q) b := Nat.not_le.mpr hbl
  obtain ⟨x1, hx1⟩ : ∃ z, z = xs (nI (4 * j + 1)).toNatClampNeg := ⟨_, rfl⟩
  refine lv_aload_n hx hb dL_law_717 rfl (lv_at hl 3 rfl) ?_
  refine lv_aload_n hx hb dL_law_718 rfl (lv_at hl 4 rfl) ?_
  refine lv_iload hx hb dL_law_719 (lv_at hl 0 rfl) ?_
  refine lv_iconst (v := nI 1) hx hb dL_law_721 (by decide) ?_
  refine lv_iadd hx hb dL_law_722 ?_
  refine r_top (nI_add _ _) ?_
  refine va_sld hx hb hX hbl hbA hS.2.2 (nI_in0 (by omega) (by omega)) dL_law_723 ?_
  refine r_top (y := x1) hx1.symm ?_
  refine lv_aload_n hx hb dL_law_724 rfl (lv_at hl 1 rfl) ?_
  refine cl_L_144 hx hb hml hown hK hZ hS hA (c_L_condemn hlt hI hO x1) rfl hl.1 (Nat.le_of_ble_eq_true rfl) ⟨Nat.le_of_ble_eq_true rfl, Nat.le_of_ble_eq_true rfl⟩ ⟨(by show _ ≤ 601024; dsimp only [rmM, rmP]; omega), (by show _ ≤ 7293034; dsimp only [rmM, rmP]; omega)⟩ rfl dL_law_725 (r_kr (fun r C1 ad1 H locs hQ hS => ?_))
  obtain ⟨rfl, ⟨L1, hI1⟩, ⟨f1, hO1, hv1⟩, hF1⟩ := hQ
  have e00 : ad 0 0 = ad1 0 0 := (hF1).2.symm
  have e30 : ad 30 0 = ad1 30 0 := ((hF1).1 30 0 (by decide)).1.symm
  have e46 : ad 46 0 = ad1 46 0 := ((hF1).1 46 0 (by decide)).1.symm
  rw [e00, e30, e46] at hl
  have hM1 := mC_o hM hF1
  rw [← hM1] at hS
  have hle := sCond_le (T := T) (a := x1)
  have hle : (sCond T x1).1 ≤ 3 := Nat.le_trans hle (by decide)
  refine lv_istore (lv' := [(5, .int (nI (sCond T x1).1)), (4, .int (nI (4 * j))), (3, .ref (ad1 46 0)), (2, .ref (ad1 30 0)), (1, .ref (ad1 0 0)), (0, .ref b)]) hx hb dL_law_728 hl (by decide) rfl (fun ls hl => ?_)
  refine lv_aload_n hx hb dL_law_730 rfl (lv_at hl 3 rfl) ?_
  refine lv_aload_n hx hb dL_law_731 rfl (lv_at hl 5 rfl) ?_
  refine lv_iload hx hb dL_law_732 (lv_at hl 1 rfl) ?_
  refine lv_iconst (v := nI 1) hx hb dL_law_734 (by decide) ?_
  refine lv_iadd hx hb dL_law_735 ?_
  refine r_top (nI_add _ _) ?_
  refine va_sld hx hb hX hbl hbA hS.2.2 (nI_in0 (by omega) (by omega)) dL_law_736 ?_
  refine r_top (y := x1) hx1.symm ?_
  refine cl_L_146 hx hb hml hown hK hZ hS hA (c_X5_condemn hN x1) mC_30 rfl hl.1 (Nat.le_of_ble_eq_true rfl) ⟨Nat.le_of_ble_eq_true rfl, Nat.le_of_ble_eq_true rfl⟩ ⟨(by show _ ≤ 601024; dsimp only [rmM, rmP]; omega), (by show _ ≤ 7293034; dsimp only [rmM, rmP]; omega)⟩ rfl dL_law_737 (r_kr (fun r C2 ad2 H locs hQ hS => ?_))
  obtain ⟨rfl, rfl, rfl⟩ := hQ
  refine lv_istore (lv' := [(6, .int (if (sCond T x1).1 = 0 then (sCond T x1).2.1 else nI 0)), (5, .int (nI (sCond T x1).1)), (4, .int (nI (4 * j))), (3, .ref (ad1 46 0)), (2, .ref (ad1 30 0)), (1, .ref (ad1 0 0)), (0, .ref b)]) hx hb dL_law_740 hl (by decide) rfl (fun ls hl => ?_)
  refine lv_aload_n hx hb dL_law_742 rfl (lv_at hl 4 rfl) ?_
  refine cl_L_112 hx hb hml hown hK hZ hS hA c_X5_thrown mC_30 rfl hl.1 (Nat.le_of_ble_eq_true rfl) ⟨Nat.le_of_ble_eq_true rfl, Nat.le_of_ble_eq_true rfl⟩ ⟨(by show _ ≤ 601024; dsimp only [rmM, rmP]; omega), (by show _ ≤ 7293034; dsimp only [rmM, rmP]; omega)⟩ rfl dL_law_743 (r_kp (fun H locs hS => ?_))
  refine lv_iload hx hb dL_law_746 (lv_at hl 1 rfl) ?_
  refine lv_icmp_eq (tgt := 753) hx hb dL_law_748 (by decide) (fun q748 => ?_) (fun q748 => absurd rfl q748)
  refine lv_iload hx hb dL_law_753 (lv_at hl 1 rfl) ?_
  refine r_if_ne (a := (sCond T x1).1) (tgt := 770) hx hb (by omega) dL_law_755 (by decide) (fun q0 => ?_) (fun q0 => ?_)
  · -- T
    refine lv_goto (tgt := 1889) hx hb dL_law_770 (by decide) ?_
    exact W.widen (by dsimp only [rmM, rmP]; omega) (by dsimp only [rmM, rmP]; omega) (next _ _ _ _ _ _ ⟨⟨_, (hI1).fr (fun k i hk => ⟨mC_n (Or.inl (by omega)), rfl⟩)⟩, rst_cond hR x1, ⟨_, _, mC_id⟩, ⟨f1, (mC_n (Or.inr (Or.inl (by decide)))).trans hO1⟩, hS, lv_sub hl [2, 3, 4, 5, 6] rfl⟩)
  · -- F
    refine lv_aload_n hx hb dL_law_758 rfl (lv_at hl 3 rfl) ?_
    refine lv_iconst (v := nI 0) hx hb dL_law_759 (by decide) ?_
    refine r_lald hx hb hK.1 hS 1 ((mC_n (Or.inr (Or.inl (by decide)))).trans hO1) rfl (nI_in0 (by omega) (by omega)) (v := f1 0) (by rw [nI_clamp (by omega)]) dL_law_760 ?_
    refine lv_iload hx hb dL_law_761 (lv_at hl 0 rfl) ?_
    refine lv_i2l (v := (if (sCond T x1).1 = 0 then (sCond T x1).2.1 else nI 0).toInt64) hx hb dL_law_763 rfl ?_
    refine W.lcmp hx hb dL_law_764 ?_
    refine r_top (y := nI 0) (by rw [hv1 q0, if_pos q0]; exact lg_refl _) ?_
    refine r_if_eq (a := 0) (tgt := 770) hx hb (by decide) dL_law_765 (by decide) (fun q765 => ?_) (fun q765 => absurd rfl q765)
    refine lv_goto (tgt := 1889) hx hb dL_law_770 (by decide) ?_
    exact W.widen (by dsimp only [rmM, rmP]; omega) (by dsimp only [rmM, rmP]; omega) (next _ _ _ _ _ _ ⟨⟨_, (hI1).fr (fun k i hk => ⟨mC_n (Or.inl (by omega)), rfl⟩)⟩, rst_cond hR x1, ⟨_, _, mC_id⟩, ⟨f1, (mC_n (Or.inr (Or.inl (by decide)))).trans hO1⟩, hS, lv_sub hl [2, 3, 4, 5, 6] rfl⟩)

set_option maxHeartbeats 4000000 in
set_option maxRecDepth 100000 in
theorem law_11 {p : Program} {l : Launch} {e : Env} {s : State} {m : MethodId} {below : List Frame} {meth : Method} {c : Code} {Q : State → Prop} {G : rG} {b L j : Nat} {xs : Nat → Int32} (hh : lwH G p l s m c b L xs) (hj : 4 * j + 4 ≤ L) {T : rTab} {C : rC} {ad : rA} {H : Heap} {locs : List Loc} {ls : Array Slot} (hs : lwS G s b j T C ad H locs ls) (next : ∀ (T' : rTab) (C' : rC) (ad' : rA) (H' : Heap) (locs' : List Loc) (ls' : Array Slot), lwS G s b j T' C' ad' H' locs' ls' → W p l e room_1 s m #[Value.ref b] below meth c H' locs' (100 + 150 * (j + 1)) (2000 + 6300 * (j + 1)) Q (F0 m 1889 ls' [])) : W p l e room_1 s m #[Value.ref b] below meth c H locs (100 + 150 * j) (2000 + 6300 * j) Q (F0 m 773 ls []) := by
  obtain ⟨hx, hb, hml, hown, hK, hZ, hX, hbl, hlt, hL⟩ := hh
  obtain ⟨⟨L0, hI⟩, hR, ⟨th, rg, hM⟩, ⟨f, hO⟩, hS, hl⟩ := hs
  have hN := mNu_of hI hR
  have hnC := hN.hC
  have hnS := hN.hS
  have hA : ∀ q : Nat, s.heap.size ≤ q → (fun q => s.heap.size ≤ q) q := fun _ h => h
  have hbA : ¬ (fun q => s.heap.size ≤ q) b := Nat.not_le.mpr hbl
  obtain ⟨x1, hx1⟩ : ∃ z, z = xs (nI (4 * j + 1)).toNatClampNeg := ⟨_, rfl⟩
  refine lv_aload_n hx hb dL_law_773 rfl (lv_at hl 3 rfl) ?_
  refine lv_aload_n hx hb dL_law_774 rfl (lv_at hl 4 rfl) ?_
  refine lv_iload hx hb dL_law_775 (lv_at hl 0 rfl) ?_
  refine lv_iconst (v := nI 1) hx hb dL_law_777 (by decide) ?_
  refine lv_iadd hx hb dL_law_778 ?_
  refine r_top (nI_add _ _) ?_
  refine va_sld hx hb hX hbl hbA hS.2.2 (nI_in0 (by omega) (by omega)) dL_law_779 ?_
  refine r_top (y := x1) hx1.symm ?_
  refine lv_aload_n hx hb dL_law_780 rfl (lv_at hl 1 rfl) ?_
  refine cl_L_147 hx hb hml hown hK hZ hS hA (c_L_isCondemned hlt hI hO x1) rfl hl.1 (Nat.le_of_ble_eq_true rfl) ⟨Nat.le_of_ble_eq_true rfl, Nat.le_of_ble_eq_true rfl⟩ ⟨(by show _ ≤ 601024; dsimp only [rmM, rmP]; omega), (by show _ ≤ 7293034; dsimp only [rmM, rmP]; omega)⟩ rfl dL_law_781 (r_kr (fun r C1 ad1 H locs hQ hS => ?_))
  obtain ⟨rfl, ⟨L1, hI1⟩, ⟨f1, hO1, hv1⟩, hF1⟩ := hQ
  have e00 : ad 0 0 = ad1 0 0 := (hF1).2.symm
  have e30 : ad 30 0 = ad1 30 0 := ((hF1).1 30 0 (by decide)).1.symm
  have e46 : ad 46 0 = ad1 46 0 := ((hF1).1 46 0 (by decide)).1.symm
  rw [e00, e30, e46] at hl
  have hM1 := mC_o hM hF1
  rw [← hM1] at hS
  have hle := byN_le (n := (nD T)) (a := x1) (f := fun d => bI (decide (T 4 d = 1)))
  have hle : (qS T (byN (nD T) x1 (fun d => bI (decide (T 4 d = 1))))).1 ≤ 3 := Nat.le_trans hle (by decide)
  refine lv_istore (lv' := [(5, .int (nI (qS T (byN (nD T) x1 (fun d => bI (decide (T 4 d = 1))))).1)), (4, .int (nI (4 * j))), (3, .ref (ad1 46 0)), (2, .ref (ad1 30 0)), (1, .ref (ad1 0 0)), (0, .ref b)]) hx hb dL_law_784 hl (by decide) rfl (fun ls hl => ?_)
  refine lv_aload_n hx hb dL_law_786 rfl (lv_at hl 3 rfl) ?_
  refine lv_aload_n hx hb dL_law_787 rfl (lv_at hl 5 rfl) ?_
  refine lv_iload hx hb dL_law_788 (lv_at hl 1 rfl) ?_
  refine lv_iconst (v := nI 1) hx hb dL_law_790 (by decide) ?_
  refine lv_iadd hx hb dL_law_791 ?_
  refine r_top (nI_add _ _) ?_
  refine va_sld hx hb hX hbl hbA hS.2.2 (nI_in0 (by omega) (by omega)) dL_law_792 ?_
  refine r_top (y := x1) hx1.symm ?_
  refine cl_L_149 hx hb hml hown hK hZ hS hA (c_X5_isCondemned hN x1) mC_30 rfl hl.1 (Nat.le_of_ble_eq_true rfl) ⟨Nat.le_of_ble_eq_true rfl, Nat.le_of_ble_eq_true rfl⟩ ⟨(by show _ ≤ 601024; dsimp only [rmM, rmP]; omega), (by show _ ≤ 7293034; dsimp only [rmM, rmP]; omega)⟩ rfl dL_law_793 (r_kr (fun r C2 ad2 H locs hQ hS => ?_))
  obtain ⟨rfl, rfl, rfl⟩ := hQ
  refine lv_istore (lv' := [(6, .int (if (qS T (byN (nD T) x1 (fun d => bI (decide (T 4 d = 1))))).1 = 0 then (qS T (byN (nD T) x1 (fun d => bI (decide (T 4 d = 1))))).2.1 else nI 0)), (5, .int (nI (qS T (byN (nD T) x1 (fun d => bI (decide (T 4 d = 1))))).1)), (4, .int (nI (4 * j))), (3, .ref (ad1 46 0)), (2, .ref (ad1 30 0)), (1, .ref (ad1 0 0)), (0, .ref b)]) hx hb dL_law_796 hl (by decide) rfl (fun ls hl => ?_)
  refine lv_aload_n hx hb dL_law_798 rfl (lv_at hl 4 rfl) ?_
  refine cl_L_112 hx hb hml hown hK hZ hS hA c_X5_thrown mC_30 rfl hl.1 (Nat.le_of_ble_eq_true rfl) ⟨Nat.le_of_ble_eq_true rfl, Nat.le_of_ble_eq_true rfl⟩ ⟨(by show _ ≤ 601024; dsimp only [rmM, rmP]; omega), (by show _ ≤ 7293034; dsimp only [rmM, rmP]; omega)⟩ rfl dL_law_799 (r_kp (fun H locs hS => ?_))
  refine lv_iload hx hb dL_law_802 (lv_at hl 1 rfl) ?_
  refine lv_icmp_eq (tgt := 809) hx hb dL_law_804 (by decide) (fun q804 => ?_) (fun q804 => absurd rfl q804)
  refine lv_iload hx hb dL_law_809 (lv_at hl 1 rfl) ?_
  refine r_if_ne (a := (qS T (byN (nD T) x1 (fun d => bI (decide (T 4 d = 1))))).1) (tgt := 833) hx hb (by omega) dL_law_811 (by decide) (fun q0 => ?_) (fun q0 => ?_)
  · -- T
    refine lv_goto (tgt := 1889) hx hb dL_law_833 (by decide) ?_
    exact W.widen (by dsimp only [rmM, rmP]; omega) (by dsimp only [rmM, rmP]; omega) (next _ _ _ _ _ _ ⟨⟨_, (hI1).fr (fun k i hk => ⟨mC_n (Or.inl (by omega)), rfl⟩)⟩, (show rst (qS T (byN (nD T) x1 (fun d => bI (decide (T 4 d = 1))))).2.2 from hR), ⟨_, _, mC_id⟩, ⟨f1, (mC_n (Or.inr (Or.inl (by decide)))).trans hO1⟩, hS, lv_sub hl [2, 3, 4, 5, 6] rfl⟩)
  · -- F
    refine lv_aload_n hx hb dL_law_814 rfl (lv_at hl 3 rfl) ?_
    refine lv_iconst (v := nI 0) hx hb dL_law_815 (by decide) ?_
    refine r_lald hx hb hK.1 hS 1 ((mC_n (Or.inr (Or.inl (by decide)))).trans hO1) rfl (nI_in0 (by omega) (by omega)) (v := f1 0) (by rw [nI_clamp (by omega)]) dL_law_816 ?_
    refine lv_iload hx hb dL_law_817 (lv_at hl 0 rfl) ?_
    obtain ⟨bb, hbb⟩ : ∃ z, (qS T (byN (nD T) x1 (fun d => bI (decide (T 4 d = 1))))).2.1 = bI z := byN_b q0
    refine r_top (y := bI bb) ((if_pos q0).trans hbb) ?_
    refine r_ifb_eq (b := bb) (tgt := 826) hx hb dL_law_819 (by decide) (fun q819 => ?_) (fun q819 => ?_)
    · -- T
      refine lv_lconst (v := 0) hx hb dL_law_826 rfl ?_
      refine W.lcmp hx hb dL_law_827 ?_
      refine r_top (y := nI 0) (by rw [hv1 q0, hbb, q819]; exact lg_refl _) ?_
      refine r_if_eq (a := 0) (tgt := 833) hx hb (by decide) dL_law_828 (by decide) (fun q828 => ?_) (fun q828 => absurd rfl q828)
      refine lv_goto (tgt := 1889) hx hb dL_law_833 (by decide) ?_
      exact W.widen (by dsimp only [rmM, rmP]; omega) (by dsimp only [rmM, rmP]; omega) (next _ _ _ _ _ _ ⟨⟨_, (hI1).fr (fun k i hk => ⟨mC_n (Or.inl (by omega)), rfl⟩)⟩, (show rst (qS T (byN (nD T) x1 (fun d => bI (decide (T 4 d = 1))))).2.2 from hR), ⟨_, _, mC_id⟩, ⟨f1, (mC_n (Or.inr (Or.inl (by decide)))).trans hO1⟩, hS, lv_sub hl [2, 3, 4, 5, 6] rfl⟩)
    · -- F
      refine lv_lconst (v := 1) hx hb dL_law_822 rfl ?_
      refine lv_goto (tgt := 827) hx hb dL_law_823 (by decide) ?_
      refine W.lcmp hx hb dL_law_827 ?_
      refine r_top (y := nI 0) (by rw [hv1 q0, hbb, q819]; exact lg_refl _) ?_
      refine r_if_eq (a := 0) (tgt := 833) hx hb (by decide) dL_law_828 (by decide) (fun q828 => ?_) (fun q828 => absurd rfl q828)
      refine lv_goto (tgt := 1889) hx hb dL_law_833 (by decide) ?_
      exact W.widen (by dsimp only [rmM, rmP]; omega) (by dsimp only [rmM, rmP]; omega) (next _ _ _ _ _ _ ⟨⟨_, (hI1).fr (fun k i hk => ⟨mC_n (Or.inl (by omega)), rfl⟩)⟩, (show rst (qS T (byN (nD T) x1 (fun d => bI (decide (T 4 d = 1))))).2.2 from hR), ⟨_, _, mC_id⟩, ⟨f1, (mC_n (Or.inr (Or.inl (by decide)))).trans hO1⟩, hS, lv_sub hl [2, 3, 4, 5, 6] rfl⟩)

set_option maxHeartbeats 4000000 in
set_option maxRecDepth 100000 in
theorem law_12 {p : Program} {l : Launch} {e : Env} {s : State} {m : MethodId} {below : List Frame} {meth : Method} {c : Code} {Q : State → Prop} {G : rG} {b L j : Nat} {xs : Nat → Int32} (hh : lwH G p l s m c b L xs) (hj : 4 * j + 4 ≤ L) {T : rTab} {C : rC} {ad : rA} {H : Heap} {locs : List Loc} {ls : Array Slot} (hs : lwS G s b j T C ad H locs ls) (next : ∀ (T' : rTab) (C' : rC) (ad' : rA) (H' : Heap) (locs' : List Loc) (ls' : Array Slot), lwS G s b j T' C' ad' H' locs' ls' → W p l e room_1 s m #[Value.ref b] below meth c H' locs' (100 + 150 * (j + 1)) (2000 + 6300 * (j + 1)) Q (F0 m 1889 ls' [])) : W p l e room_1 s m #[Value.ref b] below meth c H locs (100 + 150 * j) (2000 + 6300 * j) Q (F0 m 836 ls []) := by
  obtain ⟨hx, hb, hml, hown, hK, hZ, hX, hbl, hlt, hL⟩ := hh
  obtain ⟨⟨L0, hI⟩, hR, ⟨th, rg, hM⟩, ⟨f, hO⟩, hS, hl⟩ := hs
  have hN := mNu_of hI hR
  have hnC := hN.hC
  have hnS := hN.hS
  have hA : ∀ q : Nat, s.heap.size ≤ q → (fun q => s.heap.size ≤ q) q := fun _ h => h
  have hbA : ¬ (fun q => s.heap.size ≤ q) b := Nat.not_le.mpr hbl
  obtain ⟨x1, hx1⟩ : ∃ z, z = xs (nI (4 * j + 1)).toNatClampNeg := ⟨_, rfl⟩
  refine lv_aload_n hx hb dL_law_836 rfl (lv_at hl 3 rfl) ?_
  refine lv_aload_n hx hb dL_law_837 rfl (lv_at hl 4 rfl) ?_
  refine lv_iload hx hb dL_law_838 (lv_at hl 0 rfl) ?_
  refine lv_iconst (v := nI 1) hx hb dL_law_840 (by decide) ?_
  refine lv_iadd hx hb dL_law_841 ?_
  refine r_top (nI_add _ _) ?_
  refine va_sld hx hb hX hbl hbA hS.2.2 (nI_in0 (by omega) (by omega)) dL_law_842 ?_
  refine r_top (y := x1) hx1.symm ?_
  refine lv_aload_n hx hb dL_law_843 rfl (lv_at hl 1 rfl) ?_
  refine cl_L_150 hx hb hml hown hK hZ hS hA (c_L_isTrue hlt hI hO x1) rfl hl.1 (Nat.le_of_ble_eq_true rfl) ⟨Nat.le_of_ble_eq_true rfl, Nat.le_of_ble_eq_true rfl⟩ ⟨(by show _ ≤ 601024; dsimp only [rmM, rmP]; omega), (by show _ ≤ 7293034; dsimp only [rmM, rmP]; omega)⟩ rfl dL_law_844 (r_kr (fun r C1 ad1 H locs hQ hS => ?_))
  obtain ⟨rfl, ⟨L1, hI1⟩, ⟨f1, hO1, hv1⟩, hF1⟩ := hQ
  have e00 : ad 0 0 = ad1 0 0 := (hF1).2.symm
  have e30 : ad 30 0 = ad1 30 0 := ((hF1).1 30 0 (by decide)).1.symm
  have e46 : ad 46 0 = ad1 46 0 := ((hF1).1 46 0 (by decide)).1.symm
  rw [e00, e30, e46] at hl
  have hM1 := mC_o hM hF1
  rw [← hM1] at hS
  have hle := byN_le (n := (nC T)) (a := x1) (f := fun j => bI (tru T j))
  have hle : (qS T (byN (nC T) x1 (fun j => bI (tru T j)))).1 ≤ 3 := Nat.le_trans hle (by decide)
  refine lv_istore (lv' := [(5, .int (nI (qS T (byN (nC T) x1 (fun j => bI (tru T j)))).1)), (4, .int (nI (4 * j))), (3, .ref (ad1 46 0)), (2, .ref (ad1 30 0)), (1, .ref (ad1 0 0)), (0, .ref b)]) hx hb dL_law_847 hl (by decide) rfl (fun ls hl => ?_)
  refine lv_aload_n hx hb dL_law_849 rfl (lv_at hl 3 rfl) ?_
  refine lv_aload_n hx hb dL_law_850 rfl (lv_at hl 5 rfl) ?_
  refine lv_iload hx hb dL_law_851 (lv_at hl 1 rfl) ?_
  refine lv_iconst (v := nI 1) hx hb dL_law_853 (by decide) ?_
  refine lv_iadd hx hb dL_law_854 ?_
  refine r_top (nI_add _ _) ?_
  refine va_sld hx hb hX hbl hbA hS.2.2 (nI_in0 (by omega) (by omega)) dL_law_855 ?_
  refine r_top (y := x1) hx1.symm ?_
  refine cl_L_152 hx hb hml hown hK hZ hS hA (c_X5_isTrue hN x1) mC_30 rfl hl.1 (Nat.le_of_ble_eq_true rfl) ⟨Nat.le_of_ble_eq_true rfl, Nat.le_of_ble_eq_true rfl⟩ ⟨(by show _ ≤ 601024; dsimp only [rmM, rmP]; omega), (by show _ ≤ 7293034; dsimp only [rmM, rmP]; omega)⟩ rfl dL_law_856 (r_kr (fun r C2 ad2 H locs hQ hS => ?_))
  obtain ⟨rfl, rfl, rfl⟩ := hQ
  refine lv_istore (lv' := [(6, .int (if (qS T (byN (nC T) x1 (fun j => bI (tru T j)))).1 = 0 then (qS T (byN (nC T) x1 (fun j => bI (tru T j)))).2.1 else nI 0)), (5, .int (nI (qS T (byN (nC T) x1 (fun j => bI (tru T j)))).1)), (4, .int (nI (4 * j))), (3, .ref (ad1 46 0)), (2, .ref (ad1 30 0)), (1, .ref (ad1 0 0)), (0, .ref b)]) hx hb dL_law_859 hl (by decide) rfl (fun ls hl => ?_)
  refine lv_aload_n hx hb dL_law_861 rfl (lv_at hl 4 rfl) ?_
  refine cl_L_112 hx hb hml hown hK hZ hS hA c_X5_thrown mC_30 rfl hl.1 (Nat.le_of_ble_eq_true rfl) ⟨Nat.le_of_ble_eq_true rfl, Nat.le_of_ble_eq_true rfl⟩ ⟨(by show _ ≤ 601024; dsimp only [rmM, rmP]; omega), (by show _ ≤ 7293034; dsimp only [rmM, rmP]; omega)⟩ rfl dL_law_862 (r_kp (fun H locs hS => ?_))
  refine lv_iload hx hb dL_law_865 (lv_at hl 1 rfl) ?_
  refine lv_icmp_eq (tgt := 872) hx hb dL_law_867 (by decide) (fun q867 => ?_) (fun q867 => absurd rfl q867)
  refine lv_iload hx hb dL_law_872 (lv_at hl 1 rfl) ?_
  refine r_if_ne (a := (qS T (byN (nC T) x1 (fun j => bI (tru T j)))).1) (tgt := 896) hx hb (by omega) dL_law_874 (by decide) (fun q0 => ?_) (fun q0 => ?_)
  · -- T
    refine lv_goto (tgt := 1889) hx hb dL_law_896 (by decide) ?_
    exact W.widen (by dsimp only [rmM, rmP]; omega) (by dsimp only [rmM, rmP]; omega) (next _ _ _ _ _ _ ⟨⟨_, (hI1).fr (fun k i hk => ⟨mC_n (Or.inl (by omega)), rfl⟩)⟩, (show rst (qS T (byN (nC T) x1 (fun j => bI (tru T j)))).2.2 from hR), ⟨_, _, mC_id⟩, ⟨f1, (mC_n (Or.inr (Or.inl (by decide)))).trans hO1⟩, hS, lv_sub hl [2, 3, 4, 5, 6] rfl⟩)
  · -- F
    refine lv_aload_n hx hb dL_law_877 rfl (lv_at hl 3 rfl) ?_
    refine lv_iconst (v := nI 0) hx hb dL_law_878 (by decide) ?_
    refine r_lald hx hb hK.1 hS 1 ((mC_n (Or.inr (Or.inl (by decide)))).trans hO1) rfl (nI_in0 (by omega) (by omega)) (v := f1 0) (by rw [nI_clamp (by omega)]) dL_law_879 ?_
    refine lv_iload hx hb dL_law_880 (lv_at hl 0 rfl) ?_
    obtain ⟨bb, hbb⟩ : ∃ z, (qS T (byN (nC T) x1 (fun j => bI (tru T j)))).2.1 = bI z := byN_b q0
    refine r_top (y := bI bb) ((if_pos q0).trans hbb) ?_
    refine r_ifb_eq (b := bb) (tgt := 889) hx hb dL_law_882 (by decide) (fun q882 => ?_) (fun q882 => ?_)
    · -- T
      refine lv_lconst (v := 0) hx hb dL_law_889 rfl ?_
      refine W.lcmp hx hb dL_law_890 ?_
      refine r_top (y := nI 0) (by rw [hv1 q0, hbb, q882]; exact lg_refl _) ?_
      refine r_if_eq (a := 0) (tgt := 896) hx hb (by decide) dL_law_891 (by decide) (fun q891 => ?_) (fun q891 => absurd rfl q891)
      refine lv_goto (tgt := 1889) hx hb dL_law_896 (by decide) ?_
      exact W.widen (by dsimp only [rmM, rmP]; omega) (by dsimp only [rmM, rmP]; omega) (next _ _ _ _ _ _ ⟨⟨_, (hI1).fr (fun k i hk => ⟨mC_n (Or.inl (by omega)), rfl⟩)⟩, (show rst (qS T (byN (nC T) x1 (fun j => bI (tru T j)))).2.2 from hR), ⟨_, _, mC_id⟩, ⟨f1, (mC_n (Or.inr (Or.inl (by decide)))).trans hO1⟩, hS, lv_sub hl [2, 3, 4, 5, 6] rfl⟩)
    · -- F
      refine lv_lconst (v := 1) hx hb dL_law_885 rfl ?_
      refine lv_goto (tgt := 890) hx hb dL_law_886 (by decide) ?_
      refine W.lcmp hx hb dL_law_890 ?_
      refine r_top (y := nI 0) (by rw [hv1 q0, hbb, q882]; exact lg_refl _) ?_
      refine r_if_eq (a := 0) (tgt := 896) hx hb (by decide) dL_law_891 (by decide) (fun q891 => ?_) (fun q891 => absurd rfl q891)
      refine lv_goto (tgt := 1889) hx hb dL_law_896 (by decide) ?_
      exact W.widen (by dsimp only [rmM, rmP]; omega) (by dsimp only [rmM, rmP]; omega) (next _ _ _ _ _ _ ⟨⟨_, (hI1).fr (fun k i hk => ⟨mC_n (Or.inl (by omega)), rfl⟩)⟩, (show rst (qS T (byN (nC T) x1 (fun j => bI (tru T j)))).2.2 from hR), ⟨_, _, mC_id⟩, ⟨f1, (mC_n (Or.inr (Or.inl (by decide)))).trans hO1⟩, hS, lv_sub hl [2, 3, 4, 5, 6] rfl⟩)

set_option maxHeartbeats 4000000 in
set_option maxRecDepth 100000 in
theorem law_13 {p : Program} {l : Launch} {e : Env} {s : State} {m : MethodId} {below : List Frame} {meth : Method} {c : Code} {Q : State → Prop} {G : rG} {b L j : Nat} {xs : Nat → Int32} (hh : lwH G p l s m c b L xs) (hj : 4 * j + 4 ≤ L) {T : rTab} {C : rC} {ad : rA} {H : Heap} {locs : List Loc} {ls : Array Slot} (hs : lwS G s b j T C ad H locs ls) (next : ∀ (T' : rTab) (C' : rC) (ad' : rA) (H' : Heap) (locs' : List Loc) (ls' : Array Slot), lwS G s b j T' C' ad' H' locs' ls' → W p l e room_1 s m #[Value.ref b] below meth c H' locs' (100 + 150 * (j + 1)) (2000 + 6300 * (j + 1)) Q (F0 m 1889 ls' [])) : W p l e room_1 s m #[Value.ref b] below meth c H locs (100 + 150 * j) (2000 + 6300 * j) Q (F0 m 899 ls []) := by
  obtain ⟨hx, hb, hml, hown, hK, hZ, hX, hbl, hlt, hL⟩ := hh
  obtain ⟨⟨L0, hI⟩, hR, ⟨th, rg, hM⟩, ⟨f, hO⟩, hS, hl⟩ := hs
  have hN := mNu_of hI hR
  have hnC := hN.hC
  have hnS := hN.hS
  have hA : ∀ q : Nat, s.heap.size ≤ q → (fun q => s.heap.size ≤ q) q := fun _ h => h
  have hbA : ¬ (fun q => s.heap.size ≤ q) b := Nat.not_le.mpr hbl
  obtain ⟨x1, hx1⟩ : ∃ z, z = xs (nI (4 * j + 1)).toNatClampNeg := ⟨_, rfl⟩
  refine lv_aload_n hx hb dL_law_899 rfl (lv_at hl 3 rfl) ?_
  refine lv_aload_n hx hb dL_law_900 rfl (lv_at hl 4 rfl) ?_
  refine lv_iload hx hb dL_law_901 (lv_at hl 0 rfl) ?_
  refine lv_iconst (v := nI 1) hx hb dL_law_903 (by decide) ?_
  refine lv_iadd hx hb dL_law_904 ?_
  refine r_top (nI_add _ _) ?_
  refine va_sld hx hb hX hbl hbA hS.2.2 (nI_in0 (by omega) (by omega)) dL_law_905 ?_
  refine r_top (y := x1) hx1.symm ?_
  refine lv_aload_n hx hb dL_law_906 rfl (lv_at hl 1 rfl) ?_
  refine cl_L_153 hx hb hml hown hK hZ hS hA (c_L_rarity hlt hI hO x1) rfl hl.1 (Nat.le_of_ble_eq_true rfl) ⟨Nat.le_of_ble_eq_true rfl, Nat.le_of_ble_eq_true rfl⟩ ⟨(by show _ ≤ 601024; dsimp only [rmM, rmP]; omega), (by show _ ≤ 7293034; dsimp only [rmM, rmP]; omega)⟩ rfl dL_law_907 (r_kr (fun r C1 ad1 H locs hQ hS => ?_))
  obtain ⟨rfl, ⟨L1, hI1⟩, ⟨f1, hO1, hv1⟩, hF1⟩ := hQ
  have e00 : ad 0 0 = ad1 0 0 := (hF1).2.symm
  have e30 : ad 30 0 = ad1 30 0 := ((hF1).1 30 0 (by decide)).1.symm
  have e46 : ad 46 0 = ad1 46 0 := ((hF1).1 46 0 (by decide)).1.symm
  rw [e00, e30, e46] at hl
  have hM1 := mC_o hM hF1
  rw [← hM1] at hS
  have hle := byN_le (n := (nD T)) (a := x1) (f := fun d => nI (rar T d))
  have hle : (qS T (byN (nD T) x1 (fun d => nI (rar T d)))).1 ≤ 3 := Nat.le_trans hle (by decide)
  refine lv_istore (lv' := [(5, .int (nI (qS T (byN (nD T) x1 (fun d => nI (rar T d)))).1)), (4, .int (nI (4 * j))), (3, .ref (ad1 46 0)), (2, .ref (ad1 30 0)), (1, .ref (ad1 0 0)), (0, .ref b)]) hx hb dL_law_910 hl (by decide) rfl (fun ls hl => ?_)
  refine lv_aload_n hx hb dL_law_912 rfl (lv_at hl 3 rfl) ?_
  refine lv_aload_n hx hb dL_law_913 rfl (lv_at hl 5 rfl) ?_
  refine lv_iload hx hb dL_law_914 (lv_at hl 1 rfl) ?_
  refine lv_iconst (v := nI 1) hx hb dL_law_916 (by decide) ?_
  refine lv_iadd hx hb dL_law_917 ?_
  refine r_top (nI_add _ _) ?_
  refine va_sld hx hb hX hbl hbA hS.2.2 (nI_in0 (by omega) (by omega)) dL_law_918 ?_
  refine r_top (y := x1) hx1.symm ?_
  refine cl_L_155 hx hb hml hown hK hZ hS hA (c_X5_rarity hN x1) mC_30 rfl hl.1 (Nat.le_of_ble_eq_true rfl) ⟨Nat.le_of_ble_eq_true rfl, Nat.le_of_ble_eq_true rfl⟩ ⟨(by show _ ≤ 601024; dsimp only [rmM, rmP]; omega), (by show _ ≤ 7293034; dsimp only [rmM, rmP]; omega)⟩ rfl dL_law_919 (r_kr (fun r C2 ad2 H locs hQ hS => ?_))
  obtain ⟨rfl, rfl, rfl⟩ := hQ
  refine lv_istore (lv' := [(6, .int (if (qS T (byN (nD T) x1 (fun d => nI (rar T d)))).1 = 0 then (qS T (byN (nD T) x1 (fun d => nI (rar T d)))).2.1 else nI 0)), (5, .int (nI (qS T (byN (nD T) x1 (fun d => nI (rar T d)))).1)), (4, .int (nI (4 * j))), (3, .ref (ad1 46 0)), (2, .ref (ad1 30 0)), (1, .ref (ad1 0 0)), (0, .ref b)]) hx hb dL_law_922 hl (by decide) rfl (fun ls hl => ?_)
  refine lv_aload_n hx hb dL_law_924 rfl (lv_at hl 4 rfl) ?_
  refine cl_L_112 hx hb hml hown hK hZ hS hA c_X5_thrown mC_30 rfl hl.1 (Nat.le_of_ble_eq_true rfl) ⟨Nat.le_of_ble_eq_true rfl, Nat.le_of_ble_eq_true rfl⟩ ⟨(by show _ ≤ 601024; dsimp only [rmM, rmP]; omega), (by show _ ≤ 7293034; dsimp only [rmM, rmP]; omega)⟩ rfl dL_law_925 (r_kp (fun H locs hS => ?_))
  refine lv_iload hx hb dL_law_928 (lv_at hl 1 rfl) ?_
  refine lv_icmp_eq (tgt := 935) hx hb dL_law_930 (by decide) (fun q930 => ?_) (fun q930 => absurd rfl q930)
  refine lv_iload hx hb dL_law_935 (lv_at hl 1 rfl) ?_
  refine r_if_ne (a := (qS T (byN (nD T) x1 (fun d => nI (rar T d)))).1) (tgt := 952) hx hb (by omega) dL_law_937 (by decide) (fun q0 => ?_) (fun q0 => ?_)
  · -- T
    refine lv_goto (tgt := 1889) hx hb dL_law_952 (by decide) ?_
    exact W.widen (by dsimp only [rmM, rmP]; omega) (by dsimp only [rmM, rmP]; omega) (next _ _ _ _ _ _ ⟨⟨_, (hI1).fr (fun k i hk => ⟨mC_n (Or.inl (by omega)), rfl⟩)⟩, (show rst (qS T (byN (nD T) x1 (fun d => nI (rar T d)))).2.2 from hR), ⟨_, _, mC_id⟩, ⟨f1, (mC_n (Or.inr (Or.inl (by decide)))).trans hO1⟩, hS, lv_sub hl [2, 3, 4, 5, 6] rfl⟩)
  · -- F
    refine lv_aload_n hx hb dL_law_940 rfl (lv_at hl 3 rfl) ?_
    refine lv_iconst (v := nI 0) hx hb dL_law_941 (by decide) ?_
    refine r_lald hx hb hK.1 hS 1 ((mC_n (Or.inr (Or.inl (by decide)))).trans hO1) rfl (nI_in0 (by omega) (by omega)) (v := f1 0) (by rw [nI_clamp (by omega)]) dL_law_942 ?_
    refine lv_iload hx hb dL_law_943 (lv_at hl 0 rfl) ?_
    refine lv_i2l (v := (if (qS T (byN (nD T) x1 (fun d => nI (rar T d)))).1 = 0 then (qS T (byN (nD T) x1 (fun d => nI (rar T d)))).2.1 else nI 0).toInt64) hx hb dL_law_945 rfl ?_
    refine W.lcmp hx hb dL_law_946 ?_
    refine r_top (y := nI 0) (by rw [hv1 q0, if_pos q0]; exact lg_refl _) ?_
    refine r_if_eq (a := 0) (tgt := 952) hx hb (by decide) dL_law_947 (by decide) (fun q947 => ?_) (fun q947 => absurd rfl q947)
    refine lv_goto (tgt := 1889) hx hb dL_law_952 (by decide) ?_
    exact W.widen (by dsimp only [rmM, rmP]; omega) (by dsimp only [rmM, rmP]; omega) (next _ _ _ _ _ _ ⟨⟨_, (hI1).fr (fun k i hk => ⟨mC_n (Or.inl (by omega)), rfl⟩)⟩, (show rst (qS T (byN (nD T) x1 (fun d => nI (rar T d)))).2.2 from hR), ⟨_, _, mC_id⟩, ⟨f1, (mC_n (Or.inr (Or.inl (by decide)))).trans hO1⟩, hS, lv_sub hl [2, 3, 4, 5, 6] rfl⟩)

set_option maxHeartbeats 4000000 in
set_option maxRecDepth 100000 in
theorem law_14 {p : Program} {l : Launch} {e : Env} {s : State} {m : MethodId} {below : List Frame} {meth : Method} {c : Code} {Q : State → Prop} {G : rG} {b L j : Nat} {xs : Nat → Int32} (hh : lwH G p l s m c b L xs) (hj : 4 * j + 4 ≤ L) {T : rTab} {C : rC} {ad : rA} {H : Heap} {locs : List Loc} {ls : Array Slot} (hs : lwS G s b j T C ad H locs ls) (next : ∀ (T' : rTab) (C' : rC) (ad' : rA) (H' : Heap) (locs' : List Loc) (ls' : Array Slot), lwS G s b j T' C' ad' H' locs' ls' → W p l e room_1 s m #[Value.ref b] below meth c H' locs' (100 + 150 * (j + 1)) (2000 + 6300 * (j + 1)) Q (F0 m 1889 ls' [])) : W p l e room_1 s m #[Value.ref b] below meth c H locs (100 + 150 * j) (2000 + 6300 * j) Q (F0 m 955 ls []) := by
  obtain ⟨hx, hb, hml, hown, hK, hZ, hX, hbl, hlt, hL⟩ := hh
  obtain ⟨⟨L0, hI⟩, hR, ⟨th, rg, hM⟩, ⟨f, hO⟩, hS, hl⟩ := hs
  have hN := mNu_of hI hR
  have hnC := hN.hC
  have hnS := hN.hS
  have hA : ∀ q : Nat, s.heap.size ≤ q → (fun q => s.heap.size ≤ q) q := fun _ h => h
  have hbA : ¬ (fun q => s.heap.size ≤ q) b := Nat.not_le.mpr hbl
  obtain ⟨x1, hx1⟩ : ∃ z, z = xs (nI (4 * j + 1)).toNatClampNeg := ⟨_, rfl⟩
  refine lv_aload_n hx hb dL_law_955 rfl (lv_at hl 3 rfl) ?_
  refine lv_aload_n hx hb dL_law_956 rfl (lv_at hl 4 rfl) ?_
  refine lv_iload hx hb dL_law_957 (lv_at hl 0 rfl) ?_
  refine lv_iconst (v := nI 1) hx hb dL_law_959 (by decide) ?_
  refine lv_iadd hx hb dL_law_960 ?_
  refine r_top (nI_add _ _) ?_
  refine va_sld hx hb hX hbl hbA hS.2.2 (nI_in0 (by omega) (by omega)) dL_law_961 ?_
  refine r_top (y := x1) hx1.symm ?_
  refine lv_aload_n hx hb dL_law_962 rfl (lv_at hl 1 rfl) ?_
  refine cl_L_156 hx hb hml hown hK hZ hS hA (c_L_rarityByCoins hlt hI hO x1) rfl hl.1 (Nat.le_of_ble_eq_true rfl) ⟨Nat.le_of_ble_eq_true rfl, Nat.le_of_ble_eq_true rfl⟩ ⟨(by show _ ≤ 601024; dsimp only [rmM, rmP]; omega), (by show _ ≤ 7293034; dsimp only [rmM, rmP]; omega)⟩ rfl dL_law_963 (r_kr (fun r C1 ad1 H locs hQ hS => ?_))
  obtain ⟨rfl, ⟨L1, hI1⟩, ⟨f1, hO1, hv1⟩, hF1⟩ := hQ
  have e00 : ad 0 0 = ad1 0 0 := (hF1).2.symm
  have e30 : ad 30 0 = ad1 30 0 := ((hF1).1 30 0 (by decide)).1.symm
  have e46 : ad 46 0 = ad1 46 0 := ((hF1).1 46 0 (by decide)).1.symm
  rw [e00, e30, e46] at hl
  have hM1 := mC_o hM hF1
  rw [← hM1] at hS
  have hle := byN_le (n := (nD T)) (a := x1) (f := fun d => nI (rar T d))
  have hle : (qS T (byN (nD T) x1 (fun d => nI (rar T d)))).1 ≤ 3 := Nat.le_trans hle (by decide)
  refine lv_istore (lv' := [(5, .int (nI (qS T (byN (nD T) x1 (fun d => nI (rar T d)))).1)), (4, .int (nI (4 * j))), (3, .ref (ad1 46 0)), (2, .ref (ad1 30 0)), (1, .ref (ad1 0 0)), (0, .ref b)]) hx hb dL_law_966 hl (by decide) rfl (fun ls hl => ?_)
  refine lv_aload_n hx hb dL_law_968 rfl (lv_at hl 3 rfl) ?_
  refine lv_aload_n hx hb dL_law_969 rfl (lv_at hl 5 rfl) ?_
  refine lv_iload hx hb dL_law_970 (lv_at hl 1 rfl) ?_
  refine lv_iconst (v := nI 1) hx hb dL_law_972 (by decide) ?_
  refine lv_iadd hx hb dL_law_973 ?_
  refine r_top (nI_add _ _) ?_
  refine va_sld hx hb hX hbl hbA hS.2.2 (nI_in0 (by omega) (by omega)) dL_law_974 ?_
  refine r_top (y := x1) hx1.symm ?_
  refine cl_L_158 hx hb hml hown hK hZ hS hA (c_X5_rarityByCoins hN x1) mC_30 rfl hl.1 (Nat.le_of_ble_eq_true rfl) ⟨Nat.le_of_ble_eq_true rfl, Nat.le_of_ble_eq_true rfl⟩ ⟨(by show _ ≤ 601024; dsimp only [rmM, rmP]; omega), (by show _ ≤ 7293034; dsimp only [rmM, rmP]; omega)⟩ rfl dL_law_975 (r_kr (fun r C2 ad2 H locs hQ hS => ?_))
  obtain ⟨rfl, rfl, rfl⟩ := hQ
  refine lv_istore (lv' := [(6, .int (if (qS T (byN (nD T) x1 (fun d => nI (rar T d)))).1 = 0 then (qS T (byN (nD T) x1 (fun d => nI (rar T d)))).2.1 else nI 0)), (5, .int (nI (qS T (byN (nD T) x1 (fun d => nI (rar T d)))).1)), (4, .int (nI (4 * j))), (3, .ref (ad1 46 0)), (2, .ref (ad1 30 0)), (1, .ref (ad1 0 0)), (0, .ref b)]) hx hb dL_law_978 hl (by decide) rfl (fun ls hl => ?_)
  refine lv_aload_n hx hb dL_law_980 rfl (lv_at hl 4 rfl) ?_
  refine cl_L_112 hx hb hml hown hK hZ hS hA c_X5_thrown mC_30 rfl hl.1 (Nat.le_of_ble_eq_true rfl) ⟨Nat.le_of_ble_eq_true rfl, Nat.le_of_ble_eq_true rfl⟩ ⟨(by show _ ≤ 601024; dsimp only [rmM, rmP]; omega), (by show _ ≤ 7293034; dsimp only [rmM, rmP]; omega)⟩ rfl dL_law_981 (r_kp (fun H locs hS => ?_))
  refine lv_iload hx hb dL_law_984 (lv_at hl 1 rfl) ?_
  refine lv_icmp_eq (tgt := 991) hx hb dL_law_986 (by decide) (fun q986 => ?_) (fun q986 => absurd rfl q986)
  refine lv_iload hx hb dL_law_991 (lv_at hl 1 rfl) ?_
  refine r_if_ne (a := (qS T (byN (nD T) x1 (fun d => nI (rar T d)))).1) (tgt := 1008) hx hb (by omega) dL_law_993 (by decide) (fun q0 => ?_) (fun q0 => ?_)
  · -- T
    refine lv_goto (tgt := 1889) hx hb dL_law_1008 (by decide) ?_
    exact W.widen (by dsimp only [rmM, rmP]; omega) (by dsimp only [rmM, rmP]; omega) (next _ _ _ _ _ _ ⟨⟨_, (hI1).fr (fun k i hk => ⟨mC_n (Or.inl (by omega)), rfl⟩)⟩, (show rst (qS T (byN (nD T) x1 (fun d => nI (rar T d)))).2.2 from hR), ⟨_, _, mC_id⟩, ⟨f1, (mC_n (Or.inr (Or.inl (by decide)))).trans hO1⟩, hS, lv_sub hl [2, 3, 4, 5, 6] rfl⟩)
  · -- F
    refine lv_aload_n hx hb dL_law_996 rfl (lv_at hl 3 rfl) ?_
    refine lv_iconst (v := nI 0) hx hb dL_law_997 (by decide) ?_
    refine r_lald hx hb hK.1 hS 1 ((mC_n (Or.inr (Or.inl (by decide)))).trans hO1) rfl (nI_in0 (by omega) (by omega)) (v := f1 0) (by rw [nI_clamp (by omega)]) dL_law_998 ?_
    refine lv_iload hx hb dL_law_999 (lv_at hl 0 rfl) ?_
    refine lv_i2l (v := (if (qS T (byN (nD T) x1 (fun d => nI (rar T d)))).1 = 0 then (qS T (byN (nD T) x1 (fun d => nI (rar T d)))).2.1 else nI 0).toInt64) hx hb dL_law_1001 rfl ?_
    refine W.lcmp hx hb dL_law_1002 ?_
    refine r_top (y := nI 0) (by rw [hv1 q0, if_pos q0]; exact lg_refl _) ?_
    refine r_if_eq (a := 0) (tgt := 1008) hx hb (by decide) dL_law_1003 (by decide) (fun q1003 => ?_) (fun q1003 => absurd rfl q1003)
    refine lv_goto (tgt := 1889) hx hb dL_law_1008 (by decide) ?_
    exact W.widen (by dsimp only [rmM, rmP]; omega) (by dsimp only [rmM, rmP]; omega) (next _ _ _ _ _ _ ⟨⟨_, (hI1).fr (fun k i hk => ⟨mC_n (Or.inl (by omega)), rfl⟩)⟩, (show rst (qS T (byN (nD T) x1 (fun d => nI (rar T d)))).2.2 from hR), ⟨_, _, mC_id⟩, ⟨f1, (mC_n (Or.inr (Or.inl (by decide)))).trans hO1⟩, hS, lv_sub hl [2, 3, 4, 5, 6] rfl⟩)

set_option maxHeartbeats 4000000 in
set_option maxRecDepth 100000 in
theorem law_15 {p : Program} {l : Launch} {e : Env} {s : State} {m : MethodId} {below : List Frame} {meth : Method} {c : Code} {Q : State → Prop} {G : rG} {b L j : Nat} {xs : Nat → Int32} (hh : lwH G p l s m c b L xs) (hj : 4 * j + 4 ≤ L) {T : rTab} {C : rC} {ad : rA} {H : Heap} {locs : List Loc} {ls : Array Slot} (hs : lwS G s b j T C ad H locs ls) (next : ∀ (T' : rTab) (C' : rC) (ad' : rA) (H' : Heap) (locs' : List Loc) (ls' : Array Slot), lwS G s b j T' C' ad' H' locs' ls' → W p l e room_1 s m #[Value.ref b] below meth c H' locs' (100 + 150 * (j + 1)) (2000 + 6300 * (j + 1)) Q (F0 m 1889 ls' [])) : W p l e room_1 s m #[Value.ref b] below meth c H locs (100 + 150 * j) (2000 + 6300 * j) Q (F0 m 1011 ls []) := by
  obtain ⟨hx, hb, hml, hown, hK, hZ, hX, hbl, hlt, hL⟩ := hh
  obtain ⟨⟨L0, hI⟩, hR, ⟨th, rg, hM⟩, ⟨f, hO⟩, hS, hl⟩ := hs
  have hN := mNu_of hI hR
  have hnC := hN.hC
  have hnS := hN.hS
  have hA : ∀ q : Nat, s.heap.size ≤ q → (fun q => s.heap.size ≤ q) q := fun _ h => h
  have hbA : ¬ (fun q => s.heap.size ≤ q) b := Nat.not_le.mpr hbl
  obtain ⟨x1, hx1⟩ : ∃ z, z = xs (nI (4 * j + 1)).toNatClampNeg := ⟨_, rfl⟩
  refine lv_aload_n hx hb dL_law_1011 rfl (lv_at hl 3 rfl) ?_
  refine lv_aload_n hx hb dL_law_1012 rfl (lv_at hl 4 rfl) ?_
  refine lv_iload hx hb dL_law_1013 (lv_at hl 0 rfl) ?_
  refine lv_iconst (v := nI 1) hx hb dL_law_1015 (by decide) ?_
  refine lv_iadd hx hb dL_law_1016 ?_
  refine r_top (nI_add _ _) ?_
  refine va_sld hx hb hX hbl hbA hS.2.2 (nI_in0 (by omega) (by omega)) dL_law_1017 ?_
  refine r_top (y := x1) hx1.symm ?_
  refine lv_aload_n hx hb dL_law_1018 rfl (lv_at hl 1 rfl) ?_
  refine cl_L_159 hx hb hml hown hK hZ hS hA (c_L_price hlt hI hO x1) rfl hl.1 (Nat.le_of_ble_eq_true rfl) ⟨Nat.le_of_ble_eq_true rfl, Nat.le_of_ble_eq_true rfl⟩ ⟨(by show _ ≤ 601024; dsimp only [rmM, rmP]; omega), (by show _ ≤ 7293034; dsimp only [rmM, rmP]; omega)⟩ rfl dL_law_1019 (r_kr (fun r C1 ad1 H locs hQ hS => ?_))
  obtain ⟨rfl, ⟨L1, hI1⟩, ⟨f1, hO1, hv1⟩, hF1⟩ := hQ
  have e00 : ad 0 0 = ad1 0 0 := (hF1).2.symm
  have e30 : ad 30 0 = ad1 30 0 := ((hF1).1 30 0 (by decide)).1.symm
  have e46 : ad 46 0 = ad1 46 0 := ((hF1).1 46 0 (by decide)).1.symm
  rw [e00, e30, e46] at hl
  have hM1 := mC_o hM hF1
  rw [← hM1] at hS
  have hle := byN_le (n := (nC T)) (a := x1) (f := fun j => nI (priceN T j))
  have hle : (qS T (byN (nC T) x1 (fun j => nI (priceN T j)))).1 ≤ 3 := Nat.le_trans hle (by decide)
  refine lv_istore (lv' := [(5, .int (nI (qS T (byN (nC T) x1 (fun j => nI (priceN T j)))).1)), (4, .int (nI (4 * j))), (3, .ref (ad1 46 0)), (2, .ref (ad1 30 0)), (1, .ref (ad1 0 0)), (0, .ref b)]) hx hb dL_law_1022 hl (by decide) rfl (fun ls hl => ?_)
  refine lv_aload_n hx hb dL_law_1024 rfl (lv_at hl 3 rfl) ?_
  refine lv_aload_n hx hb dL_law_1025 rfl (lv_at hl 5 rfl) ?_
  refine lv_iload hx hb dL_law_1026 (lv_at hl 1 rfl) ?_
  refine lv_iconst (v := nI 1) hx hb dL_law_1028 (by decide) ?_
  refine lv_iadd hx hb dL_law_1029 ?_
  refine r_top (nI_add _ _) ?_
  refine va_sld hx hb hX hbl hbA hS.2.2 (nI_in0 (by omega) (by omega)) dL_law_1030 ?_
  refine r_top (y := x1) hx1.symm ?_
  refine cl_L_161 hx hb hml hown hK hZ hS hA (c_X5_price hN x1) mC_30 rfl hl.1 (Nat.le_of_ble_eq_true rfl) ⟨Nat.le_of_ble_eq_true rfl, Nat.le_of_ble_eq_true rfl⟩ ⟨(by show _ ≤ 601024; dsimp only [rmM, rmP]; omega), (by show _ ≤ 7293034; dsimp only [rmM, rmP]; omega)⟩ rfl dL_law_1031 (r_kr (fun r C2 ad2 H locs hQ hS => ?_))
  obtain ⟨rfl, rfl, rfl⟩ := hQ
  refine lv_istore (lv' := [(6, .int (if (qS T (byN (nC T) x1 (fun j => nI (priceN T j)))).1 = 0 then (qS T (byN (nC T) x1 (fun j => nI (priceN T j)))).2.1 else nI 0)), (5, .int (nI (qS T (byN (nC T) x1 (fun j => nI (priceN T j)))).1)), (4, .int (nI (4 * j))), (3, .ref (ad1 46 0)), (2, .ref (ad1 30 0)), (1, .ref (ad1 0 0)), (0, .ref b)]) hx hb dL_law_1034 hl (by decide) rfl (fun ls hl => ?_)
  refine lv_aload_n hx hb dL_law_1036 rfl (lv_at hl 4 rfl) ?_
  refine cl_L_112 hx hb hml hown hK hZ hS hA c_X5_thrown mC_30 rfl hl.1 (Nat.le_of_ble_eq_true rfl) ⟨Nat.le_of_ble_eq_true rfl, Nat.le_of_ble_eq_true rfl⟩ ⟨(by show _ ≤ 601024; dsimp only [rmM, rmP]; omega), (by show _ ≤ 7293034; dsimp only [rmM, rmP]; omega)⟩ rfl dL_law_1037 (r_kp (fun H locs hS => ?_))
  refine lv_iload hx hb dL_law_1040 (lv_at hl 1 rfl) ?_
  refine lv_icmp_eq (tgt := 1047) hx hb dL_law_1042 (by decide) (fun q1042 => ?_) (fun q1042 => absurd rfl q1042)
  refine lv_iload hx hb dL_law_1047 (lv_at hl 1 rfl) ?_
  refine r_if_ne (a := (qS T (byN (nC T) x1 (fun j => nI (priceN T j)))).1) (tgt := 1064) hx hb (by omega) dL_law_1049 (by decide) (fun q0 => ?_) (fun q0 => ?_)
  · -- T
    refine lv_goto (tgt := 1889) hx hb dL_law_1064 (by decide) ?_
    exact W.widen (by dsimp only [rmM, rmP]; omega) (by dsimp only [rmM, rmP]; omega) (next _ _ _ _ _ _ ⟨⟨_, (hI1).fr (fun k i hk => ⟨mC_n (Or.inl (by omega)), rfl⟩)⟩, (show rst (qS T (byN (nC T) x1 (fun j => nI (priceN T j)))).2.2 from hR), ⟨_, _, mC_id⟩, ⟨f1, (mC_n (Or.inr (Or.inl (by decide)))).trans hO1⟩, hS, lv_sub hl [2, 3, 4, 5, 6] rfl⟩)
  · -- F
    refine lv_aload_n hx hb dL_law_1052 rfl (lv_at hl 3 rfl) ?_
    refine lv_iconst (v := nI 0) hx hb dL_law_1053 (by decide) ?_
    refine r_lald hx hb hK.1 hS 1 ((mC_n (Or.inr (Or.inl (by decide)))).trans hO1) rfl (nI_in0 (by omega) (by omega)) (v := f1 0) (by rw [nI_clamp (by omega)]) dL_law_1054 ?_
    refine lv_iload hx hb dL_law_1055 (lv_at hl 0 rfl) ?_
    refine lv_i2l (v := (if (qS T (byN (nC T) x1 (fun j => nI (priceN T j)))).1 = 0 then (qS T (byN (nC T) x1 (fun j => nI (priceN T j)))).2.1 else nI 0).toInt64) hx hb dL_law_1057 rfl ?_
    refine W.lcmp hx hb dL_law_1058 ?_
    refine r_top (y := nI 0) (by rw [hv1 q0, if_pos q0]; exact lg_refl _) ?_
    refine r_if_eq (a := 0) (tgt := 1064) hx hb (by decide) dL_law_1059 (by decide) (fun q1059 => ?_) (fun q1059 => absurd rfl q1059)
    refine lv_goto (tgt := 1889) hx hb dL_law_1064 (by decide) ?_
    exact W.widen (by dsimp only [rmM, rmP]; omega) (by dsimp only [rmM, rmP]; omega) (next _ _ _ _ _ _ ⟨⟨_, (hI1).fr (fun k i hk => ⟨mC_n (Or.inl (by omega)), rfl⟩)⟩, (show rst (qS T (byN (nC T) x1 (fun j => nI (priceN T j)))).2.2 from hR), ⟨_, _, mC_id⟩, ⟨f1, (mC_n (Or.inr (Or.inl (by decide)))).trans hO1⟩, hS, lv_sub hl [2, 3, 4, 5, 6] rfl⟩)

set_option maxHeartbeats 4000000 in
set_option maxRecDepth 100000 in
theorem law_16 {p : Program} {l : Launch} {e : Env} {s : State} {m : MethodId} {below : List Frame} {meth : Method} {c : Code} {Q : State → Prop} {G : rG} {b L j : Nat} {xs : Nat → Int32} (hh : lwH G p l s m c b L xs) (hj : 4 * j + 4 ≤ L) {T : rTab} {C : rC} {ad : rA} {H : Heap} {locs : List Loc} {ls : Array Slot} (hs : lwS G s b j T C ad H locs ls) (next : ∀ (T' : rTab) (C' : rC) (ad' : rA) (H' : Heap) (locs' : List Loc) (ls' : Array Slot), lwS G s b j T' C' ad' H' locs' ls' → W p l e room_1 s m #[Value.ref b] below meth c H' locs' (100 + 150 * (j + 1)) (2000 + 6300 * (j + 1)) Q (F0 m 1889 ls' [])) : W p l e room_1 s m #[Value.ref b] below meth c H locs (100 + 150 * j) (2000 + 6300 * j) Q (F0 m 1067 ls []) := by
  obtain ⟨hx, hb, hml, hown, hK, hZ, hX, hbl, hlt, hL⟩ := hh
  obtain ⟨⟨L0, hI⟩, hR, ⟨th, rg, hM⟩, ⟨f, hO⟩, hS, hl⟩ := hs
  have hN := mNu_of hI hR
  have hnC := hN.hC
  have hnS := hN.hS
  have hA : ∀ q : Nat, s.heap.size ≤ q → (fun q => s.heap.size ≤ q) q := fun _ h => h
  have hbA : ¬ (fun q => s.heap.size ≤ q) b := Nat.not_le.mpr hbl
  obtain ⟨x1, hx1⟩ : ∃ z, z = xs (nI (4 * j + 1)).toNatClampNeg := ⟨_, rfl⟩
  obtain ⟨x2, hx2⟩ : ∃ z, z = xs (nI (4 * j + 2)).toNatClampNeg := ⟨_, rfl⟩
  refine lv_aload_n hx hb dL_law_1067 rfl (lv_at hl 3 rfl) ?_
  refine lv_aload_n hx hb dL_law_1068 rfl (lv_at hl 4 rfl) ?_
  refine lv_iload hx hb dL_law_1069 (lv_at hl 0 rfl) ?_
  refine lv_iconst (v := nI 1) hx hb dL_law_1071 (by decide) ?_
  refine lv_iadd hx hb dL_law_1072 ?_
  refine r_top (nI_add _ _) ?_
  refine va_sld hx hb hX hbl hbA hS.2.2 (nI_in0 (by omega) (by omega)) dL_law_1073 ?_
  refine r_top (y := x1) hx1.symm ?_
  refine lv_aload_n hx hb dL_law_1074 rfl (lv_at hl 4 rfl) ?_
  refine lv_iload hx hb dL_law_1075 (lv_at hl 0 rfl) ?_
  refine lv_iconst (v := nI 2) hx hb dL_law_1077 (by decide) ?_
  refine lv_iadd hx hb dL_law_1078 ?_
  refine r_top (nI_add _ _) ?_
  refine va_sld hx hb hX hbl hbA hS.2.2 (nI_in0 (by omega) (by omega)) dL_law_1079 ?_
  refine r_top (y := x2) hx2.symm ?_
  refine lv_aload_n hx hb dL_law_1080 rfl (lv_at hl 1 rfl) ?_
  refine cl_L_162 hx hb hml hown hK hZ hS hA (c_L_give hlt hI hO x1 x2) rfl hl.1 (Nat.le_of_ble_eq_true rfl) ⟨Nat.le_of_ble_eq_true rfl, Nat.le_of_ble_eq_true rfl⟩ ⟨(by show _ ≤ 601024; dsimp only [rmM, rmP]; omega), (by show _ ≤ 7293034; dsimp only [rmM, rmP]; omega)⟩ rfl dL_law_1081 (r_kr (fun r C1 ad1 H locs hQ hS => ?_))
  obtain ⟨rfl, ⟨L1, hI1⟩, ⟨f1, hO1, hv1⟩, hF1⟩ := hQ
  have e00 : ad 0 0 = ad1 0 0 := (hF1).2.symm
  have e30 : ad 30 0 = ad1 30 0 := ((hF1).1 30 0 (by decide)).1.symm
  have e46 : ad 46 0 = ad1 46 0 := ((hF1).1 46 0 (by decide)).1.symm
  rw [e00, e30, e46] at hl
  have hM1 := mC_o hM hF1
  rw [← hM1] at hS
  have hle := sGive_le (T := T) (a := x1) (b := x2)
  have hle : (sGive T x1 x2).1 ≤ 3 := Nat.le_trans hle (by decide)
  refine lv_istore (lv' := [(5, .int (nI (sGive T x1 x2).1)), (4, .int (nI (4 * j))), (3, .ref (ad1 46 0)), (2, .ref (ad1 30 0)), (1, .ref (ad1 0 0)), (0, .ref b)]) hx hb dL_law_1084 hl (by decide) rfl (fun ls hl => ?_)
  refine lv_aload_n hx hb dL_law_1086 rfl (lv_at hl 3 rfl) ?_
  refine lv_aload_n hx hb dL_law_1087 rfl (lv_at hl 5 rfl) ?_
  refine lv_iload hx hb dL_law_1088 (lv_at hl 1 rfl) ?_
  refine lv_iconst (v := nI 1) hx hb dL_law_1090 (by decide) ?_
  refine lv_iadd hx hb dL_law_1091 ?_
  refine r_top (nI_add _ _) ?_
  refine va_sld hx hb hX hbl hbA hS.2.2 (nI_in0 (by omega) (by omega)) dL_law_1092 ?_
  refine r_top (y := x1) hx1.symm ?_
  refine lv_aload_n hx hb dL_law_1093 rfl (lv_at hl 5 rfl) ?_
  refine lv_iload hx hb dL_law_1094 (lv_at hl 1 rfl) ?_
  refine lv_iconst (v := nI 2) hx hb dL_law_1096 (by decide) ?_
  refine lv_iadd hx hb dL_law_1097 ?_
  refine r_top (nI_add _ _) ?_
  refine va_sld hx hb hX hbl hbA hS.2.2 (nI_in0 (by omega) (by omega)) dL_law_1098 ?_
  refine r_top (y := x2) hx2.symm ?_
  refine cl_L_164 hx hb hml hown hK hZ hS hA (c_X5_give hN x1 x2) mC_30 rfl hl.1 (Nat.le_of_ble_eq_true rfl) ⟨Nat.le_of_ble_eq_true rfl, Nat.le_of_ble_eq_true rfl⟩ ⟨(by show _ ≤ 601024; dsimp only [rmM, rmP]; omega), (by show _ ≤ 7293034; dsimp only [rmM, rmP]; omega)⟩ rfl dL_law_1099 (r_kr (fun r C2 ad2 H locs hQ hS => ?_))
  obtain ⟨rfl, rfl, rfl⟩ := hQ
  refine lv_istore (lv' := [(6, .int (if (sGive T x1 x2).1 = 0 then (sGive T x1 x2).2.1 else nI 0)), (5, .int (nI (sGive T x1 x2).1)), (4, .int (nI (4 * j))), (3, .ref (ad1 46 0)), (2, .ref (ad1 30 0)), (1, .ref (ad1 0 0)), (0, .ref b)]) hx hb dL_law_1102 hl (by decide) rfl (fun ls hl => ?_)
  refine lv_aload_n hx hb dL_law_1104 rfl (lv_at hl 4 rfl) ?_
  refine cl_L_112 hx hb hml hown hK hZ hS hA c_X5_thrown mC_30 rfl hl.1 (Nat.le_of_ble_eq_true rfl) ⟨Nat.le_of_ble_eq_true rfl, Nat.le_of_ble_eq_true rfl⟩ ⟨(by show _ ≤ 601024; dsimp only [rmM, rmP]; omega), (by show _ ≤ 7293034; dsimp only [rmM, rmP]; omega)⟩ rfl dL_law_1105 (r_kp (fun H locs hS => ?_))
  refine lv_iload hx hb dL_law_1108 (lv_at hl 1 rfl) ?_
  refine lv_icmp_eq (tgt := 1115) hx hb dL_law_1110 (by decide) (fun q1110 => ?_) (fun q1110 => absurd rfl q1110)
  refine lv_iload hx hb dL_law_1115 (lv_at hl 1 rfl) ?_
  refine r_if_ne (a := (sGive T x1 x2).1) (tgt := 1132) hx hb (by omega) dL_law_1117 (by decide) (fun q0 => ?_) (fun q0 => ?_)
  · -- T
    refine lv_goto (tgt := 1889) hx hb dL_law_1132 (by decide) ?_
    exact W.widen (by dsimp only [rmM, rmP]; omega) (by dsimp only [rmM, rmP]; omega) (next _ _ _ _ _ _ ⟨⟨_, (hI1).fr (fun k i hk => ⟨mC_n (Or.inl (by omega)), rfl⟩)⟩, rst_give hR x1 x2, ⟨_, _, mC_id⟩, ⟨f1, (mC_n (Or.inr (Or.inl (by decide)))).trans hO1⟩, hS, lv_sub hl [2, 3, 4, 5, 6] rfl⟩)
  · -- F
    refine lv_aload_n hx hb dL_law_1120 rfl (lv_at hl 3 rfl) ?_
    refine lv_iconst (v := nI 0) hx hb dL_law_1121 (by decide) ?_
    refine r_lald hx hb hK.1 hS 1 ((mC_n (Or.inr (Or.inl (by decide)))).trans hO1) rfl (nI_in0 (by omega) (by omega)) (v := f1 0) (by rw [nI_clamp (by omega)]) dL_law_1122 ?_
    refine lv_iload hx hb dL_law_1123 (lv_at hl 0 rfl) ?_
    refine lv_i2l (v := (if (sGive T x1 x2).1 = 0 then (sGive T x1 x2).2.1 else nI 0).toInt64) hx hb dL_law_1125 rfl ?_
    refine W.lcmp hx hb dL_law_1126 ?_
    refine r_top (y := nI 0) (by rw [hv1 q0, if_pos q0]; exact lg_refl _) ?_
    refine r_if_eq (a := 0) (tgt := 1132) hx hb (by decide) dL_law_1127 (by decide) (fun q1127 => ?_) (fun q1127 => absurd rfl q1127)
    refine lv_goto (tgt := 1889) hx hb dL_law_1132 (by decide) ?_
    exact W.widen (by dsimp only [rmM, rmP]; omega) (by dsimp only [rmM, rmP]; omega) (next _ _ _ _ _ _ ⟨⟨_, (hI1).fr (fun k i hk => ⟨mC_n (Or.inl (by omega)), rfl⟩)⟩, rst_give hR x1 x2, ⟨_, _, mC_id⟩, ⟨f1, (mC_n (Or.inr (Or.inl (by decide)))).trans hO1⟩, hS, lv_sub hl [2, 3, 4, 5, 6] rfl⟩)

set_option maxHeartbeats 4000000 in
set_option maxRecDepth 100000 in
theorem law_17 {p : Program} {l : Launch} {e : Env} {s : State} {m : MethodId} {below : List Frame} {meth : Method} {c : Code} {Q : State → Prop} {G : rG} {b L j : Nat} {xs : Nat → Int32} (hh : lwH G p l s m c b L xs) (hj : 4 * j + 4 ≤ L) {T : rTab} {C : rC} {ad : rA} {H : Heap} {locs : List Loc} {ls : Array Slot} (hs : lwS G s b j T C ad H locs ls) (next : ∀ (T' : rTab) (C' : rC) (ad' : rA) (H' : Heap) (locs' : List Loc) (ls' : Array Slot), lwS G s b j T' C' ad' H' locs' ls' → W p l e room_1 s m #[Value.ref b] below meth c H' locs' (100 + 150 * (j + 1)) (2000 + 6300 * (j + 1)) Q (F0 m 1889 ls' [])) : W p l e room_1 s m #[Value.ref b] below meth c H locs (100 + 150 * j) (2000 + 6300 * j) Q (F0 m 1135 ls []) := by
  obtain ⟨hx, hb, hml, hown, hK, hZ, hX, hbl, hlt, hL⟩ := hh
  obtain ⟨⟨L0, hI⟩, hR, ⟨th, rg, hM⟩, ⟨f, hO⟩, hS, hl⟩ := hs
  have hN := mNu_of hI hR
  have hnC := hN.hC
  have hnS := hN.hS
  have hA : ∀ q : Nat, s.heap.size ≤ q → (fun q => s.heap.size ≤ q) q := fun _ h => h
  have hbA : ¬ (fun q => s.heap.size ≤ q) b := Nat.not_le.mpr hbl
  obtain ⟨x1, hx1⟩ : ∃ z, z = xs (nI (4 * j + 1)).toNatClampNeg := ⟨_, rfl⟩
  obtain ⟨x2, hx2⟩ : ∃ z, z = xs (nI (4 * j + 2)).toNatClampNeg := ⟨_, rfl⟩
  obtain ⟨x3, hx3⟩ : ∃ z, z = xs (nI (4 * j + 3)).toNatClampNeg := ⟨_, rfl⟩
  refine lv_aload_n hx hb dL_law_1135 rfl (lv_at hl 3 rfl) ?_
  refine lv_aload_n hx hb dL_law_1136 rfl (lv_at hl 4 rfl) ?_
  refine lv_iload hx hb dL_law_1137 (lv_at hl 0 rfl) ?_
  refine lv_iconst (v := nI 1) hx hb dL_law_1139 (by decide) ?_
  refine lv_iadd hx hb dL_law_1140 ?_
  refine r_top (nI_add _ _) ?_
  refine va_sld hx hb hX hbl hbA hS.2.2 (nI_in0 (by omega) (by omega)) dL_law_1141 ?_
  refine r_top (y := x1) hx1.symm ?_
  refine lv_aload_n hx hb dL_law_1142 rfl (lv_at hl 4 rfl) ?_
  refine lv_iload hx hb dL_law_1143 (lv_at hl 0 rfl) ?_
  refine lv_iconst (v := nI 2) hx hb dL_law_1145 (by decide) ?_
  refine lv_iadd hx hb dL_law_1146 ?_
  refine r_top (nI_add _ _) ?_
  refine va_sld hx hb hX hbl hbA hS.2.2 (nI_in0 (by omega) (by omega)) dL_law_1147 ?_
  refine r_top (y := x2) hx2.symm ?_
  refine lv_aload_n hx hb dL_law_1148 rfl (lv_at hl 4 rfl) ?_
  refine lv_iload hx hb dL_law_1149 (lv_at hl 0 rfl) ?_
  refine lv_iconst (v := nI 3) hx hb dL_law_1151 (by decide) ?_
  refine lv_iadd hx hb dL_law_1152 ?_
  refine r_top (nI_add _ _) ?_
  refine va_sld hx hb hX hbl hbA hS.2.2 (nI_in0 (by omega) (by omega)) dL_law_1153 ?_
  refine r_top (y := x3) hx3.symm ?_
  refine lv_if_eq (tgt := 1161) hx hb dL_law_1154 (by decide) (fun q1154 => ?_) (fun q1154 => ?_)
  · -- T
    refine lv_iconst (v := nI 0) hx hb dL_law_1161 (by decide) ?_
    refine r_top (y := bI false) rfl ?_
    refine lv_aload_n hx hb dL_law_1162 rfl (lv_at hl 1 rfl) ?_
    refine cl_L_165 hx hb hml hown hK hZ hS hA (c_L_want hlt hI hO x1 x2 false) rfl hl.1 (Nat.le_of_ble_eq_true rfl) ⟨Nat.le_of_ble_eq_true rfl, Nat.le_of_ble_eq_true rfl⟩ ⟨(by show _ ≤ 601024; dsimp only [rmM, rmP]; omega), (by show _ ≤ 7293034; dsimp only [rmM, rmP]; omega)⟩ rfl dL_law_1163 (r_kr (fun r C1 ad1 H locs hQ hS => ?_))
    obtain ⟨rfl, ⟨L1, hI1⟩, ⟨f1, hO1, hv1⟩, hF1⟩ := hQ
    have e00 : ad 0 0 = ad1 0 0 := (hF1).2.symm
    have e30 : ad 30 0 = ad1 30 0 := ((hF1).1 30 0 (by decide)).1.symm
    have e46 : ad 46 0 = ad1 46 0 := ((hF1).1 46 0 (by decide)).1.symm
    rw [e00, e30, e46] at hl
    have hM1 := mC_o hM hF1
    rw [← hM1] at hS
    have hle := sWant_le (T := T) (a := x1) (b := x2) (w := false)
    have hle : (sWant T x1 x2 false).1 ≤ 3 := Nat.le_trans hle (by decide)
    refine lv_istore (lv' := [(5, .int (nI (sWant T x1 x2 false).1)), (4, .int (nI (4 * j))), (3, .ref (ad1 46 0)), (2, .ref (ad1 30 0)), (1, .ref (ad1 0 0)), (0, .ref b)]) hx hb dL_law_1166 hl (by decide) rfl (fun ls hl => ?_)
    refine lv_aload_n hx hb dL_law_1168 rfl (lv_at hl 3 rfl) ?_
    refine lv_aload_n hx hb dL_law_1169 rfl (lv_at hl 5 rfl) ?_
    refine lv_iload hx hb dL_law_1170 (lv_at hl 1 rfl) ?_
    refine lv_iconst (v := nI 1) hx hb dL_law_1172 (by decide) ?_
    refine lv_iadd hx hb dL_law_1173 ?_
    refine r_top (nI_add _ _) ?_
    refine va_sld hx hb hX hbl hbA hS.2.2 (nI_in0 (by omega) (by omega)) dL_law_1174 ?_
    refine r_top (y := x1) hx1.symm ?_
    refine lv_aload_n hx hb dL_law_1175 rfl (lv_at hl 5 rfl) ?_
    refine lv_iload hx hb dL_law_1176 (lv_at hl 1 rfl) ?_
    refine lv_iconst (v := nI 2) hx hb dL_law_1178 (by decide) ?_
    refine lv_iadd hx hb dL_law_1179 ?_
    refine r_top (nI_add _ _) ?_
    refine va_sld hx hb hX hbl hbA hS.2.2 (nI_in0 (by omega) (by omega)) dL_law_1180 ?_
    refine r_top (y := x2) hx2.symm ?_
    refine lv_aload_n hx hb dL_law_1181 rfl (lv_at hl 5 rfl) ?_
    refine lv_iload hx hb dL_law_1182 (lv_at hl 1 rfl) ?_
    refine lv_iconst (v := nI 3) hx hb dL_law_1184 (by decide) ?_
    refine lv_iadd hx hb dL_law_1185 ?_
    refine r_top (nI_add _ _) ?_
    refine va_sld hx hb hX hbl hbA hS.2.2 (nI_in0 (by omega) (by omega)) dL_law_1186 ?_
    refine r_top (y := x3) hx3.symm ?_
    refine lv_if_eq (tgt := 1194) hx hb dL_law_1187 (by decide) (fun q1187 => ?_) (fun q1187 => ?_)
    · -- T
      refine lv_iconst (v := nI 0) hx hb dL_law_1194 (by decide) ?_
      refine r_top (y := bI false) rfl ?_
      refine cl_L_168 hx hb hml hown hK hZ hS hA (c_X5_want hN x1 x2 false) mC_30 rfl hl.1 (Nat.le_of_ble_eq_true rfl) ⟨Nat.le_of_ble_eq_true rfl, Nat.le_of_ble_eq_true rfl⟩ ⟨(by show _ ≤ 601024; dsimp only [rmM, rmP]; omega), (by show _ ≤ 7293034; dsimp only [rmM, rmP]; omega)⟩ rfl dL_law_1195 (r_kr (fun r C2 ad2 H locs hQ hS => ?_))
      obtain ⟨rfl, rfl, rfl⟩ := hQ
      refine lv_istore (lv' := [(6, .int (if (sWant T x1 x2 false).1 = 0 then (sWant T x1 x2 false).2.1 else nI 0)), (5, .int (nI (sWant T x1 x2 false).1)), (4, .int (nI (4 * j))), (3, .ref (ad1 46 0)), (2, .ref (ad1 30 0)), (1, .ref (ad1 0 0)), (0, .ref b)]) hx hb dL_law_1198 hl (by decide) rfl (fun ls hl => ?_)
      refine lv_aload_n hx hb dL_law_1200 rfl (lv_at hl 4 rfl) ?_
      refine cl_L_112 hx hb hml hown hK hZ hS hA c_X5_thrown mC_30 rfl hl.1 (Nat.le_of_ble_eq_true rfl) ⟨Nat.le_of_ble_eq_true rfl, Nat.le_of_ble_eq_true rfl⟩ ⟨(by show _ ≤ 601024; dsimp only [rmM, rmP]; omega), (by show _ ≤ 7293034; dsimp only [rmM, rmP]; omega)⟩ rfl dL_law_1201 (r_kp (fun H locs hS => ?_))
      refine lv_iload hx hb dL_law_1204 (lv_at hl 1 rfl) ?_
      refine lv_icmp_eq (tgt := 1211) hx hb dL_law_1206 (by decide) (fun q1206 => ?_) (fun q1206 => absurd rfl q1206)
      refine lv_iload hx hb dL_law_1211 (lv_at hl 1 rfl) ?_
      refine r_if_ne (a := (sWant T x1 x2 false).1) (tgt := 1228) hx hb (by omega) dL_law_1213 (by decide) (fun q0 => ?_) (fun q0 => ?_)
      · -- T
        refine lv_goto (tgt := 1889) hx hb dL_law_1228 (by decide) ?_
        exact W.widen (by dsimp only [rmM, rmP]; omega) (by dsimp only [rmM, rmP]; omega) (next _ _ _ _ _ _ ⟨⟨_, (hI1).fr (fun k i hk => ⟨mC_n (Or.inl (by omega)), rfl⟩)⟩, rst_want hR x1 x2 false, ⟨_, _, mC_id⟩, ⟨f1, (mC_n (Or.inr (Or.inl (by decide)))).trans hO1⟩, hS, lv_sub hl [2, 3, 4, 5, 6] rfl⟩)
      · -- F
        refine lv_aload_n hx hb dL_law_1216 rfl (lv_at hl 3 rfl) ?_
        refine lv_iconst (v := nI 0) hx hb dL_law_1217 (by decide) ?_
        refine r_lald hx hb hK.1 hS 1 ((mC_n (Or.inr (Or.inl (by decide)))).trans hO1) rfl (nI_in0 (by omega) (by omega)) (v := f1 0) (by rw [nI_clamp (by omega)]) dL_law_1218 ?_
        refine lv_iload hx hb dL_law_1219 (lv_at hl 0 rfl) ?_
        refine lv_i2l (v := (if (sWant T x1 x2 false).1 = 0 then (sWant T x1 x2 false).2.1 else nI 0).toInt64) hx hb dL_law_1221 rfl ?_
        refine W.lcmp hx hb dL_law_1222 ?_
        refine r_top (y := nI 0) (by rw [hv1 q0, if_pos q0]; exact lg_refl _) ?_
        refine r_if_eq (a := 0) (tgt := 1228) hx hb (by decide) dL_law_1223 (by decide) (fun q1223 => ?_) (fun q1223 => absurd rfl q1223)
        refine lv_goto (tgt := 1889) hx hb dL_law_1228 (by decide) ?_
        exact W.widen (by dsimp only [rmM, rmP]; omega) (by dsimp only [rmM, rmP]; omega) (next _ _ _ _ _ _ ⟨⟨_, (hI1).fr (fun k i hk => ⟨mC_n (Or.inl (by omega)), rfl⟩)⟩, rst_want hR x1 x2 false, ⟨_, _, mC_id⟩, ⟨f1, (mC_n (Or.inr (Or.inl (by decide)))).trans hO1⟩, hS, lv_sub hl [2, 3, 4, 5, 6] rfl⟩)
    · -- F
      exact absurd q1154 q1187
  · -- F
    refine lv_iconst (v := nI 1) hx hb dL_law_1157 (by decide) ?_
    refine r_top (y := bI true) rfl ?_
    refine lv_goto (tgt := 1162) hx hb dL_law_1158 (by decide) ?_
    refine lv_aload_n hx hb dL_law_1162 rfl (lv_at hl 1 rfl) ?_
    refine cl_L_165 hx hb hml hown hK hZ hS hA (c_L_want hlt hI hO x1 x2 true) rfl hl.1 (Nat.le_of_ble_eq_true rfl) ⟨Nat.le_of_ble_eq_true rfl, Nat.le_of_ble_eq_true rfl⟩ ⟨(by show _ ≤ 601024; dsimp only [rmM, rmP]; omega), (by show _ ≤ 7293034; dsimp only [rmM, rmP]; omega)⟩ rfl dL_law_1163 (r_kr (fun r C1 ad1 H locs hQ hS => ?_))
    obtain ⟨rfl, ⟨L1, hI1⟩, ⟨f1, hO1, hv1⟩, hF1⟩ := hQ
    have e00 : ad 0 0 = ad1 0 0 := (hF1).2.symm
    have e30 : ad 30 0 = ad1 30 0 := ((hF1).1 30 0 (by decide)).1.symm
    have e46 : ad 46 0 = ad1 46 0 := ((hF1).1 46 0 (by decide)).1.symm
    rw [e00, e30, e46] at hl
    have hM1 := mC_o hM hF1
    rw [← hM1] at hS
    have hle := sWant_le (T := T) (a := x1) (b := x2) (w := true)
    have hle : (sWant T x1 x2 true).1 ≤ 3 := Nat.le_trans hle (by decide)
    refine lv_istore (lv' := [(5, .int (nI (sWant T x1 x2 true).1)), (4, .int (nI (4 * j))), (3, .ref (ad1 46 0)), (2, .ref (ad1 30 0)), (1, .ref (ad1 0 0)), (0, .ref b)]) hx hb dL_law_1166 hl (by decide) rfl (fun ls hl => ?_)
    refine lv_aload_n hx hb dL_law_1168 rfl (lv_at hl 3 rfl) ?_
    refine lv_aload_n hx hb dL_law_1169 rfl (lv_at hl 5 rfl) ?_
    refine lv_iload hx hb dL_law_1170 (lv_at hl 1 rfl) ?_
    refine lv_iconst (v := nI 1) hx hb dL_law_1172 (by decide) ?_
    refine lv_iadd hx hb dL_law_1173 ?_
    refine r_top (nI_add _ _) ?_
    refine va_sld hx hb hX hbl hbA hS.2.2 (nI_in0 (by omega) (by omega)) dL_law_1174 ?_
    refine r_top (y := x1) hx1.symm ?_
    refine lv_aload_n hx hb dL_law_1175 rfl (lv_at hl 5 rfl) ?_
    refine lv_iload hx hb dL_law_1176 (lv_at hl 1 rfl) ?_
    refine lv_iconst (v := nI 2) hx hb dL_law_1178 (by decide) ?_
    refine lv_iadd hx hb dL_law_1179 ?_
    refine r_top (nI_add _ _) ?_
    refine va_sld hx hb hX hbl hbA hS.2.2 (nI_in0 (by omega) (by omega)) dL_law_1180 ?_
    refine r_top (y := x2) hx2.symm ?_
    refine lv_aload_n hx hb dL_law_1181 rfl (lv_at hl 5 rfl) ?_
    refine lv_iload hx hb dL_law_1182 (lv_at hl 1 rfl) ?_
    refine lv_iconst (v := nI 3) hx hb dL_law_1184 (by decide) ?_
    refine lv_iadd hx hb dL_law_1185 ?_
    refine r_top (nI_add _ _) ?_
    refine va_sld hx hb hX hbl hbA hS.2.2 (nI_in0 (by omega) (by omega)) dL_law_1186 ?_
    refine r_top (y := x3) hx3.symm ?_
    refine lv_if_eq (tgt := 1194) hx hb dL_law_1187 (by decide) (fun q1187 => ?_) (fun q1187 => ?_)
    · -- T
      exact absurd q1187 q1154
    · -- F
      refine lv_iconst (v := nI 1) hx hb dL_law_1190 (by decide) ?_
      refine r_top (y := bI true) rfl ?_
      refine lv_goto (tgt := 1195) hx hb dL_law_1191 (by decide) ?_
      refine cl_L_168 hx hb hml hown hK hZ hS hA (c_X5_want hN x1 x2 true) mC_30 rfl hl.1 (Nat.le_of_ble_eq_true rfl) ⟨Nat.le_of_ble_eq_true rfl, Nat.le_of_ble_eq_true rfl⟩ ⟨(by show _ ≤ 601024; dsimp only [rmM, rmP]; omega), (by show _ ≤ 7293034; dsimp only [rmM, rmP]; omega)⟩ rfl dL_law_1195 (r_kr (fun r C2 ad2 H locs hQ hS => ?_))
      obtain ⟨rfl, rfl, rfl⟩ := hQ
      refine lv_istore (lv' := [(6, .int (if (sWant T x1 x2 true).1 = 0 then (sWant T x1 x2 true).2.1 else nI 0)), (5, .int (nI (sWant T x1 x2 true).1)), (4, .int (nI (4 * j))), (3, .ref (ad1 46 0)), (2, .ref (ad1 30 0)), (1, .ref (ad1 0 0)), (0, .ref b)]) hx hb dL_law_1198 hl (by decide) rfl (fun ls hl => ?_)
      refine lv_aload_n hx hb dL_law_1200 rfl (lv_at hl 4 rfl) ?_
      refine cl_L_112 hx hb hml hown hK hZ hS hA c_X5_thrown mC_30 rfl hl.1 (Nat.le_of_ble_eq_true rfl) ⟨Nat.le_of_ble_eq_true rfl, Nat.le_of_ble_eq_true rfl⟩ ⟨(by show _ ≤ 601024; dsimp only [rmM, rmP]; omega), (by show _ ≤ 7293034; dsimp only [rmM, rmP]; omega)⟩ rfl dL_law_1201 (r_kp (fun H locs hS => ?_))
      refine lv_iload hx hb dL_law_1204 (lv_at hl 1 rfl) ?_
      refine lv_icmp_eq (tgt := 1211) hx hb dL_law_1206 (by decide) (fun q1206 => ?_) (fun q1206 => absurd rfl q1206)
      refine lv_iload hx hb dL_law_1211 (lv_at hl 1 rfl) ?_
      refine r_if_ne (a := (sWant T x1 x2 true).1) (tgt := 1228) hx hb (by omega) dL_law_1213 (by decide) (fun q0 => ?_) (fun q0 => ?_)
      · -- T
        refine lv_goto (tgt := 1889) hx hb dL_law_1228 (by decide) ?_
        exact W.widen (by dsimp only [rmM, rmP]; omega) (by dsimp only [rmM, rmP]; omega) (next _ _ _ _ _ _ ⟨⟨_, (hI1).fr (fun k i hk => ⟨mC_n (Or.inl (by omega)), rfl⟩)⟩, rst_want hR x1 x2 true, ⟨_, _, mC_id⟩, ⟨f1, (mC_n (Or.inr (Or.inl (by decide)))).trans hO1⟩, hS, lv_sub hl [2, 3, 4, 5, 6] rfl⟩)
      · -- F
        refine lv_aload_n hx hb dL_law_1216 rfl (lv_at hl 3 rfl) ?_
        refine lv_iconst (v := nI 0) hx hb dL_law_1217 (by decide) ?_
        refine r_lald hx hb hK.1 hS 1 ((mC_n (Or.inr (Or.inl (by decide)))).trans hO1) rfl (nI_in0 (by omega) (by omega)) (v := f1 0) (by rw [nI_clamp (by omega)]) dL_law_1218 ?_
        refine lv_iload hx hb dL_law_1219 (lv_at hl 0 rfl) ?_
        refine lv_i2l (v := (if (sWant T x1 x2 true).1 = 0 then (sWant T x1 x2 true).2.1 else nI 0).toInt64) hx hb dL_law_1221 rfl ?_
        refine W.lcmp hx hb dL_law_1222 ?_
        refine r_top (y := nI 0) (by rw [hv1 q0, if_pos q0]; exact lg_refl _) ?_
        refine r_if_eq (a := 0) (tgt := 1228) hx hb (by decide) dL_law_1223 (by decide) (fun q1223 => ?_) (fun q1223 => absurd rfl q1223)
        refine lv_goto (tgt := 1889) hx hb dL_law_1228 (by decide) ?_
        exact W.widen (by dsimp only [rmM, rmP]; omega) (by dsimp only [rmM, rmP]; omega) (next _ _ _ _ _ _ ⟨⟨_, (hI1).fr (fun k i hk => ⟨mC_n (Or.inl (by omega)), rfl⟩)⟩, rst_want hR x1 x2 true, ⟨_, _, mC_id⟩, ⟨f1, (mC_n (Or.inr (Or.inl (by decide)))).trans hO1⟩, hS, lv_sub hl [2, 3, 4, 5, 6] rfl⟩)

set_option maxHeartbeats 4000000 in
set_option maxRecDepth 100000 in
theorem law_18 {p : Program} {l : Launch} {e : Env} {s : State} {m : MethodId} {below : List Frame} {meth : Method} {c : Code} {Q : State → Prop} {G : rG} {b L j : Nat} {xs : Nat → Int32} (hh : lwH G p l s m c b L xs) (hj : 4 * j + 4 ≤ L) {T : rTab} {C : rC} {ad : rA} {H : Heap} {locs : List Loc} {ls : Array Slot} (hs : lwS G s b j T C ad H locs ls) (next : ∀ (T' : rTab) (C' : rC) (ad' : rA) (H' : Heap) (locs' : List Loc) (ls' : Array Slot), lwS G s b j T' C' ad' H' locs' ls' → W p l e room_1 s m #[Value.ref b] below meth c H' locs' (100 + 150 * (j + 1)) (2000 + 6300 * (j + 1)) Q (F0 m 1889 ls' [])) : W p l e room_1 s m #[Value.ref b] below meth c H locs (100 + 150 * j) (2000 + 6300 * j) Q (F0 m 1231 ls []) := by
  obtain ⟨hx, hb, hml, hown, hK, hZ, hX, hbl, hlt, hL⟩ := hh
  obtain ⟨⟨L0, hI⟩, hR, ⟨th, rg, hM⟩, ⟨f, hO⟩, hS, hl⟩ := hs
  have hN := mNu_of hI hR
  have hnC := hN.hC
  have hnS := hN.hS
  have hA : ∀ q : Nat, s.heap.size ≤ q → (fun q => s.heap.size ≤ q) q := fun _ h => h
  have hbA : ¬ (fun q => s.heap.size ≤ q) b := Nat.not_le.mpr hbl
  obtain ⟨x1, hx1⟩ : ∃ z, z = xs (nI (4 * j + 1)).toNatClampNeg := ⟨_, rfl⟩
  obtain ⟨x2, hx2⟩ : ∃ z, z = xs (nI (4 * j + 2)).toNatClampNeg := ⟨_, rfl⟩
  refine lv_aload_n hx hb dL_law_1231 rfl (lv_at hl 3 rfl) ?_
  refine lv_aload_n hx hb dL_law_1232 rfl (lv_at hl 4 rfl) ?_
  refine lv_iload hx hb dL_law_1233 (lv_at hl 0 rfl) ?_
  refine lv_iconst (v := nI 1) hx hb dL_law_1235 (by decide) ?_
  refine lv_iadd hx hb dL_law_1236 ?_
  refine r_top (nI_add _ _) ?_
  refine va_sld hx hb hX hbl hbA hS.2.2 (nI_in0 (by omega) (by omega)) dL_law_1237 ?_
  refine r_top (y := x1) hx1.symm ?_
  refine lv_aload_n hx hb dL_law_1238 rfl (lv_at hl 4 rfl) ?_
  refine lv_iload hx hb dL_law_1239 (lv_at hl 0 rfl) ?_
  refine lv_iconst (v := nI 2) hx hb dL_law_1241 (by decide) ?_
  refine lv_iadd hx hb dL_law_1242 ?_
  refine r_top (nI_add _ _) ?_
  refine va_sld hx hb hX hbl hbA hS.2.2 (nI_in0 (by omega) (by omega)) dL_law_1243 ?_
  refine r_top (y := x2) hx2.symm ?_
  refine lv_aload_n hx hb dL_law_1244 rfl (lv_at hl 1 rfl) ?_
  refine cl_L_169 hx hb hml hown hK hZ hS hA (c_L_setFairness hlt hI hO x1 x2) rfl hl.1 (Nat.le_of_ble_eq_true rfl) ⟨Nat.le_of_ble_eq_true rfl, Nat.le_of_ble_eq_true rfl⟩ ⟨(by show _ ≤ 601024; dsimp only [rmM, rmP]; omega), (by show _ ≤ 7293034; dsimp only [rmM, rmP]; omega)⟩ rfl dL_law_1245 (r_kr (fun r C1 ad1 H locs hQ hS => ?_))
  obtain ⟨rfl, ⟨L1, hI1⟩, ⟨f1, hO1, hv1⟩, hF1⟩ := hQ
  have e00 : ad 0 0 = ad1 0 0 := (hF1).2.symm
  have e30 : ad 30 0 = ad1 30 0 := ((hF1).1 30 0 (by decide)).1.symm
  have e46 : ad 46 0 = ad1 46 0 := ((hF1).1 46 0 (by decide)).1.symm
  rw [e00, e30, e46] at hl
  have hM1 := mC_o hM hF1
  rw [← hM1] at hS
  have hle := sFair_le (T := T) (a := x1) (b := x2)
  have hle : (sFair T x1 x2).1 ≤ 3 := Nat.le_trans hle (by decide)
  refine lv_istore (lv' := [(5, .int (nI (sFair T x1 x2).1)), (4, .int (nI (4 * j))), (3, .ref (ad1 46 0)), (2, .ref (ad1 30 0)), (1, .ref (ad1 0 0)), (0, .ref b)]) hx hb dL_law_1248 hl (by decide) rfl (fun ls hl => ?_)
  refine lv_aload_n hx hb dL_law_1250 rfl (lv_at hl 3 rfl) ?_
  refine lv_aload_n hx hb dL_law_1251 rfl (lv_at hl 5 rfl) ?_
  refine lv_iload hx hb dL_law_1252 (lv_at hl 1 rfl) ?_
  refine lv_iconst (v := nI 1) hx hb dL_law_1254 (by decide) ?_
  refine lv_iadd hx hb dL_law_1255 ?_
  refine r_top (nI_add _ _) ?_
  refine va_sld hx hb hX hbl hbA hS.2.2 (nI_in0 (by omega) (by omega)) dL_law_1256 ?_
  refine r_top (y := x1) hx1.symm ?_
  refine lv_aload_n hx hb dL_law_1257 rfl (lv_at hl 5 rfl) ?_
  refine lv_iload hx hb dL_law_1258 (lv_at hl 1 rfl) ?_
  refine lv_iconst (v := nI 2) hx hb dL_law_1260 (by decide) ?_
  refine lv_iadd hx hb dL_law_1261 ?_
  refine r_top (nI_add _ _) ?_
  refine va_sld hx hb hX hbl hbA hS.2.2 (nI_in0 (by omega) (by omega)) dL_law_1262 ?_
  refine r_top (y := x2) hx2.symm ?_
  refine cl_L_171 hx hb hml hown hK hZ hS hA (c_X5_setFairness hN x1 x2) mC_30 rfl hl.1 (Nat.le_of_ble_eq_true rfl) ⟨Nat.le_of_ble_eq_true rfl, Nat.le_of_ble_eq_true rfl⟩ ⟨(by show _ ≤ 601024; dsimp only [rmM, rmP]; omega), (by show _ ≤ 7293034; dsimp only [rmM, rmP]; omega)⟩ rfl dL_law_1263 (r_kr (fun r C2 ad2 H locs hQ hS => ?_))
  obtain ⟨rfl, rfl, rfl⟩ := hQ
  refine lv_istore (lv' := [(6, .int (if (sFair T x1 x2).1 = 0 then (sFair T x1 x2).2.1 else nI 0)), (5, .int (nI (sFair T x1 x2).1)), (4, .int (nI (4 * j))), (3, .ref (ad1 46 0)), (2, .ref (ad1 30 0)), (1, .ref (ad1 0 0)), (0, .ref b)]) hx hb dL_law_1266 hl (by decide) rfl (fun ls hl => ?_)
  refine lv_aload_n hx hb dL_law_1268 rfl (lv_at hl 4 rfl) ?_
  refine cl_L_112 hx hb hml hown hK hZ hS hA c_X5_thrown mC_30 rfl hl.1 (Nat.le_of_ble_eq_true rfl) ⟨Nat.le_of_ble_eq_true rfl, Nat.le_of_ble_eq_true rfl⟩ ⟨(by show _ ≤ 601024; dsimp only [rmM, rmP]; omega), (by show _ ≤ 7293034; dsimp only [rmM, rmP]; omega)⟩ rfl dL_law_1269 (r_kp (fun H locs hS => ?_))
  refine lv_iload hx hb dL_law_1272 (lv_at hl 1 rfl) ?_
  refine lv_icmp_eq (tgt := 1279) hx hb dL_law_1274 (by decide) (fun q1274 => ?_) (fun q1274 => absurd rfl q1274)
  refine lv_iload hx hb dL_law_1279 (lv_at hl 1 rfl) ?_
  refine r_if_ne (a := (sFair T x1 x2).1) (tgt := 1296) hx hb (by omega) dL_law_1281 (by decide) (fun q0 => ?_) (fun q0 => ?_)
  · -- T
    refine lv_goto (tgt := 1889) hx hb dL_law_1296 (by decide) ?_
    exact W.widen (by dsimp only [rmM, rmP]; omega) (by dsimp only [rmM, rmP]; omega) (next _ _ _ _ _ _ ⟨⟨_, (hI1).fr (fun k i hk => ⟨mC_n (Or.inl (by omega)), rfl⟩)⟩, rst_fair hR x1 x2, ⟨_, _, mC_id⟩, ⟨f1, (mC_n (Or.inr (Or.inl (by decide)))).trans hO1⟩, hS, lv_sub hl [2, 3, 4, 5, 6] rfl⟩)
  · -- F
    refine lv_aload_n hx hb dL_law_1284 rfl (lv_at hl 3 rfl) ?_
    refine lv_iconst (v := nI 0) hx hb dL_law_1285 (by decide) ?_
    refine r_lald hx hb hK.1 hS 1 ((mC_n (Or.inr (Or.inl (by decide)))).trans hO1) rfl (nI_in0 (by omega) (by omega)) (v := f1 0) (by rw [nI_clamp (by omega)]) dL_law_1286 ?_
    refine lv_iload hx hb dL_law_1287 (lv_at hl 0 rfl) ?_
    refine lv_i2l (v := (if (sFair T x1 x2).1 = 0 then (sFair T x1 x2).2.1 else nI 0).toInt64) hx hb dL_law_1289 rfl ?_
    refine W.lcmp hx hb dL_law_1290 ?_
    refine r_top (y := nI 0) (by rw [hv1 q0, if_pos q0]; exact lg_refl _) ?_
    refine r_if_eq (a := 0) (tgt := 1296) hx hb (by decide) dL_law_1291 (by decide) (fun q1291 => ?_) (fun q1291 => absurd rfl q1291)
    refine lv_goto (tgt := 1889) hx hb dL_law_1296 (by decide) ?_
    exact W.widen (by dsimp only [rmM, rmP]; omega) (by dsimp only [rmM, rmP]; omega) (next _ _ _ _ _ _ ⟨⟨_, (hI1).fr (fun k i hk => ⟨mC_n (Or.inl (by omega)), rfl⟩)⟩, rst_fair hR x1 x2, ⟨_, _, mC_id⟩, ⟨f1, (mC_n (Or.inr (Or.inl (by decide)))).trans hO1⟩, hS, lv_sub hl [2, 3, 4, 5, 6] rfl⟩)

set_option maxHeartbeats 4000000 in
set_option maxRecDepth 100000 in
theorem law_19 {p : Program} {l : Launch} {e : Env} {s : State} {m : MethodId} {below : List Frame} {meth : Method} {c : Code} {Q : State → Prop} {G : rG} {b L j : Nat} {xs : Nat → Int32} (hh : lwH G p l s m c b L xs) (hj : 4 * j + 4 ≤ L) {T : rTab} {C : rC} {ad : rA} {H : Heap} {locs : List Loc} {ls : Array Slot} (hs : lwS G s b j T C ad H locs ls) (next : ∀ (T' : rTab) (C' : rC) (ad' : rA) (H' : Heap) (locs' : List Loc) (ls' : Array Slot), lwS G s b j T' C' ad' H' locs' ls' → W p l e room_1 s m #[Value.ref b] below meth c H' locs' (100 + 150 * (j + 1)) (2000 + 6300 * (j + 1)) Q (F0 m 1889 ls' [])) : W p l e room_1 s m #[Value.ref b] below meth c H locs (100 + 150 * j) (2000 + 6300 * j) Q (F0 m 1299 ls []) := by
  obtain ⟨hx, hb, hml, hown, hK, hZ, hX, hbl, hlt, hL⟩ := hh
  obtain ⟨⟨L0, hI⟩, hR, ⟨th, rg, hM⟩, ⟨f, hO⟩, hS, hl⟩ := hs
  have hN := mNu_of hI hR
  have hnC := hN.hC
  have hnS := hN.hS
  have hA : ∀ q : Nat, s.heap.size ≤ q → (fun q => s.heap.size ≤ q) q := fun _ h => h
  have hbA : ¬ (fun q => s.heap.size ≤ q) b := Nat.not_le.mpr hbl
  obtain ⟨x1, hx1⟩ : ∃ z, z = xs (nI (4 * j + 1)).toNatClampNeg := ⟨_, rfl⟩
  obtain ⟨x2, hx2⟩ : ∃ z, z = xs (nI (4 * j + 2)).toNatClampNeg := ⟨_, rfl⟩
  refine lv_aload_n hx hb dL_law_1299 rfl (lv_at hl 3 rfl) ?_
  refine lv_aload_n hx hb dL_law_1300 rfl (lv_at hl 4 rfl) ?_
  refine lv_iload hx hb dL_law_1301 (lv_at hl 0 rfl) ?_
  refine lv_iconst (v := nI 1) hx hb dL_law_1303 (by decide) ?_
  refine lv_iadd hx hb dL_law_1304 ?_
  refine r_top (nI_add _ _) ?_
  refine va_sld hx hb hX hbl hbA hS.2.2 (nI_in0 (by omega) (by omega)) dL_law_1305 ?_
  refine r_top (y := x1) hx1.symm ?_
  refine lv_aload_n hx hb dL_law_1306 rfl (lv_at hl 4 rfl) ?_
  refine lv_iload hx hb dL_law_1307 (lv_at hl 0 rfl) ?_
  refine lv_iconst (v := nI 2) hx hb dL_law_1309 (by decide) ?_
  refine lv_iadd hx hb dL_law_1310 ?_
  refine r_top (nI_add _ _) ?_
  refine va_sld hx hb hX hbl hbA hS.2.2 (nI_in0 (by omega) (by omega)) dL_law_1311 ?_
  refine r_top (y := x2) hx2.symm ?_
  refine lv_if_eq (tgt := 1319) hx hb dL_law_1312 (by decide) (fun q1312 => ?_) (fun q1312 => ?_)
  · -- T
    refine lv_iconst (v := nI 0) hx hb dL_law_1319 (by decide) ?_
    refine r_top (y := bI false) rfl ?_
    refine lv_aload_n hx hb dL_law_1320 rfl (lv_at hl 1 rfl) ?_
    refine cl_L_172 hx hb hml hown hK hZ hS hA (c_L_mark hlt hI hO x1 false) rfl hl.1 (Nat.le_of_ble_eq_true rfl) ⟨Nat.le_of_ble_eq_true rfl, Nat.le_of_ble_eq_true rfl⟩ ⟨(by show _ ≤ 601024; dsimp only [rmM, rmP]; omega), (by show _ ≤ 7293034; dsimp only [rmM, rmP]; omega)⟩ rfl dL_law_1321 (r_kr (fun r C1 ad1 H locs hQ hS => ?_))
    obtain ⟨rfl, ⟨L1, hI1⟩, ⟨f1, hO1, hv1⟩, hF1⟩ := hQ
    have e00 : ad 0 0 = ad1 0 0 := (hF1).2.symm
    have e30 : ad 30 0 = ad1 30 0 := ((hF1).1 30 0 (by decide)).1.symm
    have e46 : ad 46 0 = ad1 46 0 := ((hF1).1 46 0 (by decide)).1.symm
    rw [e00, e30, e46] at hl
    have hM1 := mC_o hM hF1
    rw [← hM1] at hS
    have hle := sMark_le (T := T) (a := x1) (w := false)
    have hle : (sMark T x1 false).1 ≤ 3 := Nat.le_trans hle (by decide)
    refine lv_istore (lv' := [(5, .int (nI (sMark T x1 false).1)), (4, .int (nI (4 * j))), (3, .ref (ad1 46 0)), (2, .ref (ad1 30 0)), (1, .ref (ad1 0 0)), (0, .ref b)]) hx hb dL_law_1324 hl (by decide) rfl (fun ls hl => ?_)
    refine lv_aload_n hx hb dL_law_1326 rfl (lv_at hl 3 rfl) ?_
    refine lv_aload_n hx hb dL_law_1327 rfl (lv_at hl 5 rfl) ?_
    refine lv_iload hx hb dL_law_1328 (lv_at hl 1 rfl) ?_
    refine lv_iconst (v := nI 1) hx hb dL_law_1330 (by decide) ?_
    refine lv_iadd hx hb dL_law_1331 ?_
    refine r_top (nI_add _ _) ?_
    refine va_sld hx hb hX hbl hbA hS.2.2 (nI_in0 (by omega) (by omega)) dL_law_1332 ?_
    refine r_top (y := x1) hx1.symm ?_
    refine lv_aload_n hx hb dL_law_1333 rfl (lv_at hl 5 rfl) ?_
    refine lv_iload hx hb dL_law_1334 (lv_at hl 1 rfl) ?_
    refine lv_iconst (v := nI 2) hx hb dL_law_1336 (by decide) ?_
    refine lv_iadd hx hb dL_law_1337 ?_
    refine r_top (nI_add _ _) ?_
    refine va_sld hx hb hX hbl hbA hS.2.2 (nI_in0 (by omega) (by omega)) dL_law_1338 ?_
    refine r_top (y := x2) hx2.symm ?_
    refine lv_if_eq (tgt := 1346) hx hb dL_law_1339 (by decide) (fun q1339 => ?_) (fun q1339 => ?_)
    · -- T
      refine lv_iconst (v := nI 0) hx hb dL_law_1346 (by decide) ?_
      refine r_top (y := bI false) rfl ?_
      refine cl_L_175 hx hb hml hown hK hZ hS hA (c_X5_mark hN x1 false) mC_30 rfl hl.1 (Nat.le_of_ble_eq_true rfl) ⟨Nat.le_of_ble_eq_true rfl, Nat.le_of_ble_eq_true rfl⟩ ⟨(by show _ ≤ 601024; dsimp only [rmM, rmP]; omega), (by show _ ≤ 7293034; dsimp only [rmM, rmP]; omega)⟩ rfl dL_law_1347 (r_kr (fun r C2 ad2 H locs hQ hS => ?_))
      obtain ⟨rfl, rfl, rfl⟩ := hQ
      refine lv_istore (lv' := [(6, .int (if (sMark T x1 false).1 = 0 then (sMark T x1 false).2.1 else nI 0)), (5, .int (nI (sMark T x1 false).1)), (4, .int (nI (4 * j))), (3, .ref (ad1 46 0)), (2, .ref (ad1 30 0)), (1, .ref (ad1 0 0)), (0, .ref b)]) hx hb dL_law_1350 hl (by decide) rfl (fun ls hl => ?_)
      refine lv_aload_n hx hb dL_law_1352 rfl (lv_at hl 4 rfl) ?_
      refine cl_L_112 hx hb hml hown hK hZ hS hA c_X5_thrown mC_30 rfl hl.1 (Nat.le_of_ble_eq_true rfl) ⟨Nat.le_of_ble_eq_true rfl, Nat.le_of_ble_eq_true rfl⟩ ⟨(by show _ ≤ 601024; dsimp only [rmM, rmP]; omega), (by show _ ≤ 7293034; dsimp only [rmM, rmP]; omega)⟩ rfl dL_law_1353 (r_kp (fun H locs hS => ?_))
      refine lv_iload hx hb dL_law_1356 (lv_at hl 1 rfl) ?_
      refine lv_icmp_eq (tgt := 1363) hx hb dL_law_1358 (by decide) (fun q1358 => ?_) (fun q1358 => absurd rfl q1358)
      refine lv_iload hx hb dL_law_1363 (lv_at hl 1 rfl) ?_
      refine r_if_ne (a := (sMark T x1 false).1) (tgt := 1387) hx hb (by omega) dL_law_1365 (by decide) (fun q0 => ?_) (fun q0 => ?_)
      · -- T
        refine lv_goto (tgt := 1889) hx hb dL_law_1387 (by decide) ?_
        exact W.widen (by dsimp only [rmM, rmP]; omega) (by dsimp only [rmM, rmP]; omega) (next _ _ _ _ _ _ ⟨⟨_, (hI1).fr (fun k i hk => ⟨mC_n (Or.inl (by omega)), rfl⟩)⟩, rst_mark hR x1 false, ⟨_, _, mC_id⟩, ⟨f1, (mC_n (Or.inr (Or.inl (by decide)))).trans hO1⟩, hS, lv_sub hl [2, 3, 4, 5, 6] rfl⟩)
      · -- F
        refine lv_aload_n hx hb dL_law_1368 rfl (lv_at hl 3 rfl) ?_
        refine lv_iconst (v := nI 0) hx hb dL_law_1369 (by decide) ?_
        refine r_lald hx hb hK.1 hS 1 ((mC_n (Or.inr (Or.inl (by decide)))).trans hO1) rfl (nI_in0 (by omega) (by omega)) (v := f1 0) (by rw [nI_clamp (by omega)]) dL_law_1370 ?_
        refine lv_iload hx hb dL_law_1371 (lv_at hl 0 rfl) ?_
        obtain ⟨bb, hbb⟩ : ∃ z, (sMark T x1 false).2.1 = bI z := sMark_b q0
        refine r_top (y := bI bb) ((if_pos q0).trans hbb) ?_
        refine r_ifb_eq (b := bb) (tgt := 1380) hx hb dL_law_1373 (by decide) (fun q1373 => ?_) (fun q1373 => ?_)
        · -- T
          refine lv_lconst (v := 0) hx hb dL_law_1380 rfl ?_
          refine W.lcmp hx hb dL_law_1381 ?_
          refine r_top (y := nI 0) (by rw [hv1 q0, hbb, q1373]; exact lg_refl _) ?_
          refine r_if_eq (a := 0) (tgt := 1387) hx hb (by decide) dL_law_1382 (by decide) (fun q1382 => ?_) (fun q1382 => absurd rfl q1382)
          refine lv_goto (tgt := 1889) hx hb dL_law_1387 (by decide) ?_
          exact W.widen (by dsimp only [rmM, rmP]; omega) (by dsimp only [rmM, rmP]; omega) (next _ _ _ _ _ _ ⟨⟨_, (hI1).fr (fun k i hk => ⟨mC_n (Or.inl (by omega)), rfl⟩)⟩, rst_mark hR x1 false, ⟨_, _, mC_id⟩, ⟨f1, (mC_n (Or.inr (Or.inl (by decide)))).trans hO1⟩, hS, lv_sub hl [2, 3, 4, 5, 6] rfl⟩)
        · -- F
          refine lv_lconst (v := 1) hx hb dL_law_1376 rfl ?_
          refine lv_goto (tgt := 1381) hx hb dL_law_1377 (by decide) ?_
          refine W.lcmp hx hb dL_law_1381 ?_
          refine r_top (y := nI 0) (by rw [hv1 q0, hbb, q1373]; exact lg_refl _) ?_
          refine r_if_eq (a := 0) (tgt := 1387) hx hb (by decide) dL_law_1382 (by decide) (fun q1382 => ?_) (fun q1382 => absurd rfl q1382)
          refine lv_goto (tgt := 1889) hx hb dL_law_1387 (by decide) ?_
          exact W.widen (by dsimp only [rmM, rmP]; omega) (by dsimp only [rmM, rmP]; omega) (next _ _ _ _ _ _ ⟨⟨_, (hI1).fr (fun k i hk => ⟨mC_n (Or.inl (by omega)), rfl⟩)⟩, rst_mark hR x1 false, ⟨_, _, mC_id⟩, ⟨f1, (mC_n (Or.inr (Or.inl (by decide)))).trans hO1⟩, hS, lv_sub hl [2, 3, 4, 5, 6] rfl⟩)
    · -- F
      exact absurd q1312 q1339
  · -- F
    refine lv_iconst (v := nI 1) hx hb dL_law_1315 (by decide) ?_
    refine r_top (y := bI true) rfl ?_
    refine lv_goto (tgt := 1320) hx hb dL_law_1316 (by decide) ?_
    refine lv_aload_n hx hb dL_law_1320 rfl (lv_at hl 1 rfl) ?_
    refine cl_L_172 hx hb hml hown hK hZ hS hA (c_L_mark hlt hI hO x1 true) rfl hl.1 (Nat.le_of_ble_eq_true rfl) ⟨Nat.le_of_ble_eq_true rfl, Nat.le_of_ble_eq_true rfl⟩ ⟨(by show _ ≤ 601024; dsimp only [rmM, rmP]; omega), (by show _ ≤ 7293034; dsimp only [rmM, rmP]; omega)⟩ rfl dL_law_1321 (r_kr (fun r C1 ad1 H locs hQ hS => ?_))
    obtain ⟨rfl, ⟨L1, hI1⟩, ⟨f1, hO1, hv1⟩, hF1⟩ := hQ
    have e00 : ad 0 0 = ad1 0 0 := (hF1).2.symm
    have e30 : ad 30 0 = ad1 30 0 := ((hF1).1 30 0 (by decide)).1.symm
    have e46 : ad 46 0 = ad1 46 0 := ((hF1).1 46 0 (by decide)).1.symm
    rw [e00, e30, e46] at hl
    have hM1 := mC_o hM hF1
    rw [← hM1] at hS
    have hle := sMark_le (T := T) (a := x1) (w := true)
    have hle : (sMark T x1 true).1 ≤ 3 := Nat.le_trans hle (by decide)
    refine lv_istore (lv' := [(5, .int (nI (sMark T x1 true).1)), (4, .int (nI (4 * j))), (3, .ref (ad1 46 0)), (2, .ref (ad1 30 0)), (1, .ref (ad1 0 0)), (0, .ref b)]) hx hb dL_law_1324 hl (by decide) rfl (fun ls hl => ?_)
    refine lv_aload_n hx hb dL_law_1326 rfl (lv_at hl 3 rfl) ?_
    refine lv_aload_n hx hb dL_law_1327 rfl (lv_at hl 5 rfl) ?_
    refine lv_iload hx hb dL_law_1328 (lv_at hl 1 rfl) ?_
    refine lv_iconst (v := nI 1) hx hb dL_law_1330 (by decide) ?_
    refine lv_iadd hx hb dL_law_1331 ?_
    refine r_top (nI_add _ _) ?_
    refine va_sld hx hb hX hbl hbA hS.2.2 (nI_in0 (by omega) (by omega)) dL_law_1332 ?_
    refine r_top (y := x1) hx1.symm ?_
    refine lv_aload_n hx hb dL_law_1333 rfl (lv_at hl 5 rfl) ?_
    refine lv_iload hx hb dL_law_1334 (lv_at hl 1 rfl) ?_
    refine lv_iconst (v := nI 2) hx hb dL_law_1336 (by decide) ?_
    refine lv_iadd hx hb dL_law_1337 ?_
    refine r_top (nI_add _ _) ?_
    refine va_sld hx hb hX hbl hbA hS.2.2 (nI_in0 (by omega) (by omega)) dL_law_1338 ?_
    refine r_top (y := x2) hx2.symm ?_
    refine lv_if_eq (tgt := 1346) hx hb dL_law_1339 (by decide) (fun q1339 => ?_) (fun q1339 => ?_)
    · -- T
      exact absurd q1339 q1312
    · -- F
      refine lv_iconst (v := nI 1) hx hb dL_law_1342 (by decide) ?_
      refine r_top (y := bI true) rfl ?_
      refine lv_goto (tgt := 1347) hx hb dL_law_1343 (by decide) ?_
      refine cl_L_175 hx hb hml hown hK hZ hS hA (c_X5_mark hN x1 true) mC_30 rfl hl.1 (Nat.le_of_ble_eq_true rfl) ⟨Nat.le_of_ble_eq_true rfl, Nat.le_of_ble_eq_true rfl⟩ ⟨(by show _ ≤ 601024; dsimp only [rmM, rmP]; omega), (by show _ ≤ 7293034; dsimp only [rmM, rmP]; omega)⟩ rfl dL_law_1347 (r_kr (fun r C2 ad2 H locs hQ hS => ?_))
      obtain ⟨rfl, rfl, rfl⟩ := hQ
      refine lv_istore (lv' := [(6, .int (if (sMark T x1 true).1 = 0 then (sMark T x1 true).2.1 else nI 0)), (5, .int (nI (sMark T x1 true).1)), (4, .int (nI (4 * j))), (3, .ref (ad1 46 0)), (2, .ref (ad1 30 0)), (1, .ref (ad1 0 0)), (0, .ref b)]) hx hb dL_law_1350 hl (by decide) rfl (fun ls hl => ?_)
      refine lv_aload_n hx hb dL_law_1352 rfl (lv_at hl 4 rfl) ?_
      refine cl_L_112 hx hb hml hown hK hZ hS hA c_X5_thrown mC_30 rfl hl.1 (Nat.le_of_ble_eq_true rfl) ⟨Nat.le_of_ble_eq_true rfl, Nat.le_of_ble_eq_true rfl⟩ ⟨(by show _ ≤ 601024; dsimp only [rmM, rmP]; omega), (by show _ ≤ 7293034; dsimp only [rmM, rmP]; omega)⟩ rfl dL_law_1353 (r_kp (fun H locs hS => ?_))
      refine lv_iload hx hb dL_law_1356 (lv_at hl 1 rfl) ?_
      refine lv_icmp_eq (tgt := 1363) hx hb dL_law_1358 (by decide) (fun q1358 => ?_) (fun q1358 => absurd rfl q1358)
      refine lv_iload hx hb dL_law_1363 (lv_at hl 1 rfl) ?_
      refine r_if_ne (a := (sMark T x1 true).1) (tgt := 1387) hx hb (by omega) dL_law_1365 (by decide) (fun q0 => ?_) (fun q0 => ?_)
      · -- T
        refine lv_goto (tgt := 1889) hx hb dL_law_1387 (by decide) ?_
        exact W.widen (by dsimp only [rmM, rmP]; omega) (by dsimp only [rmM, rmP]; omega) (next _ _ _ _ _ _ ⟨⟨_, (hI1).fr (fun k i hk => ⟨mC_n (Or.inl (by omega)), rfl⟩)⟩, rst_mark hR x1 true, ⟨_, _, mC_id⟩, ⟨f1, (mC_n (Or.inr (Or.inl (by decide)))).trans hO1⟩, hS, lv_sub hl [2, 3, 4, 5, 6] rfl⟩)
      · -- F
        refine lv_aload_n hx hb dL_law_1368 rfl (lv_at hl 3 rfl) ?_
        refine lv_iconst (v := nI 0) hx hb dL_law_1369 (by decide) ?_
        refine r_lald hx hb hK.1 hS 1 ((mC_n (Or.inr (Or.inl (by decide)))).trans hO1) rfl (nI_in0 (by omega) (by omega)) (v := f1 0) (by rw [nI_clamp (by omega)]) dL_law_1370 ?_
        refine lv_iload hx hb dL_law_1371 (lv_at hl 0 rfl) ?_
        obtain ⟨bb, hbb⟩ : ∃ z, (sMark T x1 true).2.1 = bI z := sMark_b q0
        refine r_top (y := bI bb) ((if_pos q0).trans hbb) ?_
        refine r_ifb_eq (b := bb) (tgt := 1380) hx hb dL_law_1373 (by decide) (fun q1373 => ?_) (fun q1373 => ?_)
        · -- T
          refine lv_lconst (v := 0) hx hb dL_law_1380 rfl ?_
          refine W.lcmp hx hb dL_law_1381 ?_
          refine r_top (y := nI 0) (by rw [hv1 q0, hbb, q1373]; exact lg_refl _) ?_
          refine r_if_eq (a := 0) (tgt := 1387) hx hb (by decide) dL_law_1382 (by decide) (fun q1382 => ?_) (fun q1382 => absurd rfl q1382)
          refine lv_goto (tgt := 1889) hx hb dL_law_1387 (by decide) ?_
          exact W.widen (by dsimp only [rmM, rmP]; omega) (by dsimp only [rmM, rmP]; omega) (next _ _ _ _ _ _ ⟨⟨_, (hI1).fr (fun k i hk => ⟨mC_n (Or.inl (by omega)), rfl⟩)⟩, rst_mark hR x1 true, ⟨_, _, mC_id⟩, ⟨f1, (mC_n (Or.inr (Or.inl (by decide)))).trans hO1⟩, hS, lv_sub hl [2, 3, 4, 5, 6] rfl⟩)
        · -- F
          refine lv_lconst (v := 1) hx hb dL_law_1376 rfl ?_
          refine lv_goto (tgt := 1381) hx hb dL_law_1377 (by decide) ?_
          refine W.lcmp hx hb dL_law_1381 ?_
          refine r_top (y := nI 0) (by rw [hv1 q0, hbb, q1373]; exact lg_refl _) ?_
          refine r_if_eq (a := 0) (tgt := 1387) hx hb (by decide) dL_law_1382 (by decide) (fun q1382 => ?_) (fun q1382 => absurd rfl q1382)
          refine lv_goto (tgt := 1889) hx hb dL_law_1387 (by decide) ?_
          exact W.widen (by dsimp only [rmM, rmP]; omega) (by dsimp only [rmM, rmP]; omega) (next _ _ _ _ _ _ ⟨⟨_, (hI1).fr (fun k i hk => ⟨mC_n (Or.inl (by omega)), rfl⟩)⟩, rst_mark hR x1 true, ⟨_, _, mC_id⟩, ⟨f1, (mC_n (Or.inr (Or.inl (by decide)))).trans hO1⟩, hS, lv_sub hl [2, 3, 4, 5, 6] rfl⟩)

set_option maxHeartbeats 4000000 in
set_option maxRecDepth 100000 in
theorem law_20 {p : Program} {l : Launch} {e : Env} {s : State} {m : MethodId} {below : List Frame} {meth : Method} {c : Code} {Q : State → Prop} {G : rG} {b L j : Nat} {xs : Nat → Int32} (hh : lwH G p l s m c b L xs) (hj : 4 * j + 4 ≤ L) {T : rTab} {C : rC} {ad : rA} {H : Heap} {locs : List Loc} {ls : Array Slot} (hs : lwS G s b j T C ad H locs ls) (next : ∀ (T' : rTab) (C' : rC) (ad' : rA) (H' : Heap) (locs' : List Loc) (ls' : Array Slot), lwS G s b j T' C' ad' H' locs' ls' → W p l e room_1 s m #[Value.ref b] below meth c H' locs' (100 + 150 * (j + 1)) (2000 + 6300 * (j + 1)) Q (F0 m 1889 ls' [])) : W p l e room_1 s m #[Value.ref b] below meth c H locs (100 + 150 * j) (2000 + 6300 * j) Q (F0 m 1390 ls []) := by
  obtain ⟨hx, hb, hml, hown, hK, hZ, hX, hbl, hlt, hL⟩ := hh
  obtain ⟨⟨L0, hI⟩, hR, ⟨th, rg, hM⟩, ⟨f, hO⟩, hS, hl⟩ := hs
  have hN := mNu_of hI hR
  have hnC := hN.hC
  have hnS := hN.hS
  have hA : ∀ q : Nat, s.heap.size ≤ q → (fun q => s.heap.size ≤ q) q := fun _ h => h
  have hbA : ¬ (fun q => s.heap.size ≤ q) b := Nat.not_le.mpr hbl
  obtain ⟨x1, hx1⟩ : ∃ z, z = xs (nI (4 * j + 1)).toNatClampNeg := ⟨_, rfl⟩
  refine lv_aload_n hx hb dL_law_1390 rfl (lv_at hl 3 rfl) ?_
  refine lv_aload_n hx hb dL_law_1391 rfl (lv_at hl 4 rfl) ?_
  refine lv_iload hx hb dL_law_1392 (lv_at hl 0 rfl) ?_
  refine lv_iconst (v := nI 1) hx hb dL_law_1394 (by decide) ?_
  refine lv_iadd hx hb dL_law_1395 ?_
  refine r_top (nI_add _ _) ?_
  refine va_sld hx hb hX hbl hbA hS.2.2 (nI_in0 (by omega) (by omega)) dL_law_1396 ?_
  refine r_top (y := x1) hx1.symm ?_
  refine lv_aload_n hx hb dL_law_1397 rfl (lv_at hl 1 rfl) ?_
  refine cl_L_176 hx hb hml hown hK hZ hS hA (c_L_owner hlt hI hO x1) rfl hl.1 (Nat.le_of_ble_eq_true rfl) ⟨Nat.le_of_ble_eq_true rfl, Nat.le_of_ble_eq_true rfl⟩ ⟨(by show _ ≤ 601024; dsimp only [rmM, rmP]; omega), (by show _ ≤ 7293034; dsimp only [rmM, rmP]; omega)⟩ rfl dL_law_1398 (r_kr (fun r C1 ad1 H locs hQ hS => ?_))
  obtain ⟨rfl, ⟨L1, hI1⟩, ⟨f1, hO1, hv1⟩, hF1⟩ := hQ
  have e00 : ad 0 0 = ad1 0 0 := (hF1).2.symm
  have e30 : ad 30 0 = ad1 30 0 := ((hF1).1 30 0 (by decide)).1.symm
  have e46 : ad 46 0 = ad1 46 0 := ((hF1).1 46 0 (by decide)).1.symm
  rw [e00, e30, e46] at hl
  have hM1 := mC_o hM hF1
  rw [← hM1] at hS
  have hle := byN_le (n := (nC T)) (a := x1) (f := fun j => nI (T 8 j) - nI 1)
  have hle : (qS T (byN (nC T) x1 (fun j => nI (T 8 j) - nI 1))).1 ≤ 3 := Nat.le_trans hle (by decide)
  refine lv_istore (lv' := [(5, .int (nI (qS T (byN (nC T) x1 (fun j => nI (T 8 j) - nI 1))).1)), (4, .int (nI (4 * j))), (3, .ref (ad1 46 0)), (2, .ref (ad1 30 0)), (1, .ref (ad1 0 0)), (0, .ref b)]) hx hb dL_law_1401 hl (by decide) rfl (fun ls hl => ?_)
  refine lv_aload_n hx hb dL_law_1403 rfl (lv_at hl 3 rfl) ?_
  refine lv_aload_n hx hb dL_law_1404 rfl (lv_at hl 5 rfl) ?_
  refine lv_iload hx hb dL_law_1405 (lv_at hl 1 rfl) ?_
  refine lv_iconst (v := nI 1) hx hb dL_law_1407 (by decide) ?_
  refine lv_iadd hx hb dL_law_1408 ?_
  refine r_top (nI_add _ _) ?_
  refine va_sld hx hb hX hbl hbA hS.2.2 (nI_in0 (by omega) (by omega)) dL_law_1409 ?_
  refine r_top (y := x1) hx1.symm ?_
  refine cl_L_178 hx hb hml hown hK hZ hS hA (c_X5_owner hN x1) mC_30 rfl hl.1 (Nat.le_of_ble_eq_true rfl) ⟨Nat.le_of_ble_eq_true rfl, Nat.le_of_ble_eq_true rfl⟩ ⟨(by show _ ≤ 601024; dsimp only [rmM, rmP]; omega), (by show _ ≤ 7293034; dsimp only [rmM, rmP]; omega)⟩ rfl dL_law_1410 (r_kr (fun r C2 ad2 H locs hQ hS => ?_))
  obtain ⟨rfl, rfl, rfl⟩ := hQ
  refine lv_istore (lv' := [(6, .int (if (qS T (byN (nC T) x1 (fun j => nI (T 8 j) - nI 1))).1 = 0 then (qS T (byN (nC T) x1 (fun j => nI (T 8 j) - nI 1))).2.1 else nI 0)), (5, .int (nI (qS T (byN (nC T) x1 (fun j => nI (T 8 j) - nI 1))).1)), (4, .int (nI (4 * j))), (3, .ref (ad1 46 0)), (2, .ref (ad1 30 0)), (1, .ref (ad1 0 0)), (0, .ref b)]) hx hb dL_law_1413 hl (by decide) rfl (fun ls hl => ?_)
  refine lv_aload_n hx hb dL_law_1415 rfl (lv_at hl 4 rfl) ?_
  refine cl_L_112 hx hb hml hown hK hZ hS hA c_X5_thrown mC_30 rfl hl.1 (Nat.le_of_ble_eq_true rfl) ⟨Nat.le_of_ble_eq_true rfl, Nat.le_of_ble_eq_true rfl⟩ ⟨(by show _ ≤ 601024; dsimp only [rmM, rmP]; omega), (by show _ ≤ 7293034; dsimp only [rmM, rmP]; omega)⟩ rfl dL_law_1416 (r_kp (fun H locs hS => ?_))
  refine lv_iload hx hb dL_law_1419 (lv_at hl 1 rfl) ?_
  refine lv_icmp_eq (tgt := 1426) hx hb dL_law_1421 (by decide) (fun q1421 => ?_) (fun q1421 => absurd rfl q1421)
  refine lv_iload hx hb dL_law_1426 (lv_at hl 1 rfl) ?_
  refine r_if_ne (a := (qS T (byN (nC T) x1 (fun j => nI (T 8 j) - nI 1))).1) (tgt := 1443) hx hb (by omega) dL_law_1428 (by decide) (fun q0 => ?_) (fun q0 => ?_)
  · -- T
    refine lv_goto (tgt := 1889) hx hb dL_law_1443 (by decide) ?_
    exact W.widen (by dsimp only [rmM, rmP]; omega) (by dsimp only [rmM, rmP]; omega) (next _ _ _ _ _ _ ⟨⟨_, (hI1).fr (fun k i hk => ⟨mC_n (Or.inl (by omega)), rfl⟩)⟩, (show rst (qS T (byN (nC T) x1 (fun j => nI (T 8 j) - nI 1))).2.2 from hR), ⟨_, _, mC_id⟩, ⟨f1, (mC_n (Or.inr (Or.inl (by decide)))).trans hO1⟩, hS, lv_sub hl [2, 3, 4, 5, 6] rfl⟩)
  · -- F
    refine lv_aload_n hx hb dL_law_1431 rfl (lv_at hl 3 rfl) ?_
    refine lv_iconst (v := nI 0) hx hb dL_law_1432 (by decide) ?_
    refine r_lald hx hb hK.1 hS 1 ((mC_n (Or.inr (Or.inl (by decide)))).trans hO1) rfl (nI_in0 (by omega) (by omega)) (v := f1 0) (by rw [nI_clamp (by omega)]) dL_law_1433 ?_
    refine lv_iload hx hb dL_law_1434 (lv_at hl 0 rfl) ?_
    refine lv_i2l (v := (if (qS T (byN (nC T) x1 (fun j => nI (T 8 j) - nI 1))).1 = 0 then (qS T (byN (nC T) x1 (fun j => nI (T 8 j) - nI 1))).2.1 else nI 0).toInt64) hx hb dL_law_1436 rfl ?_
    refine W.lcmp hx hb dL_law_1437 ?_
    refine r_top (y := nI 0) (by rw [hv1 q0, if_pos q0]; exact lg_refl _) ?_
    refine r_if_eq (a := 0) (tgt := 1443) hx hb (by decide) dL_law_1438 (by decide) (fun q1438 => ?_) (fun q1438 => absurd rfl q1438)
    refine lv_goto (tgt := 1889) hx hb dL_law_1443 (by decide) ?_
    exact W.widen (by dsimp only [rmM, rmP]; omega) (by dsimp only [rmM, rmP]; omega) (next _ _ _ _ _ _ ⟨⟨_, (hI1).fr (fun k i hk => ⟨mC_n (Or.inl (by omega)), rfl⟩)⟩, (show rst (qS T (byN (nC T) x1 (fun j => nI (T 8 j) - nI 1))).2.2 from hR), ⟨_, _, mC_id⟩, ⟨f1, (mC_n (Or.inr (Or.inl (by decide)))).trans hO1⟩, hS, lv_sub hl [2, 3, 4, 5, 6] rfl⟩)

set_option maxHeartbeats 4000000 in
set_option maxRecDepth 100000 in
theorem law_21 {p : Program} {l : Launch} {e : Env} {s : State} {m : MethodId} {below : List Frame} {meth : Method} {c : Code} {Q : State → Prop} {G : rG} {b L j : Nat} {xs : Nat → Int32} (hh : lwH G p l s m c b L xs) (hj : 4 * j + 4 ≤ L) {T : rTab} {C : rC} {ad : rA} {H : Heap} {locs : List Loc} {ls : Array Slot} (hs : lwS G s b j T C ad H locs ls) (next : ∀ (T' : rTab) (C' : rC) (ad' : rA) (H' : Heap) (locs' : List Loc) (ls' : Array Slot), lwS G s b j T' C' ad' H' locs' ls' → W p l e room_1 s m #[Value.ref b] below meth c H' locs' (100 + 150 * (j + 1)) (2000 + 6300 * (j + 1)) Q (F0 m 1889 ls' [])) : W p l e room_1 s m #[Value.ref b] below meth c H locs (100 + 150 * j) (2000 + 6300 * j) Q (F0 m 1446 ls []) := by
  obtain ⟨hx, hb, hml, hown, hK, hZ, hX, hbl, hlt, hL⟩ := hh
  obtain ⟨⟨L0, hI⟩, hR, ⟨th, rg, hM⟩, ⟨f, hO⟩, hS, hl⟩ := hs
  have hN := mNu_of hI hR
  have hnC := hN.hC
  have hnS := hN.hS
  have hA : ∀ q : Nat, s.heap.size ≤ q → (fun q => s.heap.size ≤ q) q := fun _ h => h
  have hbA : ¬ (fun q => s.heap.size ≤ q) b := Nat.not_le.mpr hbl
  obtain ⟨x1, hx1⟩ : ∃ z, z = xs (nI (4 * j + 1)).toNatClampNeg := ⟨_, rfl⟩
  refine lv_aload_n hx hb dL_law_1446 rfl (lv_at hl 3 rfl) ?_
  refine lv_aload_n hx hb dL_law_1447 rfl (lv_at hl 4 rfl) ?_
  refine lv_iload hx hb dL_law_1448 (lv_at hl 0 rfl) ?_
  refine lv_iconst (v := nI 1) hx hb dL_law_1450 (by decide) ?_
  refine lv_iadd hx hb dL_law_1451 ?_
  refine r_top (nI_add _ _) ?_
  refine va_sld hx hb hX hbl hbA hS.2.2 (nI_in0 (by omega) (by omega)) dL_law_1452 ?_
  refine r_top (y := x1) hx1.symm ?_
  refine lv_aload_n hx hb dL_law_1453 rfl (lv_at hl 1 rfl) ?_
  refine cl_L_179 hx hb hml hown hK hZ hS hA (c_L_wants hlt hI hO x1) rfl hl.1 (Nat.le_of_ble_eq_true rfl) ⟨Nat.le_of_ble_eq_true rfl, Nat.le_of_ble_eq_true rfl⟩ ⟨(by show _ ≤ 601024; dsimp only [rmM, rmP]; omega), (by show _ ≤ 7293034; dsimp only [rmM, rmP]; omega)⟩ rfl dL_law_1454 (r_kr (fun r C1 ad1 H locs hQ hS => ?_))
  obtain ⟨rfl, ⟨L1, hI1⟩, ⟨f1, hO1, hv1⟩, hF1⟩ := hQ
  have e00 : ad 0 0 = ad1 0 0 := (hF1).2.symm
  have e30 : ad 30 0 = ad1 30 0 := ((hF1).1 30 0 (by decide)).1.symm
  have e46 : ad 46 0 = ad1 46 0 := ((hF1).1 46 0 (by decide)).1.symm
  rw [e00, e30, e46] at hl
  have hM1 := mC_o hM hF1
  rw [← hM1] at hS
  have hle := byN_le (n := 8) (a := x1) (f := fun k => nI (T 10 k))
  have hle : (qS T (byN 8 x1 (fun k => nI (T 10 k)))).1 ≤ 3 := Nat.le_trans hle (by decide)
  refine lv_istore (lv' := [(5, .int (nI (qS T (byN 8 x1 (fun k => nI (T 10 k)))).1)), (4, .int (nI (4 * j))), (3, .ref (ad1 46 0)), (2, .ref (ad1 30 0)), (1, .ref (ad1 0 0)), (0, .ref b)]) hx hb dL_law_1457 hl (by decide) rfl (fun ls hl => ?_)
  refine lv_aload_n hx hb dL_law_1459 rfl (lv_at hl 3 rfl) ?_
  refine lv_aload_n hx hb dL_law_1460 rfl (lv_at hl 5 rfl) ?_
  refine lv_iload hx hb dL_law_1461 (lv_at hl 1 rfl) ?_
  refine lv_iconst (v := nI 1) hx hb dL_law_1463 (by decide) ?_
  refine lv_iadd hx hb dL_law_1464 ?_
  refine r_top (nI_add _ _) ?_
  refine va_sld hx hb hX hbl hbA hS.2.2 (nI_in0 (by omega) (by omega)) dL_law_1465 ?_
  refine r_top (y := x1) hx1.symm ?_
  refine cl_L_181 hx hb hml hown hK hZ hS hA (c_X5_wants hN x1) mC_30 rfl hl.1 (Nat.le_of_ble_eq_true rfl) ⟨Nat.le_of_ble_eq_true rfl, Nat.le_of_ble_eq_true rfl⟩ ⟨(by show _ ≤ 601024; dsimp only [rmM, rmP]; omega), (by show _ ≤ 7293034; dsimp only [rmM, rmP]; omega)⟩ rfl dL_law_1466 (r_kr (fun r C2 ad2 H locs hQ hS => ?_))
  obtain ⟨rfl, rfl, rfl⟩ := hQ
  refine lv_istore (lv' := [(6, .int (if (qS T (byN 8 x1 (fun k => nI (T 10 k)))).1 = 0 then (qS T (byN 8 x1 (fun k => nI (T 10 k)))).2.1 else nI 0)), (5, .int (nI (qS T (byN 8 x1 (fun k => nI (T 10 k)))).1)), (4, .int (nI (4 * j))), (3, .ref (ad1 46 0)), (2, .ref (ad1 30 0)), (1, .ref (ad1 0 0)), (0, .ref b)]) hx hb dL_law_1469 hl (by decide) rfl (fun ls hl => ?_)
  refine lv_aload_n hx hb dL_law_1471 rfl (lv_at hl 4 rfl) ?_
  refine cl_L_112 hx hb hml hown hK hZ hS hA c_X5_thrown mC_30 rfl hl.1 (Nat.le_of_ble_eq_true rfl) ⟨Nat.le_of_ble_eq_true rfl, Nat.le_of_ble_eq_true rfl⟩ ⟨(by show _ ≤ 601024; dsimp only [rmM, rmP]; omega), (by show _ ≤ 7293034; dsimp only [rmM, rmP]; omega)⟩ rfl dL_law_1472 (r_kp (fun H locs hS => ?_))
  refine lv_iload hx hb dL_law_1475 (lv_at hl 1 rfl) ?_
  refine lv_icmp_eq (tgt := 1482) hx hb dL_law_1477 (by decide) (fun q1477 => ?_) (fun q1477 => absurd rfl q1477)
  refine lv_iload hx hb dL_law_1482 (lv_at hl 1 rfl) ?_
  refine r_if_ne (a := (qS T (byN 8 x1 (fun k => nI (T 10 k)))).1) (tgt := 1499) hx hb (by omega) dL_law_1484 (by decide) (fun q0 => ?_) (fun q0 => ?_)
  · -- T
    refine lv_goto (tgt := 1889) hx hb dL_law_1499 (by decide) ?_
    exact W.widen (by dsimp only [rmM, rmP]; omega) (by dsimp only [rmM, rmP]; omega) (next _ _ _ _ _ _ ⟨⟨_, (hI1).fr (fun k i hk => ⟨mC_n (Or.inl (by omega)), rfl⟩)⟩, (show rst (qS T (byN 8 x1 (fun k => nI (T 10 k)))).2.2 from hR), ⟨_, _, mC_id⟩, ⟨f1, (mC_n (Or.inr (Or.inl (by decide)))).trans hO1⟩, hS, lv_sub hl [2, 3, 4, 5, 6] rfl⟩)
  · -- F
    refine lv_aload_n hx hb dL_law_1487 rfl (lv_at hl 3 rfl) ?_
    refine lv_iconst (v := nI 0) hx hb dL_law_1488 (by decide) ?_
    refine r_lald hx hb hK.1 hS 1 ((mC_n (Or.inr (Or.inl (by decide)))).trans hO1) rfl (nI_in0 (by omega) (by omega)) (v := f1 0) (by rw [nI_clamp (by omega)]) dL_law_1489 ?_
    refine lv_iload hx hb dL_law_1490 (lv_at hl 0 rfl) ?_
    refine lv_i2l (v := (if (qS T (byN 8 x1 (fun k => nI (T 10 k)))).1 = 0 then (qS T (byN 8 x1 (fun k => nI (T 10 k)))).2.1 else nI 0).toInt64) hx hb dL_law_1492 rfl ?_
    refine W.lcmp hx hb dL_law_1493 ?_
    refine r_top (y := nI 0) (by rw [hv1 q0, if_pos q0]; exact lg_refl _) ?_
    refine r_if_eq (a := 0) (tgt := 1499) hx hb (by decide) dL_law_1494 (by decide) (fun q1494 => ?_) (fun q1494 => absurd rfl q1494)
    refine lv_goto (tgt := 1889) hx hb dL_law_1499 (by decide) ?_
    exact W.widen (by dsimp only [rmM, rmP]; omega) (by dsimp only [rmM, rmP]; omega) (next _ _ _ _ _ _ ⟨⟨_, (hI1).fr (fun k i hk => ⟨mC_n (Or.inl (by omega)), rfl⟩)⟩, (show rst (qS T (byN 8 x1 (fun k => nI (T 10 k)))).2.2 from hR), ⟨_, _, mC_id⟩, ⟨f1, (mC_n (Or.inr (Or.inl (by decide)))).trans hO1⟩, hS, lv_sub hl [2, 3, 4, 5, 6] rfl⟩)

set_option maxHeartbeats 4000000 in
set_option maxRecDepth 100000 in
theorem law_22 {p : Program} {l : Launch} {e : Env} {s : State} {m : MethodId} {below : List Frame} {meth : Method} {c : Code} {Q : State → Prop} {G : rG} {b L j : Nat} {xs : Nat → Int32} (hh : lwH G p l s m c b L xs) (hj : 4 * j + 4 ≤ L) {T : rTab} {C : rC} {ad : rA} {H : Heap} {locs : List Loc} {ls : Array Slot} (hs : lwS G s b j T C ad H locs ls) (next : ∀ (T' : rTab) (C' : rC) (ad' : rA) (H' : Heap) (locs' : List Loc) (ls' : Array Slot), lwS G s b j T' C' ad' H' locs' ls' → W p l e room_1 s m #[Value.ref b] below meth c H' locs' (100 + 150 * (j + 1)) (2000 + 6300 * (j + 1)) Q (F0 m 1889 ls' [])) : W p l e room_1 s m #[Value.ref b] below meth c H locs (100 + 150 * j) (2000 + 6300 * j) Q (F0 m 1502 ls []) := by
  obtain ⟨hx, hb, hml, hown, hK, hZ, hX, hbl, hlt, hL⟩ := hh
  obtain ⟨⟨L0, hI⟩, hR, ⟨th, rg, hM⟩, ⟨f, hO⟩, hS, hl⟩ := hs
  have hN := mNu_of hI hR
  have hnC := hN.hC
  have hnS := hN.hS
  have hA : ∀ q : Nat, s.heap.size ≤ q → (fun q => s.heap.size ≤ q) q := fun _ h => h
  have hbA : ¬ (fun q => s.heap.size ≤ q) b := Nat.not_le.mpr hbl
  obtain ⟨x1, hx1⟩ : ∃ z, z = xs (nI (4 * j + 1)).toNatClampNeg := ⟨_, rfl⟩
  refine lv_aload_n hx hb dL_law_1502 rfl (lv_at hl 3 rfl) ?_
  refine lv_aload_n hx hb dL_law_1503 rfl (lv_at hl 4 rfl) ?_
  refine lv_iload hx hb dL_law_1504 (lv_at hl 0 rfl) ?_
  refine lv_iconst (v := nI 1) hx hb dL_law_1506 (by decide) ?_
  refine lv_iadd hx hb dL_law_1507 ?_
  refine r_top (nI_add _ _) ?_
  refine va_sld hx hb hX hbl hbA hS.2.2 (nI_in0 (by omega) (by omega)) dL_law_1508 ?_
  refine r_top (y := x1) hx1.symm ?_
  refine lv_aload_n hx hb dL_law_1509 rfl (lv_at hl 1 rfl) ?_
  refine cl_L_182 hx hb hml hown hK hZ hS hA (c_L_offers hlt hI hO x1) rfl hl.1 (Nat.le_of_ble_eq_true rfl) ⟨Nat.le_of_ble_eq_true rfl, Nat.le_of_ble_eq_true rfl⟩ ⟨(by show _ ≤ 601024; dsimp only [rmM, rmP]; omega), (by show _ ≤ 7293034; dsimp only [rmM, rmP]; omega)⟩ rfl dL_law_1510 (r_kr (fun r C1 ad1 H locs hQ hS => ?_))
  obtain ⟨rfl, ⟨L1, hI1⟩, ⟨f1, hO1, hv1⟩, hF1⟩ := hQ
  have e00 : ad 0 0 = ad1 0 0 := (hF1).2.symm
  have e30 : ad 30 0 = ad1 30 0 := ((hF1).1 30 0 (by decide)).1.symm
  have e46 : ad 46 0 = ad1 46 0 := ((hF1).1 46 0 (by decide)).1.symm
  rw [e00, e30, e46] at hl
  have hM1 := mC_o hM hF1
  rw [← hM1] at hS
  have hle := sOffers_le (T := T) (a := x1)
  have hle : (sOffers T x1).1 ≤ 3 := Nat.le_trans hle (by decide)
  refine lv_istore (lv' := [(5, .int (nI (sOffers T x1).1)), (4, .int (nI (4 * j))), (3, .ref (ad1 46 0)), (2, .ref (ad1 30 0)), (1, .ref (ad1 0 0)), (0, .ref b)]) hx hb dL_law_1513 hl (by decide) rfl (fun ls hl => ?_)
  refine lv_aload_n hx hb dL_law_1515 rfl (lv_at hl 3 rfl) ?_
  refine lv_aload_n hx hb dL_law_1516 rfl (lv_at hl 5 rfl) ?_
  refine lv_iload hx hb dL_law_1517 (lv_at hl 1 rfl) ?_
  refine lv_iconst (v := nI 1) hx hb dL_law_1519 (by decide) ?_
  refine lv_iadd hx hb dL_law_1520 ?_
  refine r_top (nI_add _ _) ?_
  refine va_sld hx hb hX hbl hbA hS.2.2 (nI_in0 (by omega) (by omega)) dL_law_1521 ?_
  refine r_top (y := x1) hx1.symm ?_
  refine cl_L_184 hx hb hml hown hK hZ hS hA (c_X5_offers hN x1) mC_30 rfl hl.1 (Nat.le_of_ble_eq_true rfl) ⟨Nat.le_of_ble_eq_true rfl, Nat.le_of_ble_eq_true rfl⟩ ⟨(by show _ ≤ 601024; dsimp only [rmM, rmP]; omega), (by show _ ≤ 7293034; dsimp only [rmM, rmP]; omega)⟩ rfl dL_law_1522 (r_kr (fun r C2 ad2 H locs hQ hS => ?_))
  obtain ⟨rfl, rfl, rfl⟩ := hQ
  refine lv_istore (lv' := [(6, .int (if (sOffers T x1).1 = 0 then (sOffers T x1).2.1 else nI 0)), (5, .int (nI (sOffers T x1).1)), (4, .int (nI (4 * j))), (3, .ref (ad1 46 0)), (2, .ref (ad1 30 0)), (1, .ref (ad1 0 0)), (0, .ref b)]) hx hb dL_law_1525 hl (by decide) rfl (fun ls hl => ?_)
  refine lv_aload_n hx hb dL_law_1527 rfl (lv_at hl 4 rfl) ?_
  refine cl_L_112 hx hb hml hown hK hZ hS hA c_X5_thrown mC_30 rfl hl.1 (Nat.le_of_ble_eq_true rfl) ⟨Nat.le_of_ble_eq_true rfl, Nat.le_of_ble_eq_true rfl⟩ ⟨(by show _ ≤ 601024; dsimp only [rmM, rmP]; omega), (by show _ ≤ 7293034; dsimp only [rmM, rmP]; omega)⟩ rfl dL_law_1528 (r_kp (fun H locs hS => ?_))
  refine lv_iload hx hb dL_law_1531 (lv_at hl 1 rfl) ?_
  refine lv_icmp_eq (tgt := 1538) hx hb dL_law_1533 (by decide) (fun q1533 => ?_) (fun q1533 => absurd rfl q1533)
  refine lv_iload hx hb dL_law_1538 (lv_at hl 1 rfl) ?_
  refine r_if_ne (a := (sOffers T x1).1) (tgt := 1555) hx hb (by omega) dL_law_1540 (by decide) (fun q0 => ?_) (fun q0 => ?_)
  · -- T
    refine lv_goto (tgt := 1889) hx hb dL_law_1555 (by decide) ?_
    exact W.widen (by dsimp only [rmM, rmP]; omega) (by dsimp only [rmM, rmP]; omega) (next _ _ _ _ _ _ ⟨⟨_, (hI1).fr (fun k i hk => ⟨mC_n (Or.inl (by omega)), rfl⟩)⟩, (by rw [sOffers_T]; exact hR), ⟨_, _, mC_id⟩, ⟨f1, (mC_n (Or.inr (Or.inl (by decide)))).trans hO1⟩, hS, lv_sub hl [2, 3, 4, 5, 6] rfl⟩)
  · -- F
    refine lv_aload_n hx hb dL_law_1543 rfl (lv_at hl 3 rfl) ?_
    refine lv_iconst (v := nI 0) hx hb dL_law_1544 (by decide) ?_
    refine r_lald hx hb hK.1 hS 1 ((mC_n (Or.inr (Or.inl (by decide)))).trans hO1) rfl (nI_in0 (by omega) (by omega)) (v := f1 0) (by rw [nI_clamp (by omega)]) dL_law_1545 ?_
    refine lv_iload hx hb dL_law_1546 (lv_at hl 0 rfl) ?_
    refine lv_i2l (v := (if (sOffers T x1).1 = 0 then (sOffers T x1).2.1 else nI 0).toInt64) hx hb dL_law_1548 rfl ?_
    refine W.lcmp hx hb dL_law_1549 ?_
    refine r_top (y := nI 0) (by rw [hv1 q0, if_pos q0]; exact lg_refl _) ?_
    refine r_if_eq (a := 0) (tgt := 1555) hx hb (by decide) dL_law_1550 (by decide) (fun q1550 => ?_) (fun q1550 => absurd rfl q1550)
    refine lv_goto (tgt := 1889) hx hb dL_law_1555 (by decide) ?_
    exact W.widen (by dsimp only [rmM, rmP]; omega) (by dsimp only [rmM, rmP]; omega) (next _ _ _ _ _ _ ⟨⟨_, (hI1).fr (fun k i hk => ⟨mC_n (Or.inl (by omega)), rfl⟩)⟩, (by rw [sOffers_T]; exact hR), ⟨_, _, mC_id⟩, ⟨f1, (mC_n (Or.inr (Or.inl (by decide)))).trans hO1⟩, hS, lv_sub hl [2, 3, 4, 5, 6] rfl⟩)

set_option maxHeartbeats 4000000 in
set_option maxRecDepth 100000 in
theorem law_23 {p : Program} {l : Launch} {e : Env} {s : State} {m : MethodId} {below : List Frame} {meth : Method} {c : Code} {Q : State → Prop} {G : rG} {b L j : Nat} {xs : Nat → Int32} (hh : lwH G p l s m c b L xs) (hj : 4 * j + 4 ≤ L) {T : rTab} {C : rC} {ad : rA} {H : Heap} {locs : List Loc} {ls : Array Slot} (hs : lwS G s b j T C ad H locs ls) (next : ∀ (T' : rTab) (C' : rC) (ad' : rA) (H' : Heap) (locs' : List Loc) (ls' : Array Slot), lwS G s b j T' C' ad' H' locs' ls' → W p l e room_1 s m #[Value.ref b] below meth c H' locs' (100 + 150 * (j + 1)) (2000 + 6300 * (j + 1)) Q (F0 m 1889 ls' [])) : W p l e room_1 s m #[Value.ref b] below meth c H locs (100 + 150 * j) (2000 + 6300 * j) Q (F0 m 1558 ls []) := by
  obtain ⟨hx, hb, hml, hown, hK, hZ, hX, hbl, hlt, hL⟩ := hh
  obtain ⟨⟨L0, hI⟩, hR, ⟨th, rg, hM⟩, ⟨f, hO⟩, hS, hl⟩ := hs
  have hN := mNu_of hI hR
  have hnC := hN.hC
  have hnS := hN.hS
  have hA : ∀ q : Nat, s.heap.size ≤ q → (fun q => s.heap.size ≤ q) q := fun _ h => h
  have hbA : ¬ (fun q => s.heap.size ≤ q) b := Nat.not_le.mpr hbl
  obtain ⟨x1, hx1⟩ : ∃ z, z = xs (nI (4 * j + 1)).toNatClampNeg := ⟨_, rfl⟩
  refine lv_aload_n hx hb dL_law_1558 rfl (lv_at hl 3 rfl) ?_
  refine lv_aload_n hx hb dL_law_1559 rfl (lv_at hl 4 rfl) ?_
  refine lv_iload hx hb dL_law_1560 (lv_at hl 0 rfl) ?_
  refine lv_iconst (v := nI 1) hx hb dL_law_1562 (by decide) ?_
  refine lv_iadd hx hb dL_law_1563 ?_
  refine r_top (nI_add _ _) ?_
  refine va_sld hx hb hX hbl hbA hS.2.2 (nI_in0 (by omega) (by omega)) dL_law_1564 ?_
  refine r_top (y := x1) hx1.symm ?_
  refine lv_aload_n hx hb dL_law_1565 rfl (lv_at hl 1 rfl) ?_
  refine cl_L_185 hx hb hml hown hK hZ hS hA (c_L_worth hlt hI hO x1) rfl hl.1 (Nat.le_of_ble_eq_true rfl) ⟨Nat.le_of_ble_eq_true rfl, Nat.le_of_ble_eq_true rfl⟩ ⟨(by show _ ≤ 601024; dsimp only [rmM, rmP]; omega), (by show _ ≤ 7293034; dsimp only [rmM, rmP]; omega)⟩ rfl dL_law_1566 (r_kr (fun r C1 ad1 H locs hQ hS => ?_))
  obtain ⟨rfl, ⟨L1, hI1⟩, ⟨f1, hO1, hv1⟩, hF1⟩ := hQ
  have e00 : ad 0 0 = ad1 0 0 := (hF1).2.symm
  have e30 : ad 30 0 = ad1 30 0 := ((hF1).1 30 0 (by decide)).1.symm
  have e46 : ad 46 0 = ad1 46 0 := ((hF1).1 46 0 (by decide)).1.symm
  rw [e00, e30, e46] at hl
  have hM1 := mC_o hM hF1
  rw [← hM1] at hS
  have hle := byN_le (n := 8) (a := x1) (f := fun k => nI (worthN T k))
  have hle : (qS T (byN 8 x1 (fun k => nI (worthN T k)))).1 ≤ 3 := Nat.le_trans hle (by decide)
  refine lv_istore (lv' := [(5, .int (nI (qS T (byN 8 x1 (fun k => nI (worthN T k)))).1)), (4, .int (nI (4 * j))), (3, .ref (ad1 46 0)), (2, .ref (ad1 30 0)), (1, .ref (ad1 0 0)), (0, .ref b)]) hx hb dL_law_1569 hl (by decide) rfl (fun ls hl => ?_)
  refine lv_aload_n hx hb dL_law_1571 rfl (lv_at hl 3 rfl) ?_
  refine lv_aload_n hx hb dL_law_1572 rfl (lv_at hl 5 rfl) ?_
  refine lv_iload hx hb dL_law_1573 (lv_at hl 1 rfl) ?_
  refine lv_iconst (v := nI 1) hx hb dL_law_1575 (by decide) ?_
  refine lv_iadd hx hb dL_law_1576 ?_
  refine r_top (nI_add _ _) ?_
  refine va_sld hx hb hX hbl hbA hS.2.2 (nI_in0 (by omega) (by omega)) dL_law_1577 ?_
  refine r_top (y := x1) hx1.symm ?_
  refine cl_L_187 hx hb hml hown hK hZ hS hA (c_X5_worth hN x1) mC_30 rfl hl.1 (Nat.le_of_ble_eq_true rfl) ⟨Nat.le_of_ble_eq_true rfl, Nat.le_of_ble_eq_true rfl⟩ ⟨(by show _ ≤ 601024; dsimp only [rmM, rmP]; omega), (by show _ ≤ 7293034; dsimp only [rmM, rmP]; omega)⟩ rfl dL_law_1578 (r_kr (fun r C2 ad2 H locs hQ hS => ?_))
  obtain ⟨rfl, rfl, rfl⟩ := hQ
  refine lv_istore (lv' := [(6, .int (if (qS T (byN 8 x1 (fun k => nI (worthN T k)))).1 = 0 then (qS T (byN 8 x1 (fun k => nI (worthN T k)))).2.1 else nI 0)), (5, .int (nI (qS T (byN 8 x1 (fun k => nI (worthN T k)))).1)), (4, .int (nI (4 * j))), (3, .ref (ad1 46 0)), (2, .ref (ad1 30 0)), (1, .ref (ad1 0 0)), (0, .ref b)]) hx hb dL_law_1581 hl (by decide) rfl (fun ls hl => ?_)
  refine lv_aload_n hx hb dL_law_1583 rfl (lv_at hl 4 rfl) ?_
  refine cl_L_112 hx hb hml hown hK hZ hS hA c_X5_thrown mC_30 rfl hl.1 (Nat.le_of_ble_eq_true rfl) ⟨Nat.le_of_ble_eq_true rfl, Nat.le_of_ble_eq_true rfl⟩ ⟨(by show _ ≤ 601024; dsimp only [rmM, rmP]; omega), (by show _ ≤ 7293034; dsimp only [rmM, rmP]; omega)⟩ rfl dL_law_1584 (r_kp (fun H locs hS => ?_))
  refine lv_iload hx hb dL_law_1587 (lv_at hl 1 rfl) ?_
  refine lv_icmp_eq (tgt := 1594) hx hb dL_law_1589 (by decide) (fun q1589 => ?_) (fun q1589 => absurd rfl q1589)
  refine lv_iload hx hb dL_law_1594 (lv_at hl 1 rfl) ?_
  refine r_if_ne (a := (qS T (byN 8 x1 (fun k => nI (worthN T k)))).1) (tgt := 1611) hx hb (by omega) dL_law_1596 (by decide) (fun q0 => ?_) (fun q0 => ?_)
  · -- T
    refine lv_goto (tgt := 1889) hx hb dL_law_1611 (by decide) ?_
    exact W.widen (by dsimp only [rmM, rmP]; omega) (by dsimp only [rmM, rmP]; omega) (next _ _ _ _ _ _ ⟨⟨_, (hI1).fr (fun k i hk => ⟨mC_n (Or.inl (by omega)), rfl⟩)⟩, (show rst (qS T (byN 8 x1 (fun k => nI (worthN T k)))).2.2 from hR), ⟨_, _, mC_id⟩, ⟨f1, (mC_n (Or.inr (Or.inl (by decide)))).trans hO1⟩, hS, lv_sub hl [2, 3, 4, 5, 6] rfl⟩)
  · -- F
    refine lv_aload_n hx hb dL_law_1599 rfl (lv_at hl 3 rfl) ?_
    refine lv_iconst (v := nI 0) hx hb dL_law_1600 (by decide) ?_
    refine r_lald hx hb hK.1 hS 1 ((mC_n (Or.inr (Or.inl (by decide)))).trans hO1) rfl (nI_in0 (by omega) (by omega)) (v := f1 0) (by rw [nI_clamp (by omega)]) dL_law_1601 ?_
    refine lv_iload hx hb dL_law_1602 (lv_at hl 0 rfl) ?_
    refine lv_i2l (v := (if (qS T (byN 8 x1 (fun k => nI (worthN T k)))).1 = 0 then (qS T (byN 8 x1 (fun k => nI (worthN T k)))).2.1 else nI 0).toInt64) hx hb dL_law_1604 rfl ?_
    refine W.lcmp hx hb dL_law_1605 ?_
    refine r_top (y := nI 0) (by rw [hv1 q0, if_pos q0]; exact lg_refl _) ?_
    refine r_if_eq (a := 0) (tgt := 1611) hx hb (by decide) dL_law_1606 (by decide) (fun q1606 => ?_) (fun q1606 => absurd rfl q1606)
    refine lv_goto (tgt := 1889) hx hb dL_law_1611 (by decide) ?_
    exact W.widen (by dsimp only [rmM, rmP]; omega) (by dsimp only [rmM, rmP]; omega) (next _ _ _ _ _ _ ⟨⟨_, (hI1).fr (fun k i hk => ⟨mC_n (Or.inl (by omega)), rfl⟩)⟩, (show rst (qS T (byN 8 x1 (fun k => nI (worthN T k)))).2.2 from hR), ⟨_, _, mC_id⟩, ⟨f1, (mC_n (Or.inr (Or.inl (by decide)))).trans hO1⟩, hS, lv_sub hl [2, 3, 4, 5, 6] rfl⟩)

set_option maxHeartbeats 4000000 in
set_option maxRecDepth 100000 in
theorem law_24 {p : Program} {l : Launch} {e : Env} {s : State} {m : MethodId} {below : List Frame} {meth : Method} {c : Code} {Q : State → Prop} {G : rG} {b L j : Nat} {xs : Nat → Int32} (hh : lwH G p l s m c b L xs) (hj : 4 * j + 4 ≤ L) {T : rTab} {C : rC} {ad : rA} {H : Heap} {locs : List Loc} {ls : Array Slot} (hs : lwS G s b j T C ad H locs ls) (next : ∀ (T' : rTab) (C' : rC) (ad' : rA) (H' : Heap) (locs' : List Loc) (ls' : Array Slot), lwS G s b j T' C' ad' H' locs' ls' → W p l e room_1 s m #[Value.ref b] below meth c H' locs' (100 + 150 * (j + 1)) (2000 + 6300 * (j + 1)) Q (F0 m 1889 ls' [])) : W p l e room_1 s m #[Value.ref b] below meth c H locs (100 + 150 * j) (2000 + 6300 * j) Q (F0 m 1614 ls []) := by
  obtain ⟨hx, hb, hml, hown, hK, hZ, hX, hbl, hlt, hL⟩ := hh
  obtain ⟨⟨L0, hI⟩, hR, ⟨th, rg, hM⟩, ⟨f, hO⟩, hS, hl⟩ := hs
  have hN := mNu_of hI hR
  have hnC := hN.hC
  have hnS := hN.hS
  have hA : ∀ q : Nat, s.heap.size ≤ q → (fun q => s.heap.size ≤ q) q := fun _ h => h
  have hbA : ¬ (fun q => s.heap.size ≤ q) b := Nat.not_le.mpr hbl
  obtain ⟨x1, hx1⟩ : ∃ z, z = xs (nI (4 * j + 1)).toNatClampNeg := ⟨_, rfl⟩
  obtain ⟨x2, hx2⟩ : ∃ z, z = xs (nI (4 * j + 2)).toNatClampNeg := ⟨_, rfl⟩
  refine lv_aload_n hx hb dL_law_1614 rfl (lv_at hl 3 rfl) ?_
  refine lv_aload_n hx hb dL_law_1615 rfl (lv_at hl 4 rfl) ?_
  refine lv_iload hx hb dL_law_1616 (lv_at hl 0 rfl) ?_
  refine lv_iconst (v := nI 1) hx hb dL_law_1618 (by decide) ?_
  refine lv_iadd hx hb dL_law_1619 ?_
  refine r_top (nI_add _ _) ?_
  refine va_sld hx hb hX hbl hbA hS.2.2 (nI_in0 (by omega) (by omega)) dL_law_1620 ?_
  refine r_top (y := x1) hx1.symm ?_
  refine lv_aload_n hx hb dL_law_1621 rfl (lv_at hl 4 rfl) ?_
  refine lv_iload hx hb dL_law_1622 (lv_at hl 0 rfl) ?_
  refine lv_iconst (v := nI 2) hx hb dL_law_1624 (by decide) ?_
  refine lv_iadd hx hb dL_law_1625 ?_
  refine r_top (nI_add _ _) ?_
  refine va_sld hx hb hX hbl hbA hS.2.2 (nI_in0 (by omega) (by omega)) dL_law_1626 ?_
  refine r_top (y := x2) hx2.symm ?_
  refine lv_aload_n hx hb dL_law_1627 rfl (lv_at hl 1 rfl) ?_
  refine cl_L_188 hx hb hml hown hK hZ hS hA (c_L_coinAt hlt hI hO x1 x2) rfl hl.1 (Nat.le_of_ble_eq_true rfl) ⟨Nat.le_of_ble_eq_true rfl, Nat.le_of_ble_eq_true rfl⟩ ⟨(by show _ ≤ 601024; dsimp only [rmM, rmP]; omega), (by show _ ≤ 7293034; dsimp only [rmM, rmP]; omega)⟩ rfl dL_law_1628 (r_kr (fun r C1 ad1 H locs hQ hS => ?_))
  obtain ⟨rfl, ⟨L1, hI1⟩, ⟨f1, hO1, hv1⟩, hF1⟩ := hQ
  have e00 : ad 0 0 = ad1 0 0 := (hF1).2.symm
  have e30 : ad 30 0 = ad1 30 0 := ((hF1).1 30 0 (by decide)).1.symm
  have e46 : ad 46 0 = ad1 46 0 := ((hF1).1 46 0 (by decide)).1.symm
  rw [e00, e30, e46] at hl
  have hM1 := mC_o hM hF1
  rw [← hM1] at hS
  have hle := coinQ_le (T := T) (a := x1) (b := x2)
  have hle : (qS T (coinQ T x1 x2)).1 ≤ 3 := Nat.le_trans hle (by decide)
  refine lv_istore (lv' := [(5, .int (nI (qS T (coinQ T x1 x2)).1)), (4, .int (nI (4 * j))), (3, .ref (ad1 46 0)), (2, .ref (ad1 30 0)), (1, .ref (ad1 0 0)), (0, .ref b)]) hx hb dL_law_1631 hl (by decide) rfl (fun ls hl => ?_)
  refine lv_aload_n hx hb dL_law_1633 rfl (lv_at hl 3 rfl) ?_
  refine lv_aload_n hx hb dL_law_1634 rfl (lv_at hl 5 rfl) ?_
  refine lv_iload hx hb dL_law_1635 (lv_at hl 1 rfl) ?_
  refine lv_iconst (v := nI 1) hx hb dL_law_1637 (by decide) ?_
  refine lv_iadd hx hb dL_law_1638 ?_
  refine r_top (nI_add _ _) ?_
  refine va_sld hx hb hX hbl hbA hS.2.2 (nI_in0 (by omega) (by omega)) dL_law_1639 ?_
  refine r_top (y := x1) hx1.symm ?_
  refine lv_aload_n hx hb dL_law_1640 rfl (lv_at hl 5 rfl) ?_
  refine lv_iload hx hb dL_law_1641 (lv_at hl 1 rfl) ?_
  refine lv_iconst (v := nI 2) hx hb dL_law_1643 (by decide) ?_
  refine lv_iadd hx hb dL_law_1644 ?_
  refine r_top (nI_add _ _) ?_
  refine va_sld hx hb hX hbl hbA hS.2.2 (nI_in0 (by omega) (by omega)) dL_law_1645 ?_
  refine r_top (y := x2) hx2.symm ?_
  refine cl_L_190 hx hb hml hown hK hZ hS hA (c_X5_coinAt hN x1 x2) mC_30 rfl hl.1 (Nat.le_of_ble_eq_true rfl) ⟨Nat.le_of_ble_eq_true rfl, Nat.le_of_ble_eq_true rfl⟩ ⟨(by show _ ≤ 601024; dsimp only [rmM, rmP]; omega), (by show _ ≤ 7293034; dsimp only [rmM, rmP]; omega)⟩ rfl dL_law_1646 (r_kr (fun r C2 ad2 H locs hQ hS => ?_))
  obtain ⟨rfl, rfl, rfl⟩ := hQ
  refine lv_istore (lv' := [(6, .int (if (qS T (coinQ T x1 x2)).1 = 0 then (qS T (coinQ T x1 x2)).2.1 else nI 0)), (5, .int (nI (qS T (coinQ T x1 x2)).1)), (4, .int (nI (4 * j))), (3, .ref (ad1 46 0)), (2, .ref (ad1 30 0)), (1, .ref (ad1 0 0)), (0, .ref b)]) hx hb dL_law_1649 hl (by decide) rfl (fun ls hl => ?_)
  refine lv_aload_n hx hb dL_law_1651 rfl (lv_at hl 4 rfl) ?_
  refine cl_L_112 hx hb hml hown hK hZ hS hA c_X5_thrown mC_30 rfl hl.1 (Nat.le_of_ble_eq_true rfl) ⟨Nat.le_of_ble_eq_true rfl, Nat.le_of_ble_eq_true rfl⟩ ⟨(by show _ ≤ 601024; dsimp only [rmM, rmP]; omega), (by show _ ≤ 7293034; dsimp only [rmM, rmP]; omega)⟩ rfl dL_law_1652 (r_kp (fun H locs hS => ?_))
  refine lv_iload hx hb dL_law_1655 (lv_at hl 1 rfl) ?_
  refine lv_icmp_eq (tgt := 1662) hx hb dL_law_1657 (by decide) (fun q1657 => ?_) (fun q1657 => absurd rfl q1657)
  refine lv_iload hx hb dL_law_1662 (lv_at hl 1 rfl) ?_
  refine r_if_ne (a := (qS T (coinQ T x1 x2)).1) (tgt := 1679) hx hb (by omega) dL_law_1664 (by decide) (fun q0 => ?_) (fun q0 => ?_)
  · -- T
    refine lv_goto (tgt := 1889) hx hb dL_law_1679 (by decide) ?_
    exact W.widen (by dsimp only [rmM, rmP]; omega) (by dsimp only [rmM, rmP]; omega) (next _ _ _ _ _ _ ⟨⟨_, (hI1).fr (fun k i hk => ⟨mC_n (Or.inl (by omega)), rfl⟩)⟩, (show rst (qS T (coinQ T x1 x2)).2.2 from hR), ⟨_, _, mC_id⟩, ⟨f1, (mC_n (Or.inr (Or.inl (by decide)))).trans hO1⟩, hS, lv_sub hl [2, 3, 4, 5, 6] rfl⟩)
  · -- F
    refine lv_aload_n hx hb dL_law_1667 rfl (lv_at hl 3 rfl) ?_
    refine lv_iconst (v := nI 0) hx hb dL_law_1668 (by decide) ?_
    refine r_lald hx hb hK.1 hS 1 ((mC_n (Or.inr (Or.inl (by decide)))).trans hO1) rfl (nI_in0 (by omega) (by omega)) (v := f1 0) (by rw [nI_clamp (by omega)]) dL_law_1669 ?_
    refine lv_iload hx hb dL_law_1670 (lv_at hl 0 rfl) ?_
    refine lv_i2l (v := (if (qS T (coinQ T x1 x2)).1 = 0 then (qS T (coinQ T x1 x2)).2.1 else nI 0).toInt64) hx hb dL_law_1672 rfl ?_
    refine W.lcmp hx hb dL_law_1673 ?_
    refine r_top (y := nI 0) (by rw [hv1 q0, if_pos q0]; exact lg_refl _) ?_
    refine r_if_eq (a := 0) (tgt := 1679) hx hb (by decide) dL_law_1674 (by decide) (fun q1674 => ?_) (fun q1674 => absurd rfl q1674)
    refine lv_goto (tgt := 1889) hx hb dL_law_1679 (by decide) ?_
    exact W.widen (by dsimp only [rmM, rmP]; omega) (by dsimp only [rmM, rmP]; omega) (next _ _ _ _ _ _ ⟨⟨_, (hI1).fr (fun k i hk => ⟨mC_n (Or.inl (by omega)), rfl⟩)⟩, (show rst (qS T (coinQ T x1 x2)).2.2 from hR), ⟨_, _, mC_id⟩, ⟨f1, (mC_n (Or.inr (Or.inl (by decide)))).trans hO1⟩, hS, lv_sub hl [2, 3, 4, 5, 6] rfl⟩)

set_option maxHeartbeats 4000000 in
set_option maxRecDepth 100000 in
theorem law_25 {p : Program} {l : Launch} {e : Env} {s : State} {m : MethodId} {below : List Frame} {meth : Method} {c : Code} {Q : State → Prop} {G : rG} {b L j : Nat} {xs : Nat → Int32} (hh : lwH G p l s m c b L xs) (hj : 4 * j + 4 ≤ L) {T : rTab} {C : rC} {ad : rA} {H : Heap} {locs : List Loc} {ls : Array Slot} (hs : lwS G s b j T C ad H locs ls) (next : ∀ (T' : rTab) (C' : rC) (ad' : rA) (H' : Heap) (locs' : List Loc) (ls' : Array Slot), lwS G s b j T' C' ad' H' locs' ls' → W p l e room_1 s m #[Value.ref b] below meth c H' locs' (100 + 150 * (j + 1)) (2000 + 6300 * (j + 1)) Q (F0 m 1889 ls' [])) : W p l e room_1 s m #[Value.ref b] below meth c H locs (100 + 150 * j) (2000 + 6300 * j) Q (F0 m 1682 ls []) := by
  obtain ⟨hx, hb, hml, hown, hK, hZ, hX, hbl, hlt, hL⟩ := hh
  obtain ⟨⟨L0, hI⟩, hR, ⟨th, rg, hM⟩, ⟨f, hO⟩, hS, hl⟩ := hs
  have hN := mNu_of hI hR
  have hnC := hN.hC
  have hnS := hN.hS
  have hA : ∀ q : Nat, s.heap.size ≤ q → (fun q => s.heap.size ≤ q) q := fun _ h => h
  have hbA : ¬ (fun q => s.heap.size ≤ q) b := Nat.not_le.mpr hbl
  refine lv_aload_n hx hb dL_law_1682 rfl (lv_at hl 3 rfl) ?_
  refine cl_L_191 hx hb hml hown hK hZ hS hA (c_X4_ring hI) hI.reg rfl hl.1 (Nat.le_of_ble_eq_true rfl) ⟨Nat.le_of_ble_eq_true rfl, Nat.le_of_ble_eq_true rfl⟩ ⟨(by show _ ≤ 601024; dsimp only [rmM, rmP]; omega), (by show _ ≤ 7293034; dsimp only [rmM, rmP]; omega)⟩ rfl dL_law_1683 (r_kr (fun r C1 ad1 H locs hQ hS => ?_))
  obtain ⟨⟨-, rfl⟩, L1, hI1, hF0⟩ := hQ
  have hF1 := hF0.o
  have e00 : ad 0 0 = ad1 0 0 := (hF1).2.symm
  have e30 : ad 30 0 = ad1 30 0 := ((hF1).1 30 0 (by decide)).1.symm
  have e46 : ad 46 0 = ad1 46 0 := ((hF1).1 46 0 (by decide)).1.symm
  rw [e00, e30, e46] at hl
  have hO1 := ((hF0.1 46 0 (by decide)).1).trans hO
  have hM1 := mC_o hM hF1
  rw [← hM1] at hS
  refine lv_aload_n hx hb dL_law_1686 rfl (lv_at hl 2 rfl) ?_
  refine cl_L_194 hx hb hml hown hK hZ hS hA (c_X5_ring hN) mC_30 rfl hl.1 (Nat.le_of_ble_eq_true rfl) ⟨Nat.le_of_ble_eq_true rfl, Nat.le_of_ble_eq_true rfl⟩ ⟨(by show _ ≤ 601024; dsimp only [rmM, rmP]; omega), (by show _ ≤ 7293034; dsimp only [rmM, rmP]; omega)⟩ rfl dL_law_1687 (r_kr (fun r C2 ad2 H locs hQ hS => ?_))
  obtain ⟨rfl, ⟨rg2, rfl⟩, rfl⟩ := hQ
  refine r_top (y := nI (ringL T).1.length) (if_pos rfl) ?_
  refine lv_icmp_eq (tgt := 1889) hx hb dL_law_1690 (by decide) (fun q1690 => ?_) (fun q1690 => absurd rfl q1690)
  exact W.widen (by dsimp only [rmM, rmP]; omega) (by dsimp only [rmM, rmP]; omega) (next _ _ _ _ _ _ ⟨⟨_, (hI1).fr (fun k i hk => ⟨mC_n (Or.inl (by omega)), rfl⟩)⟩, hR, ⟨_, _, mC_id⟩, ⟨f, (mC_n (Or.inr (Or.inl (by decide)))).trans hO1⟩, hS, lv_sub hl [0, 1, 2, 3, 4] rfl⟩)

set_option maxHeartbeats 4000000 in
set_option maxRecDepth 100000 in
theorem law_26 {p : Program} {l : Launch} {e : Env} {s : State} {m : MethodId} {below : List Frame} {meth : Method} {c : Code} {Q : State → Prop} {G : rG} {b L j : Nat} {xs : Nat → Int32} (hh : lwH G p l s m c b L xs) (hj : 4 * j + 4 ≤ L) {T : rTab} {C : rC} {ad : rA} {H : Heap} {locs : List Loc} {ls : Array Slot} (hs : lwS G s b j T C ad H locs ls) (next : ∀ (T' : rTab) (C' : rC) (ad' : rA) (H' : Heap) (locs' : List Loc) (ls' : Array Slot), lwS G s b j T' C' ad' H' locs' ls' → W p l e room_1 s m #[Value.ref b] below meth c H' locs' (100 + 150 * (j + 1)) (2000 + 6300 * (j + 1)) Q (F0 m 1889 ls' [])) : W p l e room_1 s m #[Value.ref b] below meth c H locs (100 + 150 * j) (2000 + 6300 * j) Q (F0 m 1695 ls []) := by
  obtain ⟨hx, hb, hml, hown, hK, hZ, hX, hbl, hlt, hL⟩ := hh
  obtain ⟨⟨L0, hI⟩, hR, ⟨th, rg, hM⟩, ⟨f, hO⟩, hS, hl⟩ := hs
  have hN := mNu_of hI hR
  have hnC := hN.hC
  have hnS := hN.hS
  have hA : ∀ q : Nat, s.heap.size ≤ q → (fun q => s.heap.size ≤ q) q := fun _ h => h
  have hbA : ¬ (fun q => s.heap.size ≤ q) b := Nat.not_le.mpr hbl
  obtain ⟨x1, hx1⟩ : ∃ z, z = xs (nI (4 * j + 1)).toNatClampNeg := ⟨_, rfl⟩
  refine lv_aload_n hx hb dL_law_1695 rfl (lv_at hl 3 rfl) ?_
  refine lv_aload_n hx hb dL_law_1696 rfl (lv_at hl 4 rfl) ?_
  refine lv_iload hx hb dL_law_1697 (lv_at hl 0 rfl) ?_
  refine lv_iconst (v := nI 1) hx hb dL_law_1699 (by decide) ?_
  refine lv_iadd hx hb dL_law_1700 ?_
  refine r_top (nI_add _ _) ?_
  refine va_sld hx hb hX hbl hbA hS.2.2 (nI_in0 (by omega) (by omega)) dL_law_1701 ?_
  refine r_top (y := x1) hx1.symm ?_
  refine lv_aload_n hx hb dL_law_1702 rfl (lv_at hl 1 rfl) ?_
  refine cl_L_195 hx hb hml hown hK hZ hS hA (c_L_ringAt hlt hI hO x1) rfl hl.1 (Nat.le_of_ble_eq_true rfl) ⟨Nat.le_of_ble_eq_true rfl, Nat.le_of_ble_eq_true rfl⟩ ⟨(by show _ ≤ 601024; dsimp only [rmM, rmP]; omega), (by show _ ≤ 7293034; dsimp only [rmM, rmP]; omega)⟩ rfl dL_law_1703 (r_kr (fun r C1 ad1 H locs hQ hS => ?_))
  obtain ⟨rfl, ⟨L1, hI1⟩, ⟨f1, hO1, hv1⟩, hF1⟩ := hQ
  have e00 : ad 0 0 = ad1 0 0 := (hF1).2.symm
  have e30 : ad 30 0 = ad1 30 0 := ((hF1).1 30 0 (by decide)).1.symm
  have e46 : ad 46 0 = ad1 46 0 := ((hF1).1 46 0 (by decide)).1.symm
  rw [e00, e30, e46] at hl
  have hM1 := mC_o hM hF1
  rw [← hM1] at hS
  have hle := sRingAt_le (T := T) (a := x1)
  have hle : (sRingAt T x1).1 ≤ 3 := Nat.le_trans hle (by decide)
  refine lv_istore (lv' := [(5, .int (nI (sRingAt T x1).1)), (4, .int (nI (4 * j))), (3, .ref (ad1 46 0)), (2, .ref (ad1 30 0)), (1, .ref (ad1 0 0)), (0, .ref b)]) hx hb dL_law_1706 hl (by decide) rfl (fun ls hl => ?_)
  refine lv_aload_n hx hb dL_law_1708 rfl (lv_at hl 3 rfl) ?_
  refine lv_aload_n hx hb dL_law_1709 rfl (lv_at hl 5 rfl) ?_
  refine lv_iload hx hb dL_law_1710 (lv_at hl 1 rfl) ?_
  refine lv_iconst (v := nI 1) hx hb dL_law_1712 (by decide) ?_
  refine lv_iadd hx hb dL_law_1713 ?_
  refine r_top (nI_add _ _) ?_
  refine va_sld hx hb hX hbl hbA hS.2.2 (nI_in0 (by omega) (by omega)) dL_law_1714 ?_
  refine r_top (y := x1) hx1.symm ?_
  refine cl_L_197 hx hb hml hown hK hZ hS hA (c_X5_ringAt hN x1) mC_30 rfl hl.1 (Nat.le_of_ble_eq_true rfl) ⟨Nat.le_of_ble_eq_true rfl, Nat.le_of_ble_eq_true rfl⟩ ⟨(by show _ ≤ 601024; dsimp only [rmM, rmP]; omega), (by show _ ≤ 7293034; dsimp only [rmM, rmP]; omega)⟩ rfl dL_law_1715 (r_kr (fun r C2 ad2 H locs hQ hS => ?_))
  obtain ⟨rfl, ⟨rg2, rfl⟩, rfl⟩ := hQ
  refine lv_istore (lv' := [(6, .int (if (sRingAt T x1).1 = 0 then (sRingAt T x1).2.1 else nI 0)), (5, .int (nI (sRingAt T x1).1)), (4, .int (nI (4 * j))), (3, .ref (ad1 46 0)), (2, .ref (ad1 30 0)), (1, .ref (ad1 0 0)), (0, .ref b)]) hx hb dL_law_1718 hl (by decide) rfl (fun ls hl => ?_)
  refine lv_aload_n hx hb dL_law_1720 rfl (lv_at hl 4 rfl) ?_
  refine cl_L_112 hx hb hml hown hK hZ hS hA c_X5_thrown mC_30 rfl hl.1 (Nat.le_of_ble_eq_true rfl) ⟨Nat.le_of_ble_eq_true rfl, Nat.le_of_ble_eq_true rfl⟩ ⟨(by show _ ≤ 601024; dsimp only [rmM, rmP]; omega), (by show _ ≤ 7293034; dsimp only [rmM, rmP]; omega)⟩ rfl dL_law_1721 (r_kp (fun H locs hS => ?_))
  refine lv_iload hx hb dL_law_1724 (lv_at hl 1 rfl) ?_
  refine lv_icmp_eq (tgt := 1731) hx hb dL_law_1726 (by decide) (fun q1726 => ?_) (fun q1726 => absurd rfl q1726)
  refine lv_iload hx hb dL_law_1731 (lv_at hl 1 rfl) ?_
  refine r_if_ne (a := (sRingAt T x1).1) (tgt := 1748) hx hb (by omega) dL_law_1733 (by decide) (fun q0 => ?_) (fun q0 => ?_)
  · -- T
    refine lv_goto (tgt := 1889) hx hb dL_law_1748 (by decide) ?_
    exact W.widen (by dsimp only [rmM, rmP]; omega) (by dsimp only [rmM, rmP]; omega) (next _ _ _ _ _ _ ⟨⟨_, (hI1).fr (fun k i hk => ⟨mC_n (Or.inl (by omega)), rfl⟩)⟩, (by rw [sRingAt_T]; exact hR), ⟨_, _, mC_id⟩, ⟨f1, (mC_n (Or.inr (Or.inl (by decide)))).trans hO1⟩, hS, lv_sub hl [2, 3, 4, 5, 6] rfl⟩)
  · -- F
    refine lv_aload_n hx hb dL_law_1736 rfl (lv_at hl 3 rfl) ?_
    refine lv_iconst (v := nI 0) hx hb dL_law_1737 (by decide) ?_
    refine r_lald hx hb hK.1 hS 1 ((mC_n (Or.inr (Or.inl (by decide)))).trans hO1) rfl (nI_in0 (by omega) (by omega)) (v := f1 0) (by rw [nI_clamp (by omega)]) dL_law_1738 ?_
    refine lv_iload hx hb dL_law_1739 (lv_at hl 0 rfl) ?_
    refine lv_i2l (v := (if (sRingAt T x1).1 = 0 then (sRingAt T x1).2.1 else nI 0).toInt64) hx hb dL_law_1741 rfl ?_
    refine W.lcmp hx hb dL_law_1742 ?_
    refine r_top (y := nI 0) (by rw [hv1 q0, if_pos q0]; exact lg_refl _) ?_
    refine r_if_eq (a := 0) (tgt := 1748) hx hb (by decide) dL_law_1743 (by decide) (fun q1743 => ?_) (fun q1743 => absurd rfl q1743)
    refine lv_goto (tgt := 1889) hx hb dL_law_1748 (by decide) ?_
    exact W.widen (by dsimp only [rmM, rmP]; omega) (by dsimp only [rmM, rmP]; omega) (next _ _ _ _ _ _ ⟨⟨_, (hI1).fr (fun k i hk => ⟨mC_n (Or.inl (by omega)), rfl⟩)⟩, (by rw [sRingAt_T]; exact hR), ⟨_, _, mC_id⟩, ⟨f1, (mC_n (Or.inr (Or.inl (by decide)))).trans hO1⟩, hS, lv_sub hl [2, 3, 4, 5, 6] rfl⟩)

set_option maxHeartbeats 4000000 in
set_option maxRecDepth 100000 in
theorem law_27 {p : Program} {l : Launch} {e : Env} {s : State} {m : MethodId} {below : List Frame} {meth : Method} {c : Code} {Q : State → Prop} {G : rG} {b L j : Nat} {xs : Nat → Int32} (hh : lwH G p l s m c b L xs) (hj : 4 * j + 4 ≤ L) {T : rTab} {C : rC} {ad : rA} {H : Heap} {locs : List Loc} {ls : Array Slot} (hs : lwS G s b j T C ad H locs ls) (next : ∀ (T' : rTab) (C' : rC) (ad' : rA) (H' : Heap) (locs' : List Loc) (ls' : Array Slot), lwS G s b j T' C' ad' H' locs' ls' → W p l e room_1 s m #[Value.ref b] below meth c H' locs' (100 + 150 * (j + 1)) (2000 + 6300 * (j + 1)) Q (F0 m 1889 ls' [])) : W p l e room_1 s m #[Value.ref b] below meth c H locs (100 + 150 * j) (2000 + 6300 * j) Q (F0 m 1751 ls []) := by
  obtain ⟨hx, hb, hml, hown, hK, hZ, hX, hbl, hlt, hL⟩ := hh
  obtain ⟨⟨L0, hI⟩, hR, ⟨th, rg, hM⟩, ⟨f, hO⟩, hS, hl⟩ := hs
  have hN := mNu_of hI hR
  have hnC := hN.hC
  have hnS := hN.hS
  have hA : ∀ q : Nat, s.heap.size ≤ q → (fun q => s.heap.size ≤ q) q := fun _ h => h
  have hbA : ¬ (fun q => s.heap.size ≤ q) b := Nat.not_le.mpr hbl
  refine lv_aload_n hx hb dL_law_1751 rfl (lv_at hl 3 rfl) ?_
  refine lv_aload_n hx hb dL_law_1752 rfl (lv_at hl 1 rfl) ?_
  refine cl_L_198 hx hb hml hown hK hZ hS hA (c_L_swap hlt hI hO hR.2.2) rfl hl.1 (Nat.le_of_ble_eq_true rfl) ⟨Nat.le_of_ble_eq_true rfl, Nat.le_of_ble_eq_true rfl⟩ ⟨(by show _ ≤ 601024; dsimp only [rmM, rmP]; omega), (by show _ ≤ 7293034; dsimp only [rmM, rmP]; omega)⟩ rfl dL_law_1753 (r_kr (fun r C1 ad1 H locs hQ hS => ?_))
  obtain ⟨rfl, ⟨L1, hI1⟩, ⟨f1, hO1, hv1⟩, hF1⟩ := hQ
  have e00 : ad 0 0 = ad1 0 0 := (hF1).2.symm
  have e30 : ad 30 0 = ad1 30 0 := ((hF1).1 30 0 (by decide)).1.symm
  have e46 : ad 46 0 = ad1 46 0 := ((hF1).1 46 0 (by decide)).1.symm
  rw [e00, e30, e46] at hl
  have hM1 := mC_o hM hF1
  rw [← hM1] at hS
  have hle := sSwap_le (T := T)
  have hle : (sSwap T).1 ≤ 3 := Nat.le_trans hle (by decide)
  refine lv_istore (lv' := [(5, .int (nI (sSwap T).1)), (4, .int (nI (4 * j))), (3, .ref (ad1 46 0)), (2, .ref (ad1 30 0)), (1, .ref (ad1 0 0)), (0, .ref b)]) hx hb dL_law_1756 hl (by decide) rfl (fun ls hl => ?_)
  refine lv_aload_n hx hb dL_law_1758 rfl (lv_at hl 3 rfl) ?_
  refine cl_L_201 hx hb hml hown hK hZ hS hA (c_X5_swap hN) mC_30 rfl hl.1 (Nat.le_of_ble_eq_true rfl) ⟨Nat.le_of_ble_eq_true rfl, Nat.le_of_ble_eq_true rfl⟩ ⟨(by show _ ≤ 601024; dsimp only [rmM, rmP]; omega), (by show _ ≤ 7293034; dsimp only [rmM, rmP]; omega)⟩ rfl dL_law_1759 (r_kr (fun r C2 ad2 H locs hQ hS => ?_))
  obtain ⟨rfl, ⟨rg2, rfl⟩, rfl⟩ := hQ
  refine lv_istore (lv' := [(6, .int (if (sSwap T).1 = 0 then (sSwap T).2.1 else nI 0)), (5, .int (nI (sSwap T).1)), (4, .int (nI (4 * j))), (3, .ref (ad1 46 0)), (2, .ref (ad1 30 0)), (1, .ref (ad1 0 0)), (0, .ref b)]) hx hb dL_law_1762 hl (by decide) rfl (fun ls hl => ?_)
  refine lv_aload_n hx hb dL_law_1764 rfl (lv_at hl 4 rfl) ?_
  refine cl_L_112 hx hb hml hown hK hZ hS hA c_X5_thrown mC_30 rfl hl.1 (Nat.le_of_ble_eq_true rfl) ⟨Nat.le_of_ble_eq_true rfl, Nat.le_of_ble_eq_true rfl⟩ ⟨(by show _ ≤ 601024; dsimp only [rmM, rmP]; omega), (by show _ ≤ 7293034; dsimp only [rmM, rmP]; omega)⟩ rfl dL_law_1765 (r_kp (fun H locs hS => ?_))
  refine lv_iload hx hb dL_law_1768 (lv_at hl 1 rfl) ?_
  refine lv_icmp_eq (tgt := 1775) hx hb dL_law_1770 (by decide) (fun q1770 => ?_) (fun q1770 => absurd rfl q1770)
  refine lv_iload hx hb dL_law_1775 (lv_at hl 1 rfl) ?_
  refine r_if_ne (a := (sSwap T).1) (tgt := 1792) hx hb (by omega) dL_law_1777 (by decide) (fun q0 => ?_) (fun q0 => ?_)
  · -- T
    refine lv_goto (tgt := 1889) hx hb dL_law_1792 (by decide) ?_
    exact W.widen (by dsimp only [rmM, rmP]; omega) (by dsimp only [rmM, rmP]; omega) (next _ _ _ _ _ _ ⟨⟨_, (hI1).fr (fun k i hk => ⟨mC_n (Or.inl (by omega)), rfl⟩)⟩, rst_swap hR, ⟨_, _, mC_id⟩, ⟨f1, (mC_n (Or.inr (Or.inl (by decide)))).trans hO1⟩, hS, lv_sub hl [2, 3, 4, 5, 6] rfl⟩)
  · -- F
    refine lv_aload_n hx hb dL_law_1780 rfl (lv_at hl 3 rfl) ?_
    refine lv_iconst (v := nI 0) hx hb dL_law_1781 (by decide) ?_
    refine r_lald hx hb hK.1 hS 1 ((mC_n (Or.inr (Or.inl (by decide)))).trans hO1) rfl (nI_in0 (by omega) (by omega)) (v := f1 0) (by rw [nI_clamp (by omega)]) dL_law_1782 ?_
    refine lv_iload hx hb dL_law_1783 (lv_at hl 0 rfl) ?_
    refine lv_i2l (v := (if (sSwap T).1 = 0 then (sSwap T).2.1 else nI 0).toInt64) hx hb dL_law_1785 rfl ?_
    refine W.lcmp hx hb dL_law_1786 ?_
    refine r_top (y := nI 0) (by rw [hv1 q0, if_pos q0]; exact lg_refl _) ?_
    refine r_if_eq (a := 0) (tgt := 1792) hx hb (by decide) dL_law_1787 (by decide) (fun q1787 => ?_) (fun q1787 => absurd rfl q1787)
    refine lv_goto (tgt := 1889) hx hb dL_law_1792 (by decide) ?_
    exact W.widen (by dsimp only [rmM, rmP]; omega) (by dsimp only [rmM, rmP]; omega) (next _ _ _ _ _ _ ⟨⟨_, (hI1).fr (fun k i hk => ⟨mC_n (Or.inl (by omega)), rfl⟩)⟩, rst_swap hR, ⟨_, _, mC_id⟩, ⟨f1, (mC_n (Or.inr (Or.inl (by decide)))).trans hO1⟩, hS, lv_sub hl [2, 3, 4, 5, 6] rfl⟩)

set_option maxHeartbeats 4000000 in
set_option maxRecDepth 100000 in
theorem law_28 {p : Program} {l : Launch} {e : Env} {s : State} {m : MethodId} {below : List Frame} {meth : Method} {c : Code} {Q : State → Prop} {G : rG} {b L j : Nat} {xs : Nat → Int32} (hh : lwH G p l s m c b L xs) (hj : 4 * j + 4 ≤ L) {T : rTab} {C : rC} {ad : rA} {H : Heap} {locs : List Loc} {ls : Array Slot} (hs : lwS G s b j T C ad H locs ls) (next : ∀ (T' : rTab) (C' : rC) (ad' : rA) (H' : Heap) (locs' : List Loc) (ls' : Array Slot), lwS G s b j T' C' ad' H' locs' ls' → W p l e room_1 s m #[Value.ref b] below meth c H' locs' (100 + 150 * (j + 1)) (2000 + 6300 * (j + 1)) Q (F0 m 1889 ls' [])) : W p l e room_1 s m #[Value.ref b] below meth c H locs (100 + 150 * j) (2000 + 6300 * j) Q (F0 m 1795 ls []) := by
  obtain ⟨hx, hb, hml, hown, hK, hZ, hX, hbl, hlt, hL⟩ := hh
  obtain ⟨⟨L0, hI⟩, hR, ⟨th, rg, hM⟩, ⟨f, hO⟩, hS, hl⟩ := hs
  have hN := mNu_of hI hR
  have hnC := hN.hC
  have hnS := hN.hS
  have hA : ∀ q : Nat, s.heap.size ≤ q → (fun q => s.heap.size ≤ q) q := fun _ h => h
  have hbA : ¬ (fun q => s.heap.size ≤ q) b := Nat.not_le.mpr hbl
  refine lv_aload_n hx hb dL_law_1795 rfl (lv_at hl 3 rfl) ?_
  refine cl_L_202 hx hb hml hown hK hZ hS hA (c_X4_swaps hI) hI.reg rfl hl.1 (Nat.le_of_ble_eq_true rfl) ⟨Nat.le_of_ble_eq_true rfl, Nat.le_of_ble_eq_true rfl⟩ ⟨(by show _ ≤ 601024; dsimp only [rmM, rmP]; omega), (by show _ ≤ 7293034; dsimp only [rmM, rmP]; omega)⟩ rfl dL_law_1796 (r_kp (fun H locs hS => ?_))
  rw [← hM] at hS
  refine lv_aload_n hx hb dL_law_1799 rfl (lv_at hl 2 rfl) ?_
  refine cl_L_205 hx hb hml hown hK hZ hS hA (c_X5_swaps hN) mC_30 rfl hl.1 (Nat.le_of_ble_eq_true rfl) ⟨Nat.le_of_ble_eq_true rfl, Nat.le_of_ble_eq_true rfl⟩ ⟨(by show _ ≤ 601024; dsimp only [rmM, rmP]; omega), (by show _ ≤ 7293034; dsimp only [rmM, rmP]; omega)⟩ rfl dL_law_1800 (r_kr (fun r C2 ad2 H locs hQ hS => ?_))
  obtain ⟨rfl, rfl, rfl⟩ := hQ
  refine r_top (y := nI (nS T)) (if_pos rfl) ?_
  refine lv_icmp_eq (tgt := 1889) hx hb dL_law_1803 (by decide) (fun q1803 => ?_) (fun q1803 => absurd rfl q1803)
  exact W.widen (by dsimp only [rmM, rmP]; omega) (by dsimp only [rmM, rmP]; omega) (next _ _ _ _ _ _ ⟨⟨_, (hI).fr (fun k i hk => ⟨mC_n (Or.inl (by omega)), rfl⟩)⟩, hR, ⟨_, _, mC_id⟩, ⟨f, (mC_n (Or.inr (Or.inl (by decide)))).trans hO⟩, hS, lv_sub hl [0, 1, 2, 3, 4] rfl⟩)

set_option maxHeartbeats 4000000 in
set_option maxRecDepth 100000 in
theorem law_29 {p : Program} {l : Launch} {e : Env} {s : State} {m : MethodId} {below : List Frame} {meth : Method} {c : Code} {Q : State → Prop} {G : rG} {b L j : Nat} {xs : Nat → Int32} (hh : lwH G p l s m c b L xs) (hj : 4 * j + 4 ≤ L) {T : rTab} {C : rC} {ad : rA} {H : Heap} {locs : List Loc} {ls : Array Slot} (hs : lwS G s b j T C ad H locs ls) (next : ∀ (T' : rTab) (C' : rC) (ad' : rA) (H' : Heap) (locs' : List Loc) (ls' : Array Slot), lwS G s b j T' C' ad' H' locs' ls' → W p l e room_1 s m #[Value.ref b] below meth c H' locs' (100 + 150 * (j + 1)) (2000 + 6300 * (j + 1)) Q (F0 m 1889 ls' [])) : W p l e room_1 s m #[Value.ref b] below meth c H locs (100 + 150 * j) (2000 + 6300 * j) Q (F0 m 1808 ls []) := by
  obtain ⟨hx, hb, hml, hown, hK, hZ, hX, hbl, hlt, hL⟩ := hh
  obtain ⟨⟨L0, hI⟩, hR, ⟨th, rg, hM⟩, ⟨f, hO⟩, hS, hl⟩ := hs
  have hN := mNu_of hI hR
  have hnC := hN.hC
  have hnS := hN.hS
  have hA : ∀ q : Nat, s.heap.size ≤ q → (fun q => s.heap.size ≤ q) q := fun _ h => h
  have hbA : ¬ (fun q => s.heap.size ≤ q) b := Nat.not_le.mpr hbl
  obtain ⟨x1, hx1⟩ : ∃ z, z = xs (nI (4 * j + 1)).toNatClampNeg := ⟨_, rfl⟩
  obtain ⟨x2, hx2⟩ : ∃ z, z = xs (nI (4 * j + 2)).toNatClampNeg := ⟨_, rfl⟩
  refine lv_aload_n hx hb dL_law_1808 rfl (lv_at hl 3 rfl) ?_
  refine lv_aload_n hx hb dL_law_1809 rfl (lv_at hl 4 rfl) ?_
  refine lv_iload hx hb dL_law_1810 (lv_at hl 0 rfl) ?_
  refine lv_iconst (v := nI 1) hx hb dL_law_1812 (by decide) ?_
  refine lv_iadd hx hb dL_law_1813 ?_
  refine r_top (nI_add _ _) ?_
  refine va_sld hx hb hX hbl hbA hS.2.2 (nI_in0 (by omega) (by omega)) dL_law_1814 ?_
  refine r_top (y := x1) hx1.symm ?_
  refine lv_aload_n hx hb dL_law_1815 rfl (lv_at hl 4 rfl) ?_
  refine lv_iload hx hb dL_law_1816 (lv_at hl 0 rfl) ?_
  refine lv_iconst (v := nI 2) hx hb dL_law_1818 (by decide) ?_
  refine lv_iadd hx hb dL_law_1819 ?_
  refine r_top (nI_add _ _) ?_
  refine va_sld hx hb hX hbl hbA hS.2.2 (nI_in0 (by omega) (by omega)) dL_law_1820 ?_
  refine r_top (y := x2) hx2.symm ?_
  refine lv_aload_n hx hb dL_law_1821 rfl (lv_at hl 1 rfl) ?_
  refine cl_L_206 hx hb hml hown hK hZ hS hA (c_L_swapAt hlt hI hO x1 x2) rfl hl.1 (Nat.le_of_ble_eq_true rfl) ⟨Nat.le_of_ble_eq_true rfl, Nat.le_of_ble_eq_true rfl⟩ ⟨(by show _ ≤ 601024; dsimp only [rmM, rmP]; omega), (by show _ ≤ 7293034; dsimp only [rmM, rmP]; omega)⟩ rfl dL_law_1822 (r_kr (fun r C1 ad1 H locs hQ hS => ?_))
  obtain ⟨rfl, ⟨L1, hI1⟩, ⟨f1, hO1, hv1⟩, hF1⟩ := hQ
  have e00 : ad 0 0 = ad1 0 0 := (hF1).2.symm
  have e30 : ad 30 0 = ad1 30 0 := ((hF1).1 30 0 (by decide)).1.symm
  have e46 : ad 46 0 = ad1 46 0 := ((hF1).1 46 0 (by decide)).1.symm
  rw [e00, e30, e46] at hl
  have hM1 := mC_o hM hF1
  rw [← hM1] at hS
  have hle := swapQ_le (T := T) (a := x1) (b := x2)
  have hle : (qS T (swapQ T x1 x2)).1 ≤ 3 := Nat.le_trans hle (by decide)
  refine lv_istore (lv' := [(5, .int (nI (qS T (swapQ T x1 x2)).1)), (4, .int (nI (4 * j))), (3, .ref (ad1 46 0)), (2, .ref (ad1 30 0)), (1, .ref (ad1 0 0)), (0, .ref b)]) hx hb dL_law_1825 hl (by decide) rfl (fun ls hl => ?_)
  refine lv_aload_n hx hb dL_law_1827 rfl (lv_at hl 3 rfl) ?_
  refine lv_aload_n hx hb dL_law_1828 rfl (lv_at hl 5 rfl) ?_
  refine lv_iload hx hb dL_law_1829 (lv_at hl 1 rfl) ?_
  refine lv_iconst (v := nI 1) hx hb dL_law_1831 (by decide) ?_
  refine lv_iadd hx hb dL_law_1832 ?_
  refine r_top (nI_add _ _) ?_
  refine va_sld hx hb hX hbl hbA hS.2.2 (nI_in0 (by omega) (by omega)) dL_law_1833 ?_
  refine r_top (y := x1) hx1.symm ?_
  refine lv_aload_n hx hb dL_law_1834 rfl (lv_at hl 5 rfl) ?_
  refine lv_iload hx hb dL_law_1835 (lv_at hl 1 rfl) ?_
  refine lv_iconst (v := nI 2) hx hb dL_law_1837 (by decide) ?_
  refine lv_iadd hx hb dL_law_1838 ?_
  refine r_top (nI_add _ _) ?_
  refine va_sld hx hb hX hbl hbA hS.2.2 (nI_in0 (by omega) (by omega)) dL_law_1839 ?_
  refine r_top (y := x2) hx2.symm ?_
  refine cl_L_208 hx hb hml hown hK hZ hS hA (c_X5_swapAt hN x1 x2) mC_30 rfl hl.1 (Nat.le_of_ble_eq_true rfl) ⟨Nat.le_of_ble_eq_true rfl, Nat.le_of_ble_eq_true rfl⟩ ⟨(by show _ ≤ 601024; dsimp only [rmM, rmP]; omega), (by show _ ≤ 7293034; dsimp only [rmM, rmP]; omega)⟩ rfl dL_law_1840 (r_kr (fun r C2 ad2 H locs hQ hS => ?_))
  obtain ⟨rfl, rfl, rfl⟩ := hQ
  refine lv_istore (lv' := [(6, .int (if (qS T (swapQ T x1 x2)).1 = 0 then (qS T (swapQ T x1 x2)).2.1 else nI 0)), (5, .int (nI (qS T (swapQ T x1 x2)).1)), (4, .int (nI (4 * j))), (3, .ref (ad1 46 0)), (2, .ref (ad1 30 0)), (1, .ref (ad1 0 0)), (0, .ref b)]) hx hb dL_law_1843 hl (by decide) rfl (fun ls hl => ?_)
  refine lv_aload_n hx hb dL_law_1845 rfl (lv_at hl 4 rfl) ?_
  refine cl_L_112 hx hb hml hown hK hZ hS hA c_X5_thrown mC_30 rfl hl.1 (Nat.le_of_ble_eq_true rfl) ⟨Nat.le_of_ble_eq_true rfl, Nat.le_of_ble_eq_true rfl⟩ ⟨(by show _ ≤ 601024; dsimp only [rmM, rmP]; omega), (by show _ ≤ 7293034; dsimp only [rmM, rmP]; omega)⟩ rfl dL_law_1846 (r_kp (fun H locs hS => ?_))
  refine lv_iload hx hb dL_law_1849 (lv_at hl 1 rfl) ?_
  refine lv_icmp_eq (tgt := 1856) hx hb dL_law_1851 (by decide) (fun q1851 => ?_) (fun q1851 => absurd rfl q1851)
  refine lv_iload hx hb dL_law_1856 (lv_at hl 1 rfl) ?_
  refine r_if_ne (a := (qS T (swapQ T x1 x2)).1) (tgt := 1873) hx hb (by omega) dL_law_1858 (by decide) (fun q0 => ?_) (fun q0 => ?_)
  · -- T
    refine lv_goto (tgt := 1889) hx hb dL_law_1873 (by decide) ?_
    exact W.widen (by dsimp only [rmM, rmP]; omega) (by dsimp only [rmM, rmP]; omega) (next _ _ _ _ _ _ ⟨⟨_, (hI1).fr (fun k i hk => ⟨mC_n (Or.inl (by omega)), rfl⟩)⟩, (show rst (qS T (swapQ T x1 x2)).2.2 from hR), ⟨_, _, mC_id⟩, ⟨f1, (mC_n (Or.inr (Or.inl (by decide)))).trans hO1⟩, hS, lv_sub hl [2, 3, 4, 5, 6] rfl⟩)
  · -- F
    refine lv_aload_n hx hb dL_law_1861 rfl (lv_at hl 3 rfl) ?_
    refine lv_iconst (v := nI 0) hx hb dL_law_1862 (by decide) ?_
    refine r_lald hx hb hK.1 hS 1 ((mC_n (Or.inr (Or.inl (by decide)))).trans hO1) rfl (nI_in0 (by omega) (by omega)) (v := f1 0) (by rw [nI_clamp (by omega)]) dL_law_1863 ?_
    refine lv_iload hx hb dL_law_1864 (lv_at hl 0 rfl) ?_
    refine lv_i2l (v := (if (qS T (swapQ T x1 x2)).1 = 0 then (qS T (swapQ T x1 x2)).2.1 else nI 0).toInt64) hx hb dL_law_1866 rfl ?_
    refine W.lcmp hx hb dL_law_1867 ?_
    refine r_top (y := nI 0) (by rw [hv1 q0, if_pos q0]; exact lg_refl _) ?_
    refine r_if_eq (a := 0) (tgt := 1873) hx hb (by decide) dL_law_1868 (by decide) (fun q1868 => ?_) (fun q1868 => absurd rfl q1868)
    refine lv_goto (tgt := 1889) hx hb dL_law_1873 (by decide) ?_
    exact W.widen (by dsimp only [rmM, rmP]; omega) (by dsimp only [rmM, rmP]; omega) (next _ _ _ _ _ _ ⟨⟨_, (hI1).fr (fun k i hk => ⟨mC_n (Or.inl (by omega)), rfl⟩)⟩, (show rst (qS T (swapQ T x1 x2)).2.2 from hR), ⟨_, _, mC_id⟩, ⟨f1, (mC_n (Or.inr (Or.inl (by decide)))).trans hO1⟩, hS, lv_sub hl [2, 3, 4, 5, 6] rfl⟩)

set_option maxHeartbeats 4000000 in
set_option maxRecDepth 100000 in
theorem law_30 {p : Program} {l : Launch} {e : Env} {s : State} {m : MethodId} {below : List Frame} {meth : Method} {c : Code} {Q : State → Prop} {G : rG} {b L j : Nat} {xs : Nat → Int32} (hh : lwH G p l s m c b L xs) (hj : 4 * j + 4 ≤ L) {T : rTab} {C : rC} {ad : rA} {H : Heap} {locs : List Loc} {ls : Array Slot} (hs : lwS G s b j T C ad H locs ls) (next : ∀ (T' : rTab) (C' : rC) (ad' : rA) (H' : Heap) (locs' : List Loc) (ls' : Array Slot), lwS G s b j T' C' ad' H' locs' ls' → W p l e room_1 s m #[Value.ref b] below meth c H' locs' (100 + 150 * (j + 1)) (2000 + 6300 * (j + 1)) Q (F0 m 1889 ls' [])) : W p l e room_1 s m #[Value.ref b] below meth c H locs (100 + 150 * j) (2000 + 6300 * j) Q (F0 m 1876 ls []) := by
  obtain ⟨hx, hb, hml, hown, hK, hZ, hX, hbl, hlt, hL⟩ := hh
  obtain ⟨⟨L0, hI⟩, hR, ⟨th, rg, hM⟩, ⟨f, hO⟩, hS, hl⟩ := hs
  have hN := mNu_of hI hR
  have hnC := hN.hC
  have hnS := hN.hS
  have hA : ∀ q : Nat, s.heap.size ≤ q → (fun q => s.heap.size ≤ q) q := fun _ h => h
  have hbA : ¬ (fun q => s.heap.size ≤ q) b := Nat.not_le.mpr hbl
  refine lv_aload_n hx hb dL_law_1876 rfl (lv_at hl 3 rfl) ?_
  refine cl_L_209 hx hb hml hown hK hZ hS hA (c_X4_spoiled hI) hI.reg rfl hl.1 (Nat.le_of_ble_eq_true rfl) ⟨Nat.le_of_ble_eq_true rfl, Nat.le_of_ble_eq_true rfl⟩ ⟨(by show _ ≤ 601024; dsimp only [rmM, rmP]; omega), (by show _ ≤ 7293034; dsimp only [rmM, rmP]; omega)⟩ rfl dL_law_1877 (r_kp (fun H locs hS => ?_))
  rw [← hM] at hS
  refine lv_aload_n hx hb dL_law_1880 rfl (lv_at hl 2 rfl) ?_
  refine cl_L_212 hx hb hml hown hK hZ hS hA (c_X5_spoiled hN) mC_30 rfl hl.1 (Nat.le_of_ble_eq_true rfl) ⟨Nat.le_of_ble_eq_true rfl, Nat.le_of_ble_eq_true rfl⟩ ⟨(by show _ ≤ 601024; dsimp only [rmM, rmP]; omega), (by show _ ≤ 7293034; dsimp only [rmM, rmP]; omega)⟩ rfl dL_law_1881 (r_kr (fun r C2 ad2 H locs hQ hS => ?_))
  obtain ⟨rfl, rfl, rfl⟩ := hQ
  refine r_top (y := nI (cntB (falsS T) (nS T))) (if_pos rfl) ?_
  refine lv_icmp_eq (tgt := 1889) hx hb dL_law_1884 (by decide) (fun q1884 => ?_) (fun q1884 => absurd rfl q1884)
  exact W.widen (by dsimp only [rmM, rmP]; omega) (by dsimp only [rmM, rmP]; omega) (next _ _ _ _ _ _ ⟨⟨_, (hI).fr (fun k i hk => ⟨mC_n (Or.inl (by omega)), rfl⟩)⟩, hR, ⟨_, _, mC_id⟩, ⟨f, (mC_n (Or.inr (Or.inl (by decide)))).trans hO⟩, hS, lv_sub hl [0, 1, 2, 3, 4] rfl⟩)

