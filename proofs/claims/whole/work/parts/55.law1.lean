/-! the law's wrappers, walked (printed by wip/whole/gen/law1.py) -/
set_option maxHeartbeats 4000000 in
set_option maxRecDepth 100000 in
theorem c_L_addDie {G : rG} {l : Launch} {T : rTab} {L : rL} {C : rC} {ad : rA} {f : Nat → Int64} (hlt : l.stackTraces = false) (hI : cInv G T L C ad) (hO : C 46 0 = some (oA G f)) (a : Int32) : rMetH G l yL_addDie cL_addDie 4 (some .int) [(0, 9, 12, 13), (0, 9, 15, 15)] (rmM 14 3 50) [.ref (ad 0 0), .int a, .ref (ad 46 0)] C ad (rRet (lP G (sAddDie T a) C ad)) := by
  refine rMetH.of (by decide) ?_
  intro p e s m below meth c hx hb hml hr hlocks hown hname hK hZ hS htb
  have hown : s.vm.findClass RL = some m.cls := hown
  have hA : ∀ q : Nat, s.heap.size ≤ q → (rF C ad s.heap.size) q := rF.new
  refine r_entry _ (Nat.le_of_ble_eq_true rfl) (fun ls hl => ?_)
  have hl : lv_has ls 4 [(0, .ref (ad 0 0)), (1, .int a), (2, .ref (ad 46 0))] := hl
  refine lv_aload_n hx hb dL_addDie_0 rfl (lv_at hl 2 rfl) ?_
  refine lv_iconst (v := nI 0) hx hb dL_addDie_1 (by decide) ?_
  refine lv_aload_n hx hb dL_addDie_2 rfl (lv_at hl 0 rfl) ?_
  refine lv_iload_n hx hb dL_addDie_3 rfl (lv_at hl 1 rfl) ?_
  refine cl_L_7 hx hb hml hown hK hZ hS hA (c_X4_addDie hlt hI a) hI.reg rfl hl.1 (Nat.le_of_ble_eq_true rfl) ⟨Nat.le_of_ble_eq_true rfl, Nat.le_of_ble_eq_true rfl⟩ ⟨Nat.le_of_ble_eq_true rfl, Nat.le_of_ble_eq_true rfl⟩ rfl dL_addDie_4 ?_ (r_kr (fun r C9 ad9 H locs hQ hS => ?_))
  · -- thrown
    intro E ce q9 C9 ad9 H locs hX9 hS hce hcv hcl
    obtain ⟨⟨hne, rfl⟩, L9, hI9, hF9⟩ := hX9
    have hle : (sAddDie T a).1 ≤ 2 := sAddDie_le (T := T) (a := a)
    by_cases h1 : (sAddDie T a).1 = 1
    · -- caught
      have hce1 : ec2 (sAddDie T a).1 = "java/lang/IndexOutOfBoundsException" := by rw [h1]; rfl
      rw [hce1] at hcl
      refine vx_catch (name := "java/lang/IndexOutOfBoundsException") hown [] ⟨0, 9, 12, 13⟩ [⟨0, 9, 15, 15⟩] htb (fun z hz => absurd hz List.not_mem_nil) rfl (by decide) (lk_IOB hK) (cs_IOB hK) hce hcv hcl ?_
      refine lv_astore_n (lv' := [(3, .ref q9), (0, .ref (ad 0 0)), (1, .int a), (2, .ref (ad 46 0))]) hx hb dL_addDie_12 rfl hl (by decide) rfl (fun ls hl => ?_)
      refine lv_iconst (v := nI 1) hx hb dL_addDie_13 (by decide) ?_
      exact r_iret hx hb hr hlocks hS ⟨_, rfl, by rw [h1], ⟨L9, hI9⟩, ⟨f, ((hF9.1 46 0 (by decide)).1).trans hO, fun z => absurd z hne⟩, hF9.o⟩ (Nat.le_of_ble_eq_true rfl) (Nat.le_of_ble_eq_true rfl) dL_addDie_14
    have h2 : (sAddDie T a).1 = 2 := by omega
    have hce1 : ec2 (sAddDie T a).1 = "java/lang/IllegalStateException" := by rw [h2]; rfl
    rw [hce1] at hcl
    refine vx_catch (name := "java/lang/IllegalStateException") hown [⟨0, 9, 12, 13⟩] ⟨0, 9, 15, 15⟩ [] htb (fun z hz => by rw [List.mem_singleton.mp hz]; exact Or.inr ⟨by decide, _, lk_IOB hK, nc_ISE_IOB hK⟩) rfl (by decide) (lk_ISE hK) (cs_ISE hK) hce hcv hcl ?_
    refine lv_astore_n (lv' := [(3, .ref q9), (0, .ref (ad 0 0)), (1, .int a), (2, .ref (ad 46 0))]) hx hb dL_addDie_15 rfl hl (by decide) rfl (fun ls hl => ?_)
    refine lv_iconst (v := nI 2) hx hb dL_addDie_16 (by decide) ?_
    exact r_iret hx hb hr hlocks hS ⟨_, rfl, by rw [h2], ⟨L9, hI9⟩, ⟨f, ((hF9.1 46 0 (by decide)).1).trans hO, fun z => absurd z hne⟩, hF9.o⟩ (Nat.le_of_ble_eq_true rfl) (Nat.le_of_ble_eq_true rfl) dL_addDie_17
  obtain ⟨⟨h0, rfl⟩, L9, hI9, hF9⟩ := hQ
  have e460 : ad 46 0 = ad9 46 0 := ((hF9.1 46 0 (by decide)).2).symm
  rw [e460]
  refine lv_i2l (v := ((sAddDie T a).2.1).toInt64) hx hb dL_addDie_7 rfl ?_
  refine r_last hx hb hK.1 hS 1 (((hF9.1 46 0 (by decide)).1).trans hO) rfl (nI_in0 (by omega) (by omega)) (f' := vp_updL f 0 (((sAddDie T a).2.1).toInt64)) (by rw [nI_clamp (by omega)]) dL_addDie_8 (fun H locs hS => ?_)
  refine lv_goto (tgt := 18) hx hb dL_addDie_9 (by decide) ?_
  refine lv_iconst (v := nI 0) hx hb dL_addDie_18 (by decide) ?_
  exact r_iret hx hb hr hlocks hS ⟨_, rfl, by rw [h0], ⟨L9, hI9.fr (fun k i hk => ⟨ru_n (fun z => by omega), rfl⟩)⟩, ⟨_, ru_e, fun _ => pk_uLs⟩, hF9.o2⟩ (Nat.le_of_ble_eq_true rfl) (Nat.le_of_ble_eq_true rfl) dL_addDie_19

set_option maxHeartbeats 4000000 in
set_option maxRecDepth 100000 in
theorem c_L_crack {G : rG} {l : Launch} {T : rTab} {L : rL} {C : rC} {ad : rA} {f : Nat → Int64} (hlt : l.stackTraces = false) (hI : cInv G T L C ad) (hO : C 46 0 = some (oA G f)) (a : Int32) (b : Int32) : rMetH G l yL_crack cL_crack 5 (some .int) [(0, 10, 13, 13), (0, 10, 17, 21), (0, 10, 21, 15)] (rmM 14 2 12) [.ref (ad 0 0), .int a, .int b, .ref (ad 46 0)] C ad (rRet (lP G (sCrack T a b) C ad)) := by
  refine rMetH.of (by decide) ?_
  intro p e s m below meth c hx hb hml hr hlocks hown hname hK hZ hS htb
  have hown : s.vm.findClass RL = some m.cls := hown
  have hA : ∀ q : Nat, s.heap.size ≤ q → (rF C ad s.heap.size) q := rF.new
  refine r_entry _ (Nat.le_of_ble_eq_true rfl) (fun ls hl => ?_)
  have hl : lv_has ls 5 [(0, .ref (ad 0 0)), (1, .int a), (2, .int b), (3, .ref (ad 46 0))] := hl
  refine lv_aload_n hx hb dL_crack_0 rfl (lv_at hl 3 rfl) ?_
  refine lv_iconst (v := nI 0) hx hb dL_crack_1 (by decide) ?_
  refine lv_aload_n hx hb dL_crack_2 rfl (lv_at hl 0 rfl) ?_
  refine lv_iload_n hx hb dL_crack_3 rfl (lv_at hl 1 rfl) ?_
  refine lv_iload_n hx hb dL_crack_4 rfl (lv_at hl 2 rfl) ?_
  refine cl_L_17 hx hb hml hown hK hZ hS hA (c_X4_crack hlt hI a b) hI.reg rfl hl.1 (Nat.le_of_ble_eq_true rfl) ⟨Nat.le_of_ble_eq_true rfl, Nat.le_of_ble_eq_true rfl⟩ ⟨Nat.le_of_ble_eq_true rfl, Nat.le_of_ble_eq_true rfl⟩ rfl dL_crack_5 ?_ (r_kr (fun r C9 ad9 H locs hQ hS => ?_))
  · -- thrown
    intro E ce q9 C9 ad9 H locs hX9 hS hce hcv hcl
    obtain ⟨⟨hne, rfl⟩, L9, hI9, hF9⟩ := hX9
    have hle : (sCrack T a b).1 ≤ 3 := sCrack_le (T := T) (a := a) (b := b)
    by_cases h1 : (sCrack T a b).1 = 1
    · -- caught
      have hce1 : ec3 (sCrack T a b).1 = "java/lang/IndexOutOfBoundsException" := by rw [h1]; rfl
      rw [hce1] at hcl
      refine vx_catch (name := "java/lang/IndexOutOfBoundsException") hown [] ⟨0, 10, 13, 13⟩ [⟨0, 10, 17, 21⟩, ⟨0, 10, 21, 15⟩] htb (fun z hz => absurd hz List.not_mem_nil) rfl (by decide) (lk_IOB hK) (cs_IOB hK) hce hcv hcl ?_
      refine lv_astore (lv' := [(4, .ref q9), (0, .ref (ad 0 0)), (1, .int a), (2, .int b), (3, .ref (ad 46 0))]) hx hb dL_crack_13 hl (by decide) rfl (fun ls hl => ?_)
      refine lv_iconst (v := nI 1) hx hb dL_crack_15 (by decide) ?_
      exact r_iret hx hb hr hlocks hS ⟨_, rfl, by rw [h1], ⟨L9, hI9⟩, ⟨f, ((hF9.1 46 0 (by decide)).1).trans hO, fun z => absurd z hne⟩, hF9.o⟩ (Nat.le_of_ble_eq_true rfl) (Nat.le_of_ble_eq_true rfl) dL_crack_16
    by_cases h2 : (sCrack T a b).1 = 2
    · -- caught
      have hce1 : ec3 (sCrack T a b).1 = "java/lang/IllegalArgumentException" := by rw [h2]; rfl
      rw [hce1] at hcl
      refine vx_catch (name := "java/lang/IllegalArgumentException") hown [⟨0, 10, 13, 13⟩] ⟨0, 10, 17, 21⟩ [⟨0, 10, 21, 15⟩] htb (fun z hz => by rw [List.mem_singleton.mp hz]; exact Or.inr ⟨by decide, _, lk_IOB hK, nc_IAE_IOB hK⟩) rfl (by decide) (lk_IAE hK) (cs_IAE hK) hce hcv hcl ?_
      refine lv_astore (lv' := [(4, .ref q9), (0, .ref (ad 0 0)), (1, .int a), (2, .int b), (3, .ref (ad 46 0))]) hx hb dL_crack_17 hl (by decide) rfl (fun ls hl => ?_)
      refine lv_iconst (v := nI 2) hx hb dL_crack_19 (by decide) ?_
      exact r_iret hx hb hr hlocks hS ⟨_, rfl, by rw [h2], ⟨L9, hI9⟩, ⟨f, ((hF9.1 46 0 (by decide)).1).trans hO, fun z => absurd z hne⟩, hF9.o⟩ (Nat.le_of_ble_eq_true rfl) (Nat.le_of_ble_eq_true rfl) dL_crack_20
    have h3 : (sCrack T a b).1 = 3 := by omega
    have hce1 : ec3 (sCrack T a b).1 = "java/lang/IllegalStateException" := by rw [h3]; rfl
    rw [hce1] at hcl
    refine vx_catch (name := "java/lang/IllegalStateException") hown [⟨0, 10, 13, 13⟩, ⟨0, 10, 17, 21⟩] ⟨0, 10, 21, 15⟩ [] htb (fun z hz => by
        rcases List.mem_cons.mp hz with hz | hz
        · rw [hz]; exact Or.inr ⟨by decide, _, lk_IOB hK, nc_ISE_IOB hK⟩
        · rw [List.mem_singleton.mp hz]; exact Or.inr ⟨by decide, _, lk_IAE hK, nc_ISE_IAE hK⟩) rfl (by decide) (lk_ISE hK) (cs_ISE hK) hce hcv hcl ?_
    refine lv_astore (lv' := [(4, .ref q9), (0, .ref (ad 0 0)), (1, .int a), (2, .int b), (3, .ref (ad 46 0))]) hx hb dL_crack_21 hl (by decide) rfl (fun ls hl => ?_)
    refine lv_iconst (v := nI 3) hx hb dL_crack_23 (by decide) ?_
    exact r_iret hx hb hr hlocks hS ⟨_, rfl, by rw [h3], ⟨L9, hI9⟩, ⟨f, ((hF9.1 46 0 (by decide)).1).trans hO, fun z => absurd z hne⟩, hF9.o⟩ (Nat.le_of_ble_eq_true rfl) (Nat.le_of_ble_eq_true rfl) dL_crack_24
  obtain ⟨⟨h0, rfl⟩, L9, hI9, hF9⟩ := hQ
  have e460 : ad 46 0 = ad9 46 0 := ((hF9.1 46 0 (by decide)).2).symm
  rw [e460]
  refine lv_i2l (v := ((sCrack T a b).2.1).toInt64) hx hb dL_crack_8 rfl ?_
  refine r_last hx hb hK.1 hS 1 (((hF9.1 46 0 (by decide)).1).trans hO) rfl (nI_in0 (by omega) (by omega)) (f' := vp_updL f 0 (((sCrack T a b).2.1).toInt64)) (by rw [nI_clamp (by omega)]) dL_crack_9 (fun H locs hS => ?_)
  refine lv_goto (tgt := 25) hx hb dL_crack_10 (by decide) ?_
  refine lv_iconst (v := nI 0) hx hb dL_crack_25 (by decide) ?_
  exact r_iret hx hb hr hlocks hS ⟨_, rfl, by rw [h0], ⟨L9, hI9.fr (fun k i hk => ⟨ru_n (fun z => by omega), rfl⟩)⟩, ⟨_, ru_e, fun _ => pk_uLs⟩, hF9.o2⟩ (Nat.le_of_ble_eq_true rfl) (Nat.le_of_ble_eq_true rfl) dL_crack_26

set_option maxHeartbeats 4000000 in
set_option maxRecDepth 100000 in
theorem c_L_strike {G : rG} {l : Launch} {T : rTab} {L : rL} {C : rC} {ad : rA} {f : Nat → Int64} (hlt : l.stackTraces = false) (hI : cInv G T L C ad) (hO : C 46 0 = some (oA G f)) (a : Int32) (b : Int32) : rMetH G l yL_strike cL_strike 5 (some .int) [(0, 10, 13, 13), (0, 10, 17, 21), (0, 10, 21, 15)] (rmM 14 62 6240) [.ref (ad 0 0), .int a, .int b, .ref (ad 46 0)] C ad (rRet (lP G (sStrike T a b) C ad)) := by
  refine rMetH.of (by decide) ?_
  intro p e s m below meth c hx hb hml hr hlocks hown hname hK hZ hS htb
  have hown : s.vm.findClass RL = some m.cls := hown
  have hA : ∀ q : Nat, s.heap.size ≤ q → (rF C ad s.heap.size) q := rF.new
  refine r_entry _ (Nat.le_of_ble_eq_true rfl) (fun ls hl => ?_)
  have hl : lv_has ls 5 [(0, .ref (ad 0 0)), (1, .int a), (2, .int b), (3, .ref (ad 46 0))] := hl
  refine lv_aload_n hx hb dL_strike_0 rfl (lv_at hl 3 rfl) ?_
  refine lv_iconst (v := nI 0) hx hb dL_strike_1 (by decide) ?_
  refine lv_aload_n hx hb dL_strike_2 rfl (lv_at hl 0 rfl) ?_
  refine lv_iload_n hx hb dL_strike_3 rfl (lv_at hl 1 rfl) ?_
  refine lv_iload_n hx hb dL_strike_4 rfl (lv_at hl 2 rfl) ?_
  refine cl_L_23 hx hb hml hown hK hZ hS hA (c_X4_strike hlt hI a b) hI.reg rfl hl.1 (Nat.le_of_ble_eq_true rfl) ⟨Nat.le_of_ble_eq_true rfl, Nat.le_of_ble_eq_true rfl⟩ ⟨Nat.le_of_ble_eq_true rfl, Nat.le_of_ble_eq_true rfl⟩ rfl dL_strike_5 ?_ (r_kr (fun r C9 ad9 H locs hQ hS => ?_))
  · -- thrown
    intro E ce q9 C9 ad9 H locs hX9 hS hce hcv hcl
    obtain ⟨⟨hne, rfl⟩, L9, hI9, hF9⟩ := hX9
    have hle : (sStrike T a b).1 ≤ 3 := sStrike_le (T := T) (a := a) (b := b)
    by_cases h1 : (sStrike T a b).1 = 1
    · -- caught
      have hce1 : ec3 (sStrike T a b).1 = "java/lang/IndexOutOfBoundsException" := by rw [h1]; rfl
      rw [hce1] at hcl
      refine vx_catch (name := "java/lang/IndexOutOfBoundsException") hown [] ⟨0, 10, 13, 13⟩ [⟨0, 10, 17, 21⟩, ⟨0, 10, 21, 15⟩] htb (fun z hz => absurd hz List.not_mem_nil) rfl (by decide) (lk_IOB hK) (cs_IOB hK) hce hcv hcl ?_
      refine lv_astore (lv' := [(4, .ref q9), (0, .ref (ad 0 0)), (1, .int a), (2, .int b), (3, .ref (ad 46 0))]) hx hb dL_strike_13 hl (by decide) rfl (fun ls hl => ?_)
      refine lv_iconst (v := nI 1) hx hb dL_strike_15 (by decide) ?_
      exact r_iret hx hb hr hlocks hS ⟨_, rfl, by rw [h1], ⟨L9, hI9⟩, ⟨f, ((hF9.1 46 0 (by decide)).1).trans hO, fun z => absurd z hne⟩, hF9.o⟩ (Nat.le_of_ble_eq_true rfl) (Nat.le_of_ble_eq_true rfl) dL_strike_16
    by_cases h2 : (sStrike T a b).1 = 2
    · -- caught
      have hce1 : ec3 (sStrike T a b).1 = "java/lang/IllegalArgumentException" := by rw [h2]; rfl
      rw [hce1] at hcl
      refine vx_catch (name := "java/lang/IllegalArgumentException") hown [⟨0, 10, 13, 13⟩] ⟨0, 10, 17, 21⟩ [⟨0, 10, 21, 15⟩] htb (fun z hz => by rw [List.mem_singleton.mp hz]; exact Or.inr ⟨by decide, _, lk_IOB hK, nc_IAE_IOB hK⟩) rfl (by decide) (lk_IAE hK) (cs_IAE hK) hce hcv hcl ?_
      refine lv_astore (lv' := [(4, .ref q9), (0, .ref (ad 0 0)), (1, .int a), (2, .int b), (3, .ref (ad 46 0))]) hx hb dL_strike_17 hl (by decide) rfl (fun ls hl => ?_)
      refine lv_iconst (v := nI 2) hx hb dL_strike_19 (by decide) ?_
      exact r_iret hx hb hr hlocks hS ⟨_, rfl, by rw [h2], ⟨L9, hI9⟩, ⟨f, ((hF9.1 46 0 (by decide)).1).trans hO, fun z => absurd z hne⟩, hF9.o⟩ (Nat.le_of_ble_eq_true rfl) (Nat.le_of_ble_eq_true rfl) dL_strike_20
    have h3 : (sStrike T a b).1 = 3 := by omega
    have hce1 : ec3 (sStrike T a b).1 = "java/lang/IllegalStateException" := by rw [h3]; rfl
    rw [hce1] at hcl
    refine vx_catch (name := "java/lang/IllegalStateException") hown [⟨0, 10, 13, 13⟩, ⟨0, 10, 17, 21⟩] ⟨0, 10, 21, 15⟩ [] htb (fun z hz => by
        rcases List.mem_cons.mp hz with hz | hz
        · rw [hz]; exact Or.inr ⟨by decide, _, lk_IOB hK, nc_ISE_IOB hK⟩
        · rw [List.mem_singleton.mp hz]; exact Or.inr ⟨by decide, _, lk_IAE hK, nc_ISE_IAE hK⟩) rfl (by decide) (lk_ISE hK) (cs_ISE hK) hce hcv hcl ?_
    refine lv_astore (lv' := [(4, .ref q9), (0, .ref (ad 0 0)), (1, .int a), (2, .int b), (3, .ref (ad 46 0))]) hx hb dL_strike_21 hl (by decide) rfl (fun ls hl => ?_)
    refine lv_iconst (v := nI 3) hx hb dL_strike_23 (by decide) ?_
    exact r_iret hx hb hr hlocks hS ⟨_, rfl, by rw [h3], ⟨L9, hI9⟩, ⟨f, ((hF9.1 46 0 (by decide)).1).trans hO, fun z => absurd z hne⟩, hF9.o⟩ (Nat.le_of_ble_eq_true rfl) (Nat.le_of_ble_eq_true rfl) dL_strike_24
  obtain ⟨⟨h0, rfl⟩, L9, hI9, hF9⟩ := hQ
  have e460 : ad 46 0 = ad9 46 0 := ((hF9.1 46 0 (by decide)).2).symm
  rw [e460]
  refine lv_i2l (v := ((sStrike T a b).2.1).toInt64) hx hb dL_strike_8 rfl ?_
  refine r_last hx hb hK.1 hS 1 (((hF9.1 46 0 (by decide)).1).trans hO) rfl (nI_in0 (by omega) (by omega)) (f' := vp_updL f 0 (((sStrike T a b).2.1).toInt64)) (by rw [nI_clamp (by omega)]) dL_strike_9 (fun H locs hS => ?_)
  refine lv_goto (tgt := 25) hx hb dL_strike_10 (by decide) ?_
  refine lv_iconst (v := nI 0) hx hb dL_strike_25 (by decide) ?_
  exact r_iret hx hb hr hlocks hS ⟨_, rfl, by rw [h0], ⟨L9, hI9.fr (fun k i hk => ⟨ru_n (fun z => by omega), rfl⟩)⟩, ⟨_, ru_e, fun _ => pk_uLs⟩, hF9.o2⟩ (Nat.le_of_ble_eq_true rfl) (Nat.le_of_ble_eq_true rfl) dL_strike_26

set_option maxHeartbeats 4000000 in
set_option maxRecDepth 100000 in
theorem c_L_cast {G : rG} {l : Launch} {T : rTab} {L : rL} {C : rC} {ad : rA} {f : Nat → Int64} (hlt : l.stackTraces = false) (hI : cInv G T L C ad) (hO : C 46 0 = some (oA G f)) (a : Int32) : rMetH G l yL_cast cL_cast 4 (some .int) [(0, 9, 12, 13), (0, 9, 15, 15)] (rmM 14 4 56) [.ref (ad 0 0), .int a, .ref (ad 46 0)] C ad (rRet (lP G (sCast T a) C ad)) := by
  refine rMetH.of (by decide) ?_
  intro p e s m below meth c hx hb hml hr hlocks hown hname hK hZ hS htb
  have hown : s.vm.findClass RL = some m.cls := hown
  have hA : ∀ q : Nat, s.heap.size ≤ q → (rF C ad s.heap.size) q := rF.new
  refine r_entry _ (Nat.le_of_ble_eq_true rfl) (fun ls hl => ?_)
  have hl : lv_has ls 4 [(0, .ref (ad 0 0)), (1, .int a), (2, .ref (ad 46 0))] := hl
  refine lv_aload_n hx hb dL_cast_0 rfl (lv_at hl 2 rfl) ?_
  refine lv_iconst (v := nI 0) hx hb dL_cast_1 (by decide) ?_
  refine lv_aload_n hx hb dL_cast_2 rfl (lv_at hl 0 rfl) ?_
  refine lv_iload_n hx hb dL_cast_3 rfl (lv_at hl 1 rfl) ?_
  refine cl_L_26 hx hb hml hown hK hZ hS hA (c_X4_cast hlt hI a) hI.reg rfl hl.1 (Nat.le_of_ble_eq_true rfl) ⟨Nat.le_of_ble_eq_true rfl, Nat.le_of_ble_eq_true rfl⟩ ⟨Nat.le_of_ble_eq_true rfl, Nat.le_of_ble_eq_true rfl⟩ rfl dL_cast_4 ?_ (r_kr (fun r C9 ad9 H locs hQ hS => ?_))
  · -- thrown
    intro E ce q9 C9 ad9 H locs hX9 hS hce hcv hcl
    obtain ⟨⟨hne, rfl⟩, L9, hI9, hF9⟩ := hX9
    have hle : (sCast T a).1 ≤ 2 := sCast_le (T := T) (a := a)
    by_cases h1 : (sCast T a).1 = 1
    · -- caught
      have hce1 : ec2 (sCast T a).1 = "java/lang/IndexOutOfBoundsException" := by rw [h1]; rfl
      rw [hce1] at hcl
      refine vx_catch (name := "java/lang/IndexOutOfBoundsException") hown [] ⟨0, 9, 12, 13⟩ [⟨0, 9, 15, 15⟩] htb (fun z hz => absurd hz List.not_mem_nil) rfl (by decide) (lk_IOB hK) (cs_IOB hK) hce hcv hcl ?_
      refine lv_astore_n (lv' := [(3, .ref q9), (0, .ref (ad 0 0)), (1, .int a), (2, .ref (ad 46 0))]) hx hb dL_cast_12 rfl hl (by decide) rfl (fun ls hl => ?_)
      refine lv_iconst (v := nI 1) hx hb dL_cast_13 (by decide) ?_
      exact r_iret hx hb hr hlocks hS ⟨_, rfl, by rw [h1], ⟨L9, hI9⟩, ⟨f, ((hF9.1 46 0 (by decide)).1).trans hO, fun z => absurd z hne⟩, hF9.o⟩ (Nat.le_of_ble_eq_true rfl) (Nat.le_of_ble_eq_true rfl) dL_cast_14
    have h2 : (sCast T a).1 = 2 := by omega
    have hce1 : ec2 (sCast T a).1 = "java/lang/IllegalStateException" := by rw [h2]; rfl
    rw [hce1] at hcl
    refine vx_catch (name := "java/lang/IllegalStateException") hown [⟨0, 9, 12, 13⟩] ⟨0, 9, 15, 15⟩ [] htb (fun z hz => by rw [List.mem_singleton.mp hz]; exact Or.inr ⟨by decide, _, lk_IOB hK, nc_ISE_IOB hK⟩) rfl (by decide) (lk_ISE hK) (cs_ISE hK) hce hcv hcl ?_
    refine lv_astore_n (lv' := [(3, .ref q9), (0, .ref (ad 0 0)), (1, .int a), (2, .ref (ad 46 0))]) hx hb dL_cast_15 rfl hl (by decide) rfl (fun ls hl => ?_)
    refine lv_iconst (v := nI 2) hx hb dL_cast_16 (by decide) ?_
    exact r_iret hx hb hr hlocks hS ⟨_, rfl, by rw [h2], ⟨L9, hI9⟩, ⟨f, ((hF9.1 46 0 (by decide)).1).trans hO, fun z => absurd z hne⟩, hF9.o⟩ (Nat.le_of_ble_eq_true rfl) (Nat.le_of_ble_eq_true rfl) dL_cast_17
  obtain ⟨⟨h0, rfl⟩, L9, hI9, hF9⟩ := hQ
  have e460 : ad 46 0 = ad9 46 0 := ((hF9.1 46 0 (by decide)).2).symm
  rw [e460]
  refine lv_i2l (v := ((sCast T a).2.1).toInt64) hx hb dL_cast_7 rfl ?_
  refine r_last hx hb hK.1 hS 1 (((hF9.1 46 0 (by decide)).1).trans hO) rfl (nI_in0 (by omega) (by omega)) (f' := vp_updL f 0 (((sCast T a).2.1).toInt64)) (by rw [nI_clamp (by omega)]) dL_cast_8 (fun H locs hS => ?_)
  refine lv_goto (tgt := 18) hx hb dL_cast_9 (by decide) ?_
  refine lv_iconst (v := nI 0) hx hb dL_cast_18 (by decide) ?_
  exact r_iret hx hb hr hlocks hS ⟨_, rfl, by rw [h0], ⟨L9, hI9.fr (fun k i hk => ⟨ru_n (fun z => by omega), rfl⟩)⟩, ⟨_, ru_e, fun _ => pk_uLs⟩, hF9.o2⟩ (Nat.le_of_ble_eq_true rfl) (Nat.le_of_ble_eq_true rfl) dL_cast_19

set_option maxHeartbeats 4000000 in
set_option maxRecDepth 100000 in
theorem c_L_melt {G : rG} {l : Launch} {T : rTab} {L : rL} {C : rC} {ad : rA} {f : Nat → Int64} (hlt : l.stackTraces = false) (hI : cInv G T L C ad) (hO : C 46 0 = some (oA G f)) (a : Int32) : rMetH G l yL_melt cL_melt 4 (some .int) [(0, 9, 12, 13), (0, 9, 15, 15)] (rmM 14 2 12) [.ref (ad 0 0), .int a, .ref (ad 46 0)] C ad (rRet (lP G (sMelt T a) C ad)) := by
  refine rMetH.of (by decide) ?_
  intro p e s m below meth c hx hb hml hr hlocks hown hname hK hZ hS htb
  have hown : s.vm.findClass RL = some m.cls := hown
  have hA : ∀ q : Nat, s.heap.size ≤ q → (rF C ad s.heap.size) q := rF.new
  refine r_entry _ (Nat.le_of_ble_eq_true rfl) (fun ls hl => ?_)
  have hl : lv_has ls 4 [(0, .ref (ad 0 0)), (1, .int a), (2, .ref (ad 46 0))] := hl
  refine lv_aload_n hx hb dL_melt_0 rfl (lv_at hl 2 rfl) ?_
  refine lv_iconst (v := nI 0) hx hb dL_melt_1 (by decide) ?_
  refine lv_aload_n hx hb dL_melt_2 rfl (lv_at hl 0 rfl) ?_
  refine lv_iload_n hx hb dL_melt_3 rfl (lv_at hl 1 rfl) ?_
  refine cl_L_29 hx hb hml hown hK hZ hS hA (c_X4_melt hlt hI a) hI.reg rfl hl.1 (Nat.le_of_ble_eq_true rfl) ⟨Nat.le_of_ble_eq_true rfl, Nat.le_of_ble_eq_true rfl⟩ ⟨Nat.le_of_ble_eq_true rfl, Nat.le_of_ble_eq_true rfl⟩ rfl dL_melt_4 ?_ (r_kr (fun r C9 ad9 H locs hQ hS => ?_))
  · -- thrown
    intro E ce q9 C9 ad9 H locs hX9 hS hce hcv hcl
    obtain ⟨⟨hne, rfl⟩, L9, hI9, hF9⟩ := hX9
    have hle : (sMelt T a).1 ≤ 2 := sMelt_le (T := T) (a := a)
    by_cases h1 : (sMelt T a).1 = 1
    · -- caught
      have hce1 : ec2 (sMelt T a).1 = "java/lang/IndexOutOfBoundsException" := by rw [h1]; rfl
      rw [hce1] at hcl
      refine vx_catch (name := "java/lang/IndexOutOfBoundsException") hown [] ⟨0, 9, 12, 13⟩ [⟨0, 9, 15, 15⟩] htb (fun z hz => absurd hz List.not_mem_nil) rfl (by decide) (lk_IOB hK) (cs_IOB hK) hce hcv hcl ?_
      refine lv_astore_n (lv' := [(3, .ref q9), (0, .ref (ad 0 0)), (1, .int a), (2, .ref (ad 46 0))]) hx hb dL_melt_12 rfl hl (by decide) rfl (fun ls hl => ?_)
      refine lv_iconst (v := nI 1) hx hb dL_melt_13 (by decide) ?_
      exact r_iret hx hb hr hlocks hS ⟨_, rfl, by rw [h1], ⟨L9, hI9⟩, ⟨f, ((hF9.1 46 0 (by decide)).1).trans hO, fun z => absurd z hne⟩, hF9.o⟩ (Nat.le_of_ble_eq_true rfl) (Nat.le_of_ble_eq_true rfl) dL_melt_14
    have h2 : (sMelt T a).1 = 2 := by omega
    have hce1 : ec2 (sMelt T a).1 = "java/lang/IllegalStateException" := by rw [h2]; rfl
    rw [hce1] at hcl
    refine vx_catch (name := "java/lang/IllegalStateException") hown [⟨0, 9, 12, 13⟩] ⟨0, 9, 15, 15⟩ [] htb (fun z hz => by rw [List.mem_singleton.mp hz]; exact Or.inr ⟨by decide, _, lk_IOB hK, nc_ISE_IOB hK⟩) rfl (by decide) (lk_ISE hK) (cs_ISE hK) hce hcv hcl ?_
    refine lv_astore_n (lv' := [(3, .ref q9), (0, .ref (ad 0 0)), (1, .int a), (2, .ref (ad 46 0))]) hx hb dL_melt_15 rfl hl (by decide) rfl (fun ls hl => ?_)
    refine lv_iconst (v := nI 2) hx hb dL_melt_16 (by decide) ?_
    exact r_iret hx hb hr hlocks hS ⟨_, rfl, by rw [h2], ⟨L9, hI9⟩, ⟨f, ((hF9.1 46 0 (by decide)).1).trans hO, fun z => absurd z hne⟩, hF9.o⟩ (Nat.le_of_ble_eq_true rfl) (Nat.le_of_ble_eq_true rfl) dL_melt_17
  obtain ⟨⟨h0, rfl⟩, L9, hI9, hF9⟩ := hQ
  have e460 : ad 46 0 = ad9 46 0 := ((hF9.1 46 0 (by decide)).2).symm
  rw [e460]
  refine lv_i2l (v := ((sMelt T a).2.1).toInt64) hx hb dL_melt_7 rfl ?_
  refine r_last hx hb hK.1 hS 1 (((hF9.1 46 0 (by decide)).1).trans hO) rfl (nI_in0 (by omega) (by omega)) (f' := vp_updL f 0 (((sMelt T a).2.1).toInt64)) (by rw [nI_clamp (by omega)]) dL_melt_8 (fun H locs hS => ?_)
  refine lv_goto (tgt := 18) hx hb dL_melt_9 (by decide) ?_
  refine lv_iconst (v := nI 0) hx hb dL_melt_18 (by decide) ?_
  exact r_iret hx hb hr hlocks hS ⟨_, rfl, by rw [h0], ⟨L9, hI9.fr (fun k i hk => ⟨ru_n (fun z => by omega), rfl⟩)⟩, ⟨_, ru_e, fun _ => pk_uLs⟩, hF9.o2⟩ (Nat.le_of_ble_eq_true rfl) (Nat.le_of_ble_eq_true rfl) dL_melt_19

set_option maxHeartbeats 4000000 in
set_option maxRecDepth 100000 in
theorem c_L_defects {G : rG} {l : Launch} {T : rTab} {L : rL} {C : rC} {ad : rA} {f : Nat → Int64} (hlt : l.stackTraces = false) (hI : cInv G T L C ad) (hO : C 46 0 = some (oA G f)) (a : Int32) : rMetH G l yL_defects cL_defects 4 (some .int) [(0, 9, 12, 13)] (rmM 10 1 6) [.ref (ad 0 0), .int a, .ref (ad 46 0)] C ad (rRet (lP G (qS T (byN (nC T) a (fun j => nI (T 6 j)))) C ad)) := by
  refine rMetH.of (by decide) ?_
  intro p e s m below meth c hx hb hml hr hlocks hown hname hK hZ hS htb
  have hown : s.vm.findClass RL = some m.cls := hown
  have hA : ∀ q : Nat, s.heap.size ≤ q → (rF C ad s.heap.size) q := rF.new
  refine r_entry _ (Nat.le_of_ble_eq_true rfl) (fun ls hl => ?_)
  have hl : lv_has ls 4 [(0, .ref (ad 0 0)), (1, .int a), (2, .ref (ad 46 0))] := hl
  refine lv_aload_n hx hb dL_defects_0 rfl (lv_at hl 2 rfl) ?_
  refine lv_iconst (v := nI 0) hx hb dL_defects_1 (by decide) ?_
  refine lv_aload_n hx hb dL_defects_2 rfl (lv_at hl 0 rfl) ?_
  refine lv_iload_n hx hb dL_defects_3 rfl (lv_at hl 1 rfl) ?_
  refine cl_L_32 hx hb hml hown hK hZ hS hA ((c_X4_defects hlt hI a).post (rq_p hI) (rq_x hI)) hI.reg rfl hl.1 (Nat.le_of_ble_eq_true rfl) ⟨Nat.le_of_ble_eq_true rfl, Nat.le_of_ble_eq_true rfl⟩ ⟨Nat.le_of_ble_eq_true rfl, Nat.le_of_ble_eq_true rfl⟩ rfl dL_defects_4 ?_ (r_kr (fun r C9 ad9 H locs hQ hS => ?_))
  · -- thrown
    intro E ce q9 C9 ad9 H locs hX9 hS hce hcv hcl
    obtain ⟨⟨hne, rfl⟩, L9, hI9, hF9⟩ := hX9
    have hle : (qS T (byN (nC T) a (fun j => nI (T 6 j)))).1 ≤ 1 := byN_le (n := (nC T)) (a := a) (f := fun j => nI (T 6 j))
    have h1 : (qS T (byN (nC T) a (fun j => nI (T 6 j)))).1 = 1 := by omega
    have hce1 : ecI (qS T (byN (nC T) a (fun j => nI (T 6 j)))).1 = "java/lang/IndexOutOfBoundsException" := by rw [h1]; rfl
    rw [hce1] at hcl
    refine vx_catch (name := "java/lang/IndexOutOfBoundsException") hown [] ⟨0, 9, 12, 13⟩ [] htb (fun z hz => absurd hz List.not_mem_nil) rfl (by decide) (lk_IOB hK) (cs_IOB hK) hce hcv hcl ?_
    refine lv_astore_n (lv' := [(3, .ref q9), (0, .ref (ad 0 0)), (1, .int a), (2, .ref (ad 46 0))]) hx hb dL_defects_12 rfl hl (by decide) rfl (fun ls hl => ?_)
    refine lv_iconst (v := nI 1) hx hb dL_defects_13 (by decide) ?_
    exact r_iret hx hb hr hlocks hS ⟨_, rfl, by rw [h1], ⟨L9, hI9⟩, ⟨f, ((hF9.1 46 0 (by decide)).1).trans hO, fun z => absurd z hne⟩, hF9.o⟩ (Nat.le_of_ble_eq_true rfl) (Nat.le_of_ble_eq_true rfl) dL_defects_14
  obtain ⟨⟨h0, rfl⟩, L9, hI9, hF9⟩ := hQ
  have e460 : ad 46 0 = ad9 46 0 := ((hF9.1 46 0 (by decide)).2).symm
  rw [e460]
  refine lv_i2l (v := ((qS T (byN (nC T) a (fun j => nI (T 6 j)))).2.1).toInt64) hx hb dL_defects_7 rfl ?_
  refine r_last hx hb hK.1 hS 1 (((hF9.1 46 0 (by decide)).1).trans hO) rfl (nI_in0 (by omega) (by omega)) (f' := vp_updL f 0 (((qS T (byN (nC T) a (fun j => nI (T 6 j)))).2.1).toInt64)) (by rw [nI_clamp (by omega)]) dL_defects_8 (fun H locs hS => ?_)
  refine lv_goto (tgt := 15) hx hb dL_defects_9 (by decide) ?_
  refine lv_iconst (v := nI 0) hx hb dL_defects_15 (by decide) ?_
  exact r_iret hx hb hr hlocks hS ⟨_, rfl, by rw [h0], ⟨L9, hI9.fr (fun k i hk => ⟨ru_n (fun z => by omega), rfl⟩)⟩, ⟨_, ru_e, fun _ => pk_uLs⟩, hF9.o2⟩ (Nat.le_of_ble_eq_true rfl) (Nat.le_of_ble_eq_true rfl) dL_defects_16

set_option maxHeartbeats 4000000 in
set_option maxRecDepth 100000 in
theorem c_L_couldBeOf {G : rG} {l : Launch} {T : rTab} {L : rL} {C : rC} {ad : rA} {f : Nat → Int64} (hlt : l.stackTraces = false) (hI : cInv G T L C ad) (hO : C 46 0 = some (oA G f)) (a : Int32) : rMetH G l yL_couldBeOf cL_couldBeOf 4 (some .int) [(0, 9, 12, 13)] (rmM 10 1 6) [.ref (ad 0 0), .int a, .ref (ad 46 0)] C ad (rRet (lP G (qS T (byN (nC T) a (fun j => nI (setN (cbB T j) (nD T))))) C ad)) := by
  refine rMetH.of (by decide) ?_
  intro p e s m below meth c hx hb hml hr hlocks hown hname hK hZ hS htb
  have hown : s.vm.findClass RL = some m.cls := hown
  have hA : ∀ q : Nat, s.heap.size ≤ q → (rF C ad s.heap.size) q := rF.new
  refine r_entry _ (Nat.le_of_ble_eq_true rfl) (fun ls hl => ?_)
  have hl : lv_has ls 4 [(0, .ref (ad 0 0)), (1, .int a), (2, .ref (ad 46 0))] := hl
  refine lv_aload_n hx hb dL_couldBeOf_0 rfl (lv_at hl 2 rfl) ?_
  refine lv_iconst (v := nI 0) hx hb dL_couldBeOf_1 (by decide) ?_
  refine lv_aload_n hx hb dL_couldBeOf_2 rfl (lv_at hl 0 rfl) ?_
  refine lv_iload_n hx hb dL_couldBeOf_3 rfl (lv_at hl 1 rfl) ?_
  refine cl_L_35 hx hb hml hown hK hZ hS hA ((c_X4_couldBeOf hlt hI a).post (rq_p hI) (rq_x hI)) hI.reg rfl hl.1 (Nat.le_of_ble_eq_true rfl) ⟨Nat.le_of_ble_eq_true rfl, Nat.le_of_ble_eq_true rfl⟩ ⟨Nat.le_of_ble_eq_true rfl, Nat.le_of_ble_eq_true rfl⟩ rfl dL_couldBeOf_4 ?_ (r_kr (fun r C9 ad9 H locs hQ hS => ?_))
  · -- thrown
    intro E ce q9 C9 ad9 H locs hX9 hS hce hcv hcl
    obtain ⟨⟨hne, rfl⟩, L9, hI9, hF9⟩ := hX9
    have hle : (qS T (byN (nC T) a (fun j => nI (setN (cbB T j) (nD T))))).1 ≤ 1 := byN_le (n := (nC T)) (a := a) (f := fun j => nI (setN (cbB T j) (nD T)))
    have h1 : (qS T (byN (nC T) a (fun j => nI (setN (cbB T j) (nD T))))).1 = 1 := by omega
    have hce1 : ecI (qS T (byN (nC T) a (fun j => nI (setN (cbB T j) (nD T))))).1 = "java/lang/IndexOutOfBoundsException" := by rw [h1]; rfl
    rw [hce1] at hcl
    refine vx_catch (name := "java/lang/IndexOutOfBoundsException") hown [] ⟨0, 9, 12, 13⟩ [] htb (fun z hz => absurd hz List.not_mem_nil) rfl (by decide) (lk_IOB hK) (cs_IOB hK) hce hcv hcl ?_
    refine lv_astore_n (lv' := [(3, .ref q9), (0, .ref (ad 0 0)), (1, .int a), (2, .ref (ad 46 0))]) hx hb dL_couldBeOf_12 rfl hl (by decide) rfl (fun ls hl => ?_)
    refine lv_iconst (v := nI 1) hx hb dL_couldBeOf_13 (by decide) ?_
    exact r_iret hx hb hr hlocks hS ⟨_, rfl, by rw [h1], ⟨L9, hI9⟩, ⟨f, ((hF9.1 46 0 (by decide)).1).trans hO, fun z => absurd z hne⟩, hF9.o⟩ (Nat.le_of_ble_eq_true rfl) (Nat.le_of_ble_eq_true rfl) dL_couldBeOf_14
  obtain ⟨⟨h0, rfl⟩, L9, hI9, hF9⟩ := hQ
  have e460 : ad 46 0 = ad9 46 0 := ((hF9.1 46 0 (by decide)).2).symm
  rw [e460]
  refine lv_i2l (v := ((qS T (byN (nC T) a (fun j => nI (setN (cbB T j) (nD T))))).2.1).toInt64) hx hb dL_couldBeOf_7 rfl ?_
  refine r_last hx hb hK.1 hS 1 (((hF9.1 46 0 (by decide)).1).trans hO) rfl (nI_in0 (by omega) (by omega)) (f' := vp_updL f 0 (((qS T (byN (nC T) a (fun j => nI (setN (cbB T j) (nD T))))).2.1).toInt64)) (by rw [nI_clamp (by omega)]) dL_couldBeOf_8 (fun H locs hS => ?_)
  refine lv_goto (tgt := 15) hx hb dL_couldBeOf_9 (by decide) ?_
  refine lv_iconst (v := nI 0) hx hb dL_couldBeOf_15 (by decide) ?_
  exact r_iret hx hb hr hlocks hS ⟨_, rfl, by rw [h0], ⟨L9, hI9.fr (fun k i hk => ⟨ru_n (fun z => by omega), rfl⟩)⟩, ⟨_, ru_e, fun _ => pk_uLs⟩, hF9.o2⟩ (Nat.le_of_ble_eq_true rfl) (Nat.le_of_ble_eq_true rfl) dL_couldBeOf_16

set_option maxHeartbeats 4000000 in
set_option maxRecDepth 100000 in
theorem c_L_stages {G : rG} {l : Launch} {T : rTab} {L : rL} {C : rC} {ad : rA} {f : Nat → Int64} (hlt : l.stackTraces = false) (hI : cInv G T L C ad) (hO : C 46 0 = some (oA G f)) (a : Int32) : rMetH G l yL_stages cL_stages 4 (some .int) [(0, 9, 12, 13)] (rmM 10 1 6) [.ref (ad 0 0), .int a, .ref (ad 46 0)] C ad (rRet (lP G (qS T (byN (nD T) a (fun d => nI (stagesN T d)))) C ad)) := by
  refine rMetH.of (by decide) ?_
  intro p e s m below meth c hx hb hml hr hlocks hown hname hK hZ hS htb
  have hown : s.vm.findClass RL = some m.cls := hown
  have hA : ∀ q : Nat, s.heap.size ≤ q → (rF C ad s.heap.size) q := rF.new
  refine r_entry _ (Nat.le_of_ble_eq_true rfl) (fun ls hl => ?_)
  have hl : lv_has ls 4 [(0, .ref (ad 0 0)), (1, .int a), (2, .ref (ad 46 0))] := hl
  refine lv_aload_n hx hb dL_stages_0 rfl (lv_at hl 2 rfl) ?_
  refine lv_iconst (v := nI 0) hx hb dL_stages_1 (by decide) ?_
  refine lv_aload_n hx hb dL_stages_2 rfl (lv_at hl 0 rfl) ?_
  refine lv_iload_n hx hb dL_stages_3 rfl (lv_at hl 1 rfl) ?_
  refine cl_L_38 hx hb hml hown hK hZ hS hA ((c_X4_stages hlt hI a).post (rq_p hI) (rq_x hI)) hI.reg rfl hl.1 (Nat.le_of_ble_eq_true rfl) ⟨Nat.le_of_ble_eq_true rfl, Nat.le_of_ble_eq_true rfl⟩ ⟨Nat.le_of_ble_eq_true rfl, Nat.le_of_ble_eq_true rfl⟩ rfl dL_stages_4 ?_ (r_kr (fun r C9 ad9 H locs hQ hS => ?_))
  · -- thrown
    intro E ce q9 C9 ad9 H locs hX9 hS hce hcv hcl
    obtain ⟨⟨hne, rfl⟩, L9, hI9, hF9⟩ := hX9
    have hle : (qS T (byN (nD T) a (fun d => nI (stagesN T d)))).1 ≤ 1 := byN_le (n := (nD T)) (a := a) (f := fun d => nI (stagesN T d))
    have h1 : (qS T (byN (nD T) a (fun d => nI (stagesN T d)))).1 = 1 := by omega
    have hce1 : ecI (qS T (byN (nD T) a (fun d => nI (stagesN T d)))).1 = "java/lang/IndexOutOfBoundsException" := by rw [h1]; rfl
    rw [hce1] at hcl
    refine vx_catch (name := "java/lang/IndexOutOfBoundsException") hown [] ⟨0, 9, 12, 13⟩ [] htb (fun z hz => absurd hz List.not_mem_nil) rfl (by decide) (lk_IOB hK) (cs_IOB hK) hce hcv hcl ?_
    refine lv_astore_n (lv' := [(3, .ref q9), (0, .ref (ad 0 0)), (1, .int a), (2, .ref (ad 46 0))]) hx hb dL_stages_12 rfl hl (by decide) rfl (fun ls hl => ?_)
    refine lv_iconst (v := nI 1) hx hb dL_stages_13 (by decide) ?_
    exact r_iret hx hb hr hlocks hS ⟨_, rfl, by rw [h1], ⟨L9, hI9⟩, ⟨f, ((hF9.1 46 0 (by decide)).1).trans hO, fun z => absurd z hne⟩, hF9.o⟩ (Nat.le_of_ble_eq_true rfl) (Nat.le_of_ble_eq_true rfl) dL_stages_14
  obtain ⟨⟨h0, rfl⟩, L9, hI9, hF9⟩ := hQ
  have e460 : ad 46 0 = ad9 46 0 := ((hF9.1 46 0 (by decide)).2).symm
  rw [e460]
  refine lv_i2l (v := ((qS T (byN (nD T) a (fun d => nI (stagesN T d)))).2.1).toInt64) hx hb dL_stages_7 rfl ?_
  refine r_last hx hb hK.1 hS 1 (((hF9.1 46 0 (by decide)).1).trans hO) rfl (nI_in0 (by omega) (by omega)) (f' := vp_updL f 0 (((qS T (byN (nD T) a (fun d => nI (stagesN T d)))).2.1).toInt64)) (by rw [nI_clamp (by omega)]) dL_stages_8 (fun H locs hS => ?_)
  refine lv_goto (tgt := 15) hx hb dL_stages_9 (by decide) ?_
  refine lv_iconst (v := nI 0) hx hb dL_stages_15 (by decide) ?_
  exact r_iret hx hb hr hlocks hS ⟨_, rfl, by rw [h0], ⟨L9, hI9.fr (fun k i hk => ⟨ru_n (fun z => by omega), rfl⟩)⟩, ⟨_, ru_e, fun _ => pk_uLs⟩, hF9.o2⟩ (Nat.le_of_ble_eq_true rfl) (Nat.le_of_ble_eq_true rfl) dL_stages_16

set_option maxHeartbeats 4000000 in
set_option maxRecDepth 100000 in
theorem c_L_proof {G : rG} {l : Launch} {T : rTab} {L : rL} {C : rC} {ad : rA} {f : Nat → Int64} (hlt : l.stackTraces = false) (hI : cInv G T L C ad) (hO : C 46 0 = some (oA G f)) (a : Int32) : rMetH G l yL_proof cL_proof 4 (some .int) [(0, 9, 12, 13)] (rmM 10 1 6) [.ref (ad 0 0), .int a, .ref (ad 46 0)] C ad (rRet (lP G (qS T (byN (nD T) a (fun d => prI T d))) C ad)) := by
  refine rMetH.of (by decide) ?_
  intro p e s m below meth c hx hb hml hr hlocks hown hname hK hZ hS htb
  have hown : s.vm.findClass RL = some m.cls := hown
  have hA : ∀ q : Nat, s.heap.size ≤ q → (rF C ad s.heap.size) q := rF.new
  refine r_entry _ (Nat.le_of_ble_eq_true rfl) (fun ls hl => ?_)
  have hl : lv_has ls 4 [(0, .ref (ad 0 0)), (1, .int a), (2, .ref (ad 46 0))] := hl
  refine lv_aload_n hx hb dL_proof_0 rfl (lv_at hl 2 rfl) ?_
  refine lv_iconst (v := nI 0) hx hb dL_proof_1 (by decide) ?_
  refine lv_aload_n hx hb dL_proof_2 rfl (lv_at hl 0 rfl) ?_
  refine lv_iload_n hx hb dL_proof_3 rfl (lv_at hl 1 rfl) ?_
  refine cl_L_41 hx hb hml hown hK hZ hS hA ((c_X4_proof hlt hI a).post (rq_p hI) (rq_x hI)) hI.reg rfl hl.1 (Nat.le_of_ble_eq_true rfl) ⟨Nat.le_of_ble_eq_true rfl, Nat.le_of_ble_eq_true rfl⟩ ⟨Nat.le_of_ble_eq_true rfl, Nat.le_of_ble_eq_true rfl⟩ rfl dL_proof_4 ?_ (r_kr (fun r C9 ad9 H locs hQ hS => ?_))
  · -- thrown
    intro E ce q9 C9 ad9 H locs hX9 hS hce hcv hcl
    obtain ⟨⟨hne, rfl⟩, L9, hI9, hF9⟩ := hX9
    have hle : (qS T (byN (nD T) a (fun d => prI T d))).1 ≤ 1 := byN_le (n := (nD T)) (a := a) (f := fun d => prI T d)
    have h1 : (qS T (byN (nD T) a (fun d => prI T d))).1 = 1 := by omega
    have hce1 : ecI (qS T (byN (nD T) a (fun d => prI T d))).1 = "java/lang/IndexOutOfBoundsException" := by rw [h1]; rfl
    rw [hce1] at hcl
    refine vx_catch (name := "java/lang/IndexOutOfBoundsException") hown [] ⟨0, 9, 12, 13⟩ [] htb (fun z hz => absurd hz List.not_mem_nil) rfl (by decide) (lk_IOB hK) (cs_IOB hK) hce hcv hcl ?_
    refine lv_astore_n (lv' := [(3, .ref q9), (0, .ref (ad 0 0)), (1, .int a), (2, .ref (ad 46 0))]) hx hb dL_proof_12 rfl hl (by decide) rfl (fun ls hl => ?_)
    refine lv_iconst (v := nI 1) hx hb dL_proof_13 (by decide) ?_
    exact r_iret hx hb hr hlocks hS ⟨_, rfl, by rw [h1], ⟨L9, hI9⟩, ⟨f, ((hF9.1 46 0 (by decide)).1).trans hO, fun z => absurd z hne⟩, hF9.o⟩ (Nat.le_of_ble_eq_true rfl) (Nat.le_of_ble_eq_true rfl) dL_proof_14
  obtain ⟨⟨h0, rfl⟩, L9, hI9, hF9⟩ := hQ
  have e460 : ad 46 0 = ad9 46 0 := ((hF9.1 46 0 (by decide)).2).symm
  rw [e460]
  refine lv_i2l (v := ((qS T (byN (nD T) a (fun d => prI T d))).2.1).toInt64) hx hb dL_proof_7 rfl ?_
  refine r_last hx hb hK.1 hS 1 (((hF9.1 46 0 (by decide)).1).trans hO) rfl (nI_in0 (by omega) (by omega)) (f' := vp_updL f 0 (((qS T (byN (nD T) a (fun d => prI T d))).2.1).toInt64)) (by rw [nI_clamp (by omega)]) dL_proof_8 (fun H locs hS => ?_)
  refine lv_goto (tgt := 15) hx hb dL_proof_9 (by decide) ?_
  refine lv_iconst (v := nI 0) hx hb dL_proof_15 (by decide) ?_
  exact r_iret hx hb hr hlocks hS ⟨_, rfl, by rw [h0], ⟨L9, hI9.fr (fun k i hk => ⟨ru_n (fun z => by omega), rfl⟩)⟩, ⟨_, ru_e, fun _ => pk_uLs⟩, hF9.o2⟩ (Nat.le_of_ble_eq_true rfl) (Nat.le_of_ble_eq_true rfl) dL_proof_16

set_option maxHeartbeats 4000000 in
set_option maxRecDepth 100000 in
theorem c_L_condemn {G : rG} {l : Launch} {T : rTab} {L : rL} {C : rC} {ad : rA} {f : Nat → Int64} (hlt : l.stackTraces = false) (hI : cInv G T L C ad) (hO : C 46 0 = some (oA G f)) (a : Int32) : rMetH G l yL_condemn cL_condemn 4 (some .int) [(0, 9, 12, 13), (0, 9, 15, 15)] (rmM 14 2 12) [.ref (ad 0 0), .int a, .ref (ad 46 0)] C ad (rRet (lP G (sCond T a) C ad)) := by
  refine rMetH.of (by decide) ?_
  intro p e s m below meth c hx hb hml hr hlocks hown hname hK hZ hS htb
  have hown : s.vm.findClass RL = some m.cls := hown
  have hA : ∀ q : Nat, s.heap.size ≤ q → (rF C ad s.heap.size) q := rF.new
  refine r_entry _ (Nat.le_of_ble_eq_true rfl) (fun ls hl => ?_)
  have hl : lv_has ls 4 [(0, .ref (ad 0 0)), (1, .int a), (2, .ref (ad 46 0))] := hl
  refine lv_aload_n hx hb dL_condemn_0 rfl (lv_at hl 2 rfl) ?_
  refine lv_iconst (v := nI 0) hx hb dL_condemn_1 (by decide) ?_
  refine lv_aload_n hx hb dL_condemn_2 rfl (lv_at hl 0 rfl) ?_
  refine lv_iload_n hx hb dL_condemn_3 rfl (lv_at hl 1 rfl) ?_
  refine cl_L_44 hx hb hml hown hK hZ hS hA (c_X4_condemn hlt hI a) hI.reg rfl hl.1 (Nat.le_of_ble_eq_true rfl) ⟨Nat.le_of_ble_eq_true rfl, Nat.le_of_ble_eq_true rfl⟩ ⟨Nat.le_of_ble_eq_true rfl, Nat.le_of_ble_eq_true rfl⟩ rfl dL_condemn_4 ?_ (r_kr (fun r C9 ad9 H locs hQ hS => ?_))
  · -- thrown
    intro E ce q9 C9 ad9 H locs hX9 hS hce hcv hcl
    obtain ⟨⟨hne, rfl⟩, L9, hI9, hF9⟩ := hX9
    have hle : (sCond T a).1 ≤ 2 := sCond_le (T := T) (a := a)
    by_cases h1 : (sCond T a).1 = 1
    · -- caught
      have hce1 : ec2 (sCond T a).1 = "java/lang/IndexOutOfBoundsException" := by rw [h1]; rfl
      rw [hce1] at hcl
      refine vx_catch (name := "java/lang/IndexOutOfBoundsException") hown [] ⟨0, 9, 12, 13⟩ [⟨0, 9, 15, 15⟩] htb (fun z hz => absurd hz List.not_mem_nil) rfl (by decide) (lk_IOB hK) (cs_IOB hK) hce hcv hcl ?_
      refine lv_astore_n (lv' := [(3, .ref q9), (0, .ref (ad 0 0)), (1, .int a), (2, .ref (ad 46 0))]) hx hb dL_condemn_12 rfl hl (by decide) rfl (fun ls hl => ?_)
      refine lv_iconst (v := nI 1) hx hb dL_condemn_13 (by decide) ?_
      exact r_iret hx hb hr hlocks hS ⟨_, rfl, by rw [h1], ⟨L9, hI9⟩, ⟨f, ((hF9.1 46 0 (by decide)).1).trans hO, fun z => absurd z hne⟩, hF9.o⟩ (Nat.le_of_ble_eq_true rfl) (Nat.le_of_ble_eq_true rfl) dL_condemn_14
    have h2 : (sCond T a).1 = 2 := by omega
    have hce1 : ec2 (sCond T a).1 = "java/lang/IllegalStateException" := by rw [h2]; rfl
    rw [hce1] at hcl
    refine vx_catch (name := "java/lang/IllegalStateException") hown [⟨0, 9, 12, 13⟩] ⟨0, 9, 15, 15⟩ [] htb (fun z hz => by rw [List.mem_singleton.mp hz]; exact Or.inr ⟨by decide, _, lk_IOB hK, nc_ISE_IOB hK⟩) rfl (by decide) (lk_ISE hK) (cs_ISE hK) hce hcv hcl ?_
    refine lv_astore_n (lv' := [(3, .ref q9), (0, .ref (ad 0 0)), (1, .int a), (2, .ref (ad 46 0))]) hx hb dL_condemn_15 rfl hl (by decide) rfl (fun ls hl => ?_)
    refine lv_iconst (v := nI 2) hx hb dL_condemn_16 (by decide) ?_
    exact r_iret hx hb hr hlocks hS ⟨_, rfl, by rw [h2], ⟨L9, hI9⟩, ⟨f, ((hF9.1 46 0 (by decide)).1).trans hO, fun z => absurd z hne⟩, hF9.o⟩ (Nat.le_of_ble_eq_true rfl) (Nat.le_of_ble_eq_true rfl) dL_condemn_17
  obtain ⟨⟨h0, rfl⟩, L9, hI9, hF9⟩ := hQ
  have e460 : ad 46 0 = ad9 46 0 := ((hF9.1 46 0 (by decide)).2).symm
  rw [e460]
  refine lv_i2l (v := ((sCond T a).2.1).toInt64) hx hb dL_condemn_7 rfl ?_
  refine r_last hx hb hK.1 hS 1 (((hF9.1 46 0 (by decide)).1).trans hO) rfl (nI_in0 (by omega) (by omega)) (f' := vp_updL f 0 (((sCond T a).2.1).toInt64)) (by rw [nI_clamp (by omega)]) dL_condemn_8 (fun H locs hS => ?_)
  refine lv_goto (tgt := 18) hx hb dL_condemn_9 (by decide) ?_
  refine lv_iconst (v := nI 0) hx hb dL_condemn_18 (by decide) ?_
  exact r_iret hx hb hr hlocks hS ⟨_, rfl, by rw [h0], ⟨L9, hI9.fr (fun k i hk => ⟨ru_n (fun z => by omega), rfl⟩)⟩, ⟨_, ru_e, fun _ => pk_uLs⟩, hF9.o2⟩ (Nat.le_of_ble_eq_true rfl) (Nat.le_of_ble_eq_true rfl) dL_condemn_19

set_option maxHeartbeats 4000000 in
set_option maxRecDepth 100000 in
theorem c_L_isCondemned {G : rG} {l : Launch} {T : rTab} {L : rL} {C : rC} {ad : rA} {f : Nat → Int64} (hlt : l.stackTraces = false) (hI : cInv G T L C ad) (hO : C 46 0 = some (oA G f)) (a : Int32) : rMetH G l yL_isCondemned cL_isCondemned 4 (some .int) [(0, 16, 19, 13)] (rmM 10 1 6) [.ref (ad 0 0), .int a, .ref (ad 46 0)] C ad (rRet (lP G (qS T (byN (nD T) a (fun d => bI (decide (T 4 d = 1))))) C ad)) := by
  refine rMetH.of (by decide) ?_
  intro p e s m below meth c hx hb hml hr hlocks hown hname hK hZ hS htb
  have hown : s.vm.findClass RL = some m.cls := hown
  have hA : ∀ q : Nat, s.heap.size ≤ q → (rF C ad s.heap.size) q := rF.new
  refine r_entry _ (Nat.le_of_ble_eq_true rfl) (fun ls hl => ?_)
  have hl : lv_has ls 4 [(0, .ref (ad 0 0)), (1, .int a), (2, .ref (ad 46 0))] := hl
  refine lv_aload_n hx hb dL_isCondemned_0 rfl (lv_at hl 2 rfl) ?_
  refine lv_iconst (v := nI 0) hx hb dL_isCondemned_1 (by decide) ?_
  refine lv_aload_n hx hb dL_isCondemned_2 rfl (lv_at hl 0 rfl) ?_
  refine lv_iload_n hx hb dL_isCondemned_3 rfl (lv_at hl 1 rfl) ?_
  refine cl_L_47 hx hb hml hown hK hZ hS hA ((c_X4_isCondemned hlt hI a).post (rq_p hI) (rq_x hI)) hI.reg rfl hl.1 (Nat.le_of_ble_eq_true rfl) ⟨Nat.le_of_ble_eq_true rfl, Nat.le_of_ble_eq_true rfl⟩ ⟨Nat.le_of_ble_eq_true rfl, Nat.le_of_ble_eq_true rfl⟩ rfl dL_isCondemned_4 ?_ (r_kr (fun r C9 ad9 H locs hQ hS => ?_))
  · -- thrown
    intro E ce q9 C9 ad9 H locs hX9 hS hce hcv hcl
    obtain ⟨⟨hne, rfl⟩, L9, hI9, hF9⟩ := hX9
    have hle : (qS T (byN (nD T) a (fun d => bI (decide (T 4 d = 1))))).1 ≤ 1 := byN_le (n := (nD T)) (a := a) (f := fun d => bI (decide (T 4 d = 1)))
    have h1 : (qS T (byN (nD T) a (fun d => bI (decide (T 4 d = 1))))).1 = 1 := by omega
    have hce1 : ecI (qS T (byN (nD T) a (fun d => bI (decide (T 4 d = 1))))).1 = "java/lang/IndexOutOfBoundsException" := by rw [h1]; rfl
    rw [hce1] at hcl
    refine vx_catch (name := "java/lang/IndexOutOfBoundsException") hown [] ⟨0, 16, 19, 13⟩ [] htb (fun z hz => absurd hz List.not_mem_nil) rfl (by decide) (lk_IOB hK) (cs_IOB hK) hce hcv hcl ?_
    refine lv_astore_n (lv' := [(3, .ref q9), (0, .ref (ad 0 0)), (1, .int a), (2, .ref (ad 46 0))]) hx hb dL_isCondemned_19 rfl hl (by decide) rfl (fun ls hl => ?_)
    refine lv_iconst (v := nI 1) hx hb dL_isCondemned_20 (by decide) ?_
    exact r_iret hx hb hr hlocks hS ⟨_, rfl, by rw [h1], ⟨L9, hI9⟩, ⟨f, ((hF9.1 46 0 (by decide)).1).trans hO, fun z => absurd z hne⟩, hF9.o⟩ (Nat.le_of_ble_eq_true rfl) (Nat.le_of_ble_eq_true rfl) dL_isCondemned_21
  obtain ⟨⟨h0, rfl⟩, L9, hI9, hF9⟩ := hQ
  have e460 : ad 46 0 = ad9 46 0 := ((hF9.1 46 0 (by decide)).2).symm
  rw [e460]
  obtain ⟨bb, hbb⟩ : ∃ b, (qS T (byN (nD T) a (fun d => bI (decide (T 4 d = 1))))).2.1 = bI b := byN_b h0
  refine r_top (y := bI bb) hbb ?_
  refine r_ifb_eq (b := bb) (tgt := 14) hx hb dL_isCondemned_7 (by decide) (fun q7 => ?_) (fun q7 => ?_)
  · -- T
    refine lv_lconst (v := 0) hx hb dL_isCondemned_14 rfl ?_
    refine r_last hx hb hK.1 hS 1 (((hF9.1 46 0 (by decide)).1).trans hO) rfl (nI_in0 (by omega) (by omega)) (f' := vp_updL f 0 0) (by rw [nI_clamp (by omega)]) dL_isCondemned_15 (fun H locs hS => ?_)
    refine lv_goto (tgt := 22) hx hb dL_isCondemned_16 (by decide) ?_
    refine lv_iconst (v := nI 0) hx hb dL_isCondemned_22 (by decide) ?_
    exact r_iret hx hb hr hlocks hS ⟨_, rfl, by rw [h0], ⟨L9, hI9.fr (fun k i hk => ⟨ru_n (fun z => by omega), rfl⟩)⟩, ⟨_, ru_e, fun _ => pk_uLs.trans (by rw [hbb, q7]; rfl)⟩, hF9.o2⟩ (Nat.le_of_ble_eq_true rfl) (Nat.le_of_ble_eq_true rfl) dL_isCondemned_23
  · -- F
    refine lv_lconst (v := 1) hx hb dL_isCondemned_10 rfl ?_
    refine lv_goto (tgt := 15) hx hb dL_isCondemned_11 (by decide) ?_
    refine r_last hx hb hK.1 hS 1 (((hF9.1 46 0 (by decide)).1).trans hO) rfl (nI_in0 (by omega) (by omega)) (f' := vp_updL f 0 1) (by rw [nI_clamp (by omega)]) dL_isCondemned_15 (fun H locs hS => ?_)
    refine lv_goto (tgt := 22) hx hb dL_isCondemned_16 (by decide) ?_
    refine lv_iconst (v := nI 0) hx hb dL_isCondemned_22 (by decide) ?_
    exact r_iret hx hb hr hlocks hS ⟨_, rfl, by rw [h0], ⟨L9, hI9.fr (fun k i hk => ⟨ru_n (fun z => by omega), rfl⟩)⟩, ⟨_, ru_e, fun _ => pk_uLs.trans (by rw [hbb, q7]; rfl)⟩, hF9.o2⟩ (Nat.le_of_ble_eq_true rfl) (Nat.le_of_ble_eq_true rfl) dL_isCondemned_23

set_option maxHeartbeats 4000000 in
set_option maxRecDepth 100000 in
theorem c_L_isTrue {G : rG} {l : Launch} {T : rTab} {L : rL} {C : rC} {ad : rA} {f : Nat → Int64} (hlt : l.stackTraces = false) (hI : cInv G T L C ad) (hO : C 46 0 = some (oA G f)) (a : Int32) : rMetH G l yL_isTrue cL_isTrue 4 (some .int) [(0, 16, 19, 13)] (rmM 10 1 6) [.ref (ad 0 0), .int a, .ref (ad 46 0)] C ad (rRet (lP G (qS T (byN (nC T) a (fun j => bI (tru T j)))) C ad)) := by
  refine rMetH.of (by decide) ?_
  intro p e s m below meth c hx hb hml hr hlocks hown hname hK hZ hS htb
  have hown : s.vm.findClass RL = some m.cls := hown
  have hA : ∀ q : Nat, s.heap.size ≤ q → (rF C ad s.heap.size) q := rF.new
  refine r_entry _ (Nat.le_of_ble_eq_true rfl) (fun ls hl => ?_)
  have hl : lv_has ls 4 [(0, .ref (ad 0 0)), (1, .int a), (2, .ref (ad 46 0))] := hl
  refine lv_aload_n hx hb dL_isTrue_0 rfl (lv_at hl 2 rfl) ?_
  refine lv_iconst (v := nI 0) hx hb dL_isTrue_1 (by decide) ?_
  refine lv_aload_n hx hb dL_isTrue_2 rfl (lv_at hl 0 rfl) ?_
  refine lv_iload_n hx hb dL_isTrue_3 rfl (lv_at hl 1 rfl) ?_
  refine cl_L_51 hx hb hml hown hK hZ hS hA ((c_X4_isTrue hlt hI a).post (rq_p hI) (rq_x hI)) hI.reg rfl hl.1 (Nat.le_of_ble_eq_true rfl) ⟨Nat.le_of_ble_eq_true rfl, Nat.le_of_ble_eq_true rfl⟩ ⟨Nat.le_of_ble_eq_true rfl, Nat.le_of_ble_eq_true rfl⟩ rfl dL_isTrue_4 ?_ (r_kr (fun r C9 ad9 H locs hQ hS => ?_))
  · -- thrown
    intro E ce q9 C9 ad9 H locs hX9 hS hce hcv hcl
    obtain ⟨⟨hne, rfl⟩, L9, hI9, hF9⟩ := hX9
    have hle : (qS T (byN (nC T) a (fun j => bI (tru T j)))).1 ≤ 1 := byN_le (n := (nC T)) (a := a) (f := fun j => bI (tru T j))
    have h1 : (qS T (byN (nC T) a (fun j => bI (tru T j)))).1 = 1 := by omega
    have hce1 : ecI (qS T (byN (nC T) a (fun j => bI (tru T j)))).1 = "java/lang/IndexOutOfBoundsException" := by rw [h1]; rfl
    rw [hce1] at hcl
    refine vx_catch (name := "java/lang/IndexOutOfBoundsException") hown [] ⟨0, 16, 19, 13⟩ [] htb (fun z hz => absurd hz List.not_mem_nil) rfl (by decide) (lk_IOB hK) (cs_IOB hK) hce hcv hcl ?_
    refine lv_astore_n (lv' := [(3, .ref q9), (0, .ref (ad 0 0)), (1, .int a), (2, .ref (ad 46 0))]) hx hb dL_isTrue_19 rfl hl (by decide) rfl (fun ls hl => ?_)
    refine lv_iconst (v := nI 1) hx hb dL_isTrue_20 (by decide) ?_
    exact r_iret hx hb hr hlocks hS ⟨_, rfl, by rw [h1], ⟨L9, hI9⟩, ⟨f, ((hF9.1 46 0 (by decide)).1).trans hO, fun z => absurd z hne⟩, hF9.o⟩ (Nat.le_of_ble_eq_true rfl) (Nat.le_of_ble_eq_true rfl) dL_isTrue_21
  obtain ⟨⟨h0, rfl⟩, L9, hI9, hF9⟩ := hQ
  have e460 : ad 46 0 = ad9 46 0 := ((hF9.1 46 0 (by decide)).2).symm
  rw [e460]
  obtain ⟨bb, hbb⟩ : ∃ b, (qS T (byN (nC T) a (fun j => bI (tru T j)))).2.1 = bI b := byN_b h0
  refine r_top (y := bI bb) hbb ?_
  refine r_ifb_eq (b := bb) (tgt := 14) hx hb dL_isTrue_7 (by decide) (fun q7 => ?_) (fun q7 => ?_)
  · -- T
    refine lv_lconst (v := 0) hx hb dL_isTrue_14 rfl ?_
    refine r_last hx hb hK.1 hS 1 (((hF9.1 46 0 (by decide)).1).trans hO) rfl (nI_in0 (by omega) (by omega)) (f' := vp_updL f 0 0) (by rw [nI_clamp (by omega)]) dL_isTrue_15 (fun H locs hS => ?_)
    refine lv_goto (tgt := 22) hx hb dL_isTrue_16 (by decide) ?_
    refine lv_iconst (v := nI 0) hx hb dL_isTrue_22 (by decide) ?_
    exact r_iret hx hb hr hlocks hS ⟨_, rfl, by rw [h0], ⟨L9, hI9.fr (fun k i hk => ⟨ru_n (fun z => by omega), rfl⟩)⟩, ⟨_, ru_e, fun _ => pk_uLs.trans (by rw [hbb, q7]; rfl)⟩, hF9.o2⟩ (Nat.le_of_ble_eq_true rfl) (Nat.le_of_ble_eq_true rfl) dL_isTrue_23
  · -- F
    refine lv_lconst (v := 1) hx hb dL_isTrue_10 rfl ?_
    refine lv_goto (tgt := 15) hx hb dL_isTrue_11 (by decide) ?_
    refine r_last hx hb hK.1 hS 1 (((hF9.1 46 0 (by decide)).1).trans hO) rfl (nI_in0 (by omega) (by omega)) (f' := vp_updL f 0 1) (by rw [nI_clamp (by omega)]) dL_isTrue_15 (fun H locs hS => ?_)
    refine lv_goto (tgt := 22) hx hb dL_isTrue_16 (by decide) ?_
    refine lv_iconst (v := nI 0) hx hb dL_isTrue_22 (by decide) ?_
    exact r_iret hx hb hr hlocks hS ⟨_, rfl, by rw [h0], ⟨L9, hI9.fr (fun k i hk => ⟨ru_n (fun z => by omega), rfl⟩)⟩, ⟨_, ru_e, fun _ => pk_uLs.trans (by rw [hbb, q7]; rfl)⟩, hF9.o2⟩ (Nat.le_of_ble_eq_true rfl) (Nat.le_of_ble_eq_true rfl) dL_isTrue_23

set_option maxHeartbeats 4000000 in
set_option maxRecDepth 100000 in
theorem c_L_rarity {G : rG} {l : Launch} {T : rTab} {L : rL} {C : rC} {ad : rA} {f : Nat → Int64} (hlt : l.stackTraces = false) (hI : cInv G T L C ad) (hO : C 46 0 = some (oA G f)) (a : Int32) : rMetH G l yL_rarity cL_rarity 4 (some .int) [(0, 9, 12, 13)] (rmM 10 1 6) [.ref (ad 0 0), .int a, .ref (ad 46 0)] C ad (rRet (lP G (qS T (byN (nD T) a (fun d => nI (rar T d)))) C ad)) := by
  refine rMetH.of (by decide) ?_
  intro p e s m below meth c hx hb hml hr hlocks hown hname hK hZ hS htb
  have hown : s.vm.findClass RL = some m.cls := hown
  have hA : ∀ q : Nat, s.heap.size ≤ q → (rF C ad s.heap.size) q := rF.new
  refine r_entry _ (Nat.le_of_ble_eq_true rfl) (fun ls hl => ?_)
  have hl : lv_has ls 4 [(0, .ref (ad 0 0)), (1, .int a), (2, .ref (ad 46 0))] := hl
  refine lv_aload_n hx hb dL_rarity_0 rfl (lv_at hl 2 rfl) ?_
  refine lv_iconst (v := nI 0) hx hb dL_rarity_1 (by decide) ?_
  refine lv_aload_n hx hb dL_rarity_2 rfl (lv_at hl 0 rfl) ?_
  refine lv_iload_n hx hb dL_rarity_3 rfl (lv_at hl 1 rfl) ?_
  refine cl_L_54 hx hb hml hown hK hZ hS hA ((c_X4_rarity hlt hI a).post (rq_p hI) (rq_x hI)) hI.reg rfl hl.1 (Nat.le_of_ble_eq_true rfl) ⟨Nat.le_of_ble_eq_true rfl, Nat.le_of_ble_eq_true rfl⟩ ⟨Nat.le_of_ble_eq_true rfl, Nat.le_of_ble_eq_true rfl⟩ rfl dL_rarity_4 ?_ (r_kr (fun r C9 ad9 H locs hQ hS => ?_))
  · -- thrown
    intro E ce q9 C9 ad9 H locs hX9 hS hce hcv hcl
    obtain ⟨⟨hne, rfl⟩, L9, hI9, hF9⟩ := hX9
    have hle : (qS T (byN (nD T) a (fun d => nI (rar T d)))).1 ≤ 1 := byN_le (n := (nD T)) (a := a) (f := fun d => nI (rar T d))
    have h1 : (qS T (byN (nD T) a (fun d => nI (rar T d)))).1 = 1 := by omega
    have hce1 : ecI (qS T (byN (nD T) a (fun d => nI (rar T d)))).1 = "java/lang/IndexOutOfBoundsException" := by rw [h1]; rfl
    rw [hce1] at hcl
    refine vx_catch (name := "java/lang/IndexOutOfBoundsException") hown [] ⟨0, 9, 12, 13⟩ [] htb (fun z hz => absurd hz List.not_mem_nil) rfl (by decide) (lk_IOB hK) (cs_IOB hK) hce hcv hcl ?_
    refine lv_astore_n (lv' := [(3, .ref q9), (0, .ref (ad 0 0)), (1, .int a), (2, .ref (ad 46 0))]) hx hb dL_rarity_12 rfl hl (by decide) rfl (fun ls hl => ?_)
    refine lv_iconst (v := nI 1) hx hb dL_rarity_13 (by decide) ?_
    exact r_iret hx hb hr hlocks hS ⟨_, rfl, by rw [h1], ⟨L9, hI9⟩, ⟨f, ((hF9.1 46 0 (by decide)).1).trans hO, fun z => absurd z hne⟩, hF9.o⟩ (Nat.le_of_ble_eq_true rfl) (Nat.le_of_ble_eq_true rfl) dL_rarity_14
  obtain ⟨⟨h0, rfl⟩, L9, hI9, hF9⟩ := hQ
  have e460 : ad 46 0 = ad9 46 0 := ((hF9.1 46 0 (by decide)).2).symm
  rw [e460]
  refine lv_i2l (v := ((qS T (byN (nD T) a (fun d => nI (rar T d)))).2.1).toInt64) hx hb dL_rarity_7 rfl ?_
  refine r_last hx hb hK.1 hS 1 (((hF9.1 46 0 (by decide)).1).trans hO) rfl (nI_in0 (by omega) (by omega)) (f' := vp_updL f 0 (((qS T (byN (nD T) a (fun d => nI (rar T d)))).2.1).toInt64)) (by rw [nI_clamp (by omega)]) dL_rarity_8 (fun H locs hS => ?_)
  refine lv_goto (tgt := 15) hx hb dL_rarity_9 (by decide) ?_
  refine lv_iconst (v := nI 0) hx hb dL_rarity_15 (by decide) ?_
  exact r_iret hx hb hr hlocks hS ⟨_, rfl, by rw [h0], ⟨L9, hI9.fr (fun k i hk => ⟨ru_n (fun z => by omega), rfl⟩)⟩, ⟨_, ru_e, fun _ => pk_uLs⟩, hF9.o2⟩ (Nat.le_of_ble_eq_true rfl) (Nat.le_of_ble_eq_true rfl) dL_rarity_16

set_option maxHeartbeats 4000000 in
set_option maxRecDepth 100000 in
theorem c_L_rarityByCoins {G : rG} {l : Launch} {T : rTab} {L : rL} {C : rC} {ad : rA} {f : Nat → Int64} (hlt : l.stackTraces = false) (hI : cInv G T L C ad) (hO : C 46 0 = some (oA G f)) (a : Int32) : rMetH G l yL_rarityByCoins cL_rarityByCoins 4 (some .int) [(0, 9, 12, 13)] (rmM 10 1 6) [.ref (ad 0 0), .int a, .ref (ad 46 0)] C ad (rRet (lP G (qS T (byN (nD T) a (fun d => nI (rar T d)))) C ad)) := by
  refine rMetH.of (by decide) ?_
  intro p e s m below meth c hx hb hml hr hlocks hown hname hK hZ hS htb
  have hown : s.vm.findClass RL = some m.cls := hown
  have hA : ∀ q : Nat, s.heap.size ≤ q → (rF C ad s.heap.size) q := rF.new
  refine r_entry _ (Nat.le_of_ble_eq_true rfl) (fun ls hl => ?_)
  have hl : lv_has ls 4 [(0, .ref (ad 0 0)), (1, .int a), (2, .ref (ad 46 0))] := hl
  refine lv_aload_n hx hb dL_rarityByCoins_0 rfl (lv_at hl 2 rfl) ?_
  refine lv_iconst (v := nI 0) hx hb dL_rarityByCoins_1 (by decide) ?_
  refine lv_aload_n hx hb dL_rarityByCoins_2 rfl (lv_at hl 0 rfl) ?_
  refine lv_iload_n hx hb dL_rarityByCoins_3 rfl (lv_at hl 1 rfl) ?_
  refine cl_L_57 hx hb hml hown hK hZ hS hA ((c_X4_rarityByCoins hlt hI a).post (rq_p hI) (rq_x hI)) hI.reg rfl hl.1 (Nat.le_of_ble_eq_true rfl) ⟨Nat.le_of_ble_eq_true rfl, Nat.le_of_ble_eq_true rfl⟩ ⟨Nat.le_of_ble_eq_true rfl, Nat.le_of_ble_eq_true rfl⟩ rfl dL_rarityByCoins_4 ?_ (r_kr (fun r C9 ad9 H locs hQ hS => ?_))
  · -- thrown
    intro E ce q9 C9 ad9 H locs hX9 hS hce hcv hcl
    obtain ⟨⟨hne, rfl⟩, L9, hI9, hF9⟩ := hX9
    have hle : (qS T (byN (nD T) a (fun d => nI (rar T d)))).1 ≤ 1 := byN_le (n := (nD T)) (a := a) (f := fun d => nI (rar T d))
    have h1 : (qS T (byN (nD T) a (fun d => nI (rar T d)))).1 = 1 := by omega
    have hce1 : ecI (qS T (byN (nD T) a (fun d => nI (rar T d)))).1 = "java/lang/IndexOutOfBoundsException" := by rw [h1]; rfl
    rw [hce1] at hcl
    refine vx_catch (name := "java/lang/IndexOutOfBoundsException") hown [] ⟨0, 9, 12, 13⟩ [] htb (fun z hz => absurd hz List.not_mem_nil) rfl (by decide) (lk_IOB hK) (cs_IOB hK) hce hcv hcl ?_
    refine lv_astore_n (lv' := [(3, .ref q9), (0, .ref (ad 0 0)), (1, .int a), (2, .ref (ad 46 0))]) hx hb dL_rarityByCoins_12 rfl hl (by decide) rfl (fun ls hl => ?_)
    refine lv_iconst (v := nI 1) hx hb dL_rarityByCoins_13 (by decide) ?_
    exact r_iret hx hb hr hlocks hS ⟨_, rfl, by rw [h1], ⟨L9, hI9⟩, ⟨f, ((hF9.1 46 0 (by decide)).1).trans hO, fun z => absurd z hne⟩, hF9.o⟩ (Nat.le_of_ble_eq_true rfl) (Nat.le_of_ble_eq_true rfl) dL_rarityByCoins_14
  obtain ⟨⟨h0, rfl⟩, L9, hI9, hF9⟩ := hQ
  have e460 : ad 46 0 = ad9 46 0 := ((hF9.1 46 0 (by decide)).2).symm
  rw [e460]
  refine lv_i2l (v := ((qS T (byN (nD T) a (fun d => nI (rar T d)))).2.1).toInt64) hx hb dL_rarityByCoins_7 rfl ?_
  refine r_last hx hb hK.1 hS 1 (((hF9.1 46 0 (by decide)).1).trans hO) rfl (nI_in0 (by omega) (by omega)) (f' := vp_updL f 0 (((qS T (byN (nD T) a (fun d => nI (rar T d)))).2.1).toInt64)) (by rw [nI_clamp (by omega)]) dL_rarityByCoins_8 (fun H locs hS => ?_)
  refine lv_goto (tgt := 15) hx hb dL_rarityByCoins_9 (by decide) ?_
  refine lv_iconst (v := nI 0) hx hb dL_rarityByCoins_15 (by decide) ?_
  exact r_iret hx hb hr hlocks hS ⟨_, rfl, by rw [h0], ⟨L9, hI9.fr (fun k i hk => ⟨ru_n (fun z => by omega), rfl⟩)⟩, ⟨_, ru_e, fun _ => pk_uLs⟩, hF9.o2⟩ (Nat.le_of_ble_eq_true rfl) (Nat.le_of_ble_eq_true rfl) dL_rarityByCoins_16

set_option maxHeartbeats 4000000 in
set_option maxRecDepth 100000 in
theorem c_L_price {G : rG} {l : Launch} {T : rTab} {L : rL} {C : rC} {ad : rA} {f : Nat → Int64} (hlt : l.stackTraces = false) (hI : cInv G T L C ad) (hO : C 46 0 = some (oA G f)) (a : Int32) : rMetH G l yL_price cL_price 4 (some .int) [(0, 9, 12, 13)] (rmM 10 1 6) [.ref (ad 0 0), .int a, .ref (ad 46 0)] C ad (rRet (lP G (qS T (byN (nC T) a (fun j => nI (priceN T j)))) C ad)) := by
  refine rMetH.of (by decide) ?_
  intro p e s m below meth c hx hb hml hr hlocks hown hname hK hZ hS htb
  have hown : s.vm.findClass RL = some m.cls := hown
  have hA : ∀ q : Nat, s.heap.size ≤ q → (rF C ad s.heap.size) q := rF.new
  refine r_entry _ (Nat.le_of_ble_eq_true rfl) (fun ls hl => ?_)
  have hl : lv_has ls 4 [(0, .ref (ad 0 0)), (1, .int a), (2, .ref (ad 46 0))] := hl
  refine lv_aload_n hx hb dL_price_0 rfl (lv_at hl 2 rfl) ?_
  refine lv_iconst (v := nI 0) hx hb dL_price_1 (by decide) ?_
  refine lv_aload_n hx hb dL_price_2 rfl (lv_at hl 0 rfl) ?_
  refine lv_iload_n hx hb dL_price_3 rfl (lv_at hl 1 rfl) ?_
  refine cl_L_60 hx hb hml hown hK hZ hS hA ((c_X4_price hlt hI a).post (rq_p hI) (rq_x hI)) hI.reg rfl hl.1 (Nat.le_of_ble_eq_true rfl) ⟨Nat.le_of_ble_eq_true rfl, Nat.le_of_ble_eq_true rfl⟩ ⟨Nat.le_of_ble_eq_true rfl, Nat.le_of_ble_eq_true rfl⟩ rfl dL_price_4 ?_ (r_kr (fun r C9 ad9 H locs hQ hS => ?_))
  · -- thrown
    intro E ce q9 C9 ad9 H locs hX9 hS hce hcv hcl
    obtain ⟨⟨hne, rfl⟩, L9, hI9, hF9⟩ := hX9
    have hle : (qS T (byN (nC T) a (fun j => nI (priceN T j)))).1 ≤ 1 := byN_le (n := (nC T)) (a := a) (f := fun j => nI (priceN T j))
    have h1 : (qS T (byN (nC T) a (fun j => nI (priceN T j)))).1 = 1 := by omega
    have hce1 : ecI (qS T (byN (nC T) a (fun j => nI (priceN T j)))).1 = "java/lang/IndexOutOfBoundsException" := by rw [h1]; rfl
    rw [hce1] at hcl
    refine vx_catch (name := "java/lang/IndexOutOfBoundsException") hown [] ⟨0, 9, 12, 13⟩ [] htb (fun z hz => absurd hz List.not_mem_nil) rfl (by decide) (lk_IOB hK) (cs_IOB hK) hce hcv hcl ?_
    refine lv_astore_n (lv' := [(3, .ref q9), (0, .ref (ad 0 0)), (1, .int a), (2, .ref (ad 46 0))]) hx hb dL_price_12 rfl hl (by decide) rfl (fun ls hl => ?_)
    refine lv_iconst (v := nI 1) hx hb dL_price_13 (by decide) ?_
    exact r_iret hx hb hr hlocks hS ⟨_, rfl, by rw [h1], ⟨L9, hI9⟩, ⟨f, ((hF9.1 46 0 (by decide)).1).trans hO, fun z => absurd z hne⟩, hF9.o⟩ (Nat.le_of_ble_eq_true rfl) (Nat.le_of_ble_eq_true rfl) dL_price_14
  obtain ⟨⟨h0, rfl⟩, L9, hI9, hF9⟩ := hQ
  have e460 : ad 46 0 = ad9 46 0 := ((hF9.1 46 0 (by decide)).2).symm
  rw [e460]
  refine lv_i2l (v := ((qS T (byN (nC T) a (fun j => nI (priceN T j)))).2.1).toInt64) hx hb dL_price_7 rfl ?_
  refine r_last hx hb hK.1 hS 1 (((hF9.1 46 0 (by decide)).1).trans hO) rfl (nI_in0 (by omega) (by omega)) (f' := vp_updL f 0 (((qS T (byN (nC T) a (fun j => nI (priceN T j)))).2.1).toInt64)) (by rw [nI_clamp (by omega)]) dL_price_8 (fun H locs hS => ?_)
  refine lv_goto (tgt := 15) hx hb dL_price_9 (by decide) ?_
  refine lv_iconst (v := nI 0) hx hb dL_price_15 (by decide) ?_
  exact r_iret hx hb hr hlocks hS ⟨_, rfl, by rw [h0], ⟨L9, hI9.fr (fun k i hk => ⟨ru_n (fun z => by omega), rfl⟩)⟩, ⟨_, ru_e, fun _ => pk_uLs⟩, hF9.o2⟩ (Nat.le_of_ble_eq_true rfl) (Nat.le_of_ble_eq_true rfl) dL_price_16

set_option maxHeartbeats 4000000 in
set_option maxRecDepth 100000 in
theorem c_L_give {G : rG} {l : Launch} {T : rTab} {L : rL} {C : rC} {ad : rA} {f : Nat → Int64} (hlt : l.stackTraces = false) (hI : cInv G T L C ad) (hO : C 46 0 = some (oA G f)) (a : Int32) (b : Int32) : rMetH G l yL_give cL_give 5 (some .int) [(0, 10, 13, 13), (0, 10, 17, 15)] (rmM 14 4 44) [.ref (ad 0 0), .int a, .int b, .ref (ad 46 0)] C ad (rRet (lP G (sGive T a b) C ad)) := by
  refine rMetH.of (by decide) ?_
  intro p e s m below meth c hx hb hml hr hlocks hown hname hK hZ hS htb
  have hown : s.vm.findClass RL = some m.cls := hown
  have hA : ∀ q : Nat, s.heap.size ≤ q → (rF C ad s.heap.size) q := rF.new
  refine r_entry _ (Nat.le_of_ble_eq_true rfl) (fun ls hl => ?_)
  have hl : lv_has ls 5 [(0, .ref (ad 0 0)), (1, .int a), (2, .int b), (3, .ref (ad 46 0))] := hl
  refine lv_aload_n hx hb dL_give_0 rfl (lv_at hl 3 rfl) ?_
  refine lv_iconst (v := nI 0) hx hb dL_give_1 (by decide) ?_
  refine lv_aload_n hx hb dL_give_2 rfl (lv_at hl 0 rfl) ?_
  refine lv_iload_n hx hb dL_give_3 rfl (lv_at hl 1 rfl) ?_
  refine lv_iload_n hx hb dL_give_4 rfl (lv_at hl 2 rfl) ?_
  refine cl_L_63 hx hb hml hown hK hZ hS hA (c_X4_give hlt hI a b) hI.reg rfl hl.1 (Nat.le_of_ble_eq_true rfl) ⟨Nat.le_of_ble_eq_true rfl, Nat.le_of_ble_eq_true rfl⟩ ⟨Nat.le_of_ble_eq_true rfl, Nat.le_of_ble_eq_true rfl⟩ rfl dL_give_5 ?_ (r_kr (fun r C9 ad9 H locs hQ hS => ?_))
  · -- thrown
    intro E ce q9 C9 ad9 H locs hX9 hS hce hcv hcl
    obtain ⟨⟨hne, rfl⟩, L9, hI9, hF9⟩ := hX9
    have hle : (sGive T a b).1 ≤ 2 := sGive_le (T := T) (a := a) (b := b)
    by_cases h1 : (sGive T a b).1 = 1
    · -- caught
      have hce1 : ec2 (sGive T a b).1 = "java/lang/IndexOutOfBoundsException" := by rw [h1]; rfl
      rw [hce1] at hcl
      refine vx_catch (name := "java/lang/IndexOutOfBoundsException") hown [] ⟨0, 10, 13, 13⟩ [⟨0, 10, 17, 15⟩] htb (fun z hz => absurd hz List.not_mem_nil) rfl (by decide) (lk_IOB hK) (cs_IOB hK) hce hcv hcl ?_
      refine lv_astore (lv' := [(4, .ref q9), (0, .ref (ad 0 0)), (1, .int a), (2, .int b), (3, .ref (ad 46 0))]) hx hb dL_give_13 hl (by decide) rfl (fun ls hl => ?_)
      refine lv_iconst (v := nI 1) hx hb dL_give_15 (by decide) ?_
      exact r_iret hx hb hr hlocks hS ⟨_, rfl, by rw [h1], ⟨L9, hI9⟩, ⟨f, ((hF9.1 46 0 (by decide)).1).trans hO, fun z => absurd z hne⟩, hF9.o⟩ (Nat.le_of_ble_eq_true rfl) (Nat.le_of_ble_eq_true rfl) dL_give_16
    have h2 : (sGive T a b).1 = 2 := by omega
    have hce1 : ec2 (sGive T a b).1 = "java/lang/IllegalStateException" := by rw [h2]; rfl
    rw [hce1] at hcl
    refine vx_catch (name := "java/lang/IllegalStateException") hown [⟨0, 10, 13, 13⟩] ⟨0, 10, 17, 15⟩ [] htb (fun z hz => by rw [List.mem_singleton.mp hz]; exact Or.inr ⟨by decide, _, lk_IOB hK, nc_ISE_IOB hK⟩) rfl (by decide) (lk_ISE hK) (cs_ISE hK) hce hcv hcl ?_
    refine lv_astore (lv' := [(4, .ref q9), (0, .ref (ad 0 0)), (1, .int a), (2, .int b), (3, .ref (ad 46 0))]) hx hb dL_give_17 hl (by decide) rfl (fun ls hl => ?_)
    refine lv_iconst (v := nI 2) hx hb dL_give_19 (by decide) ?_
    exact r_iret hx hb hr hlocks hS ⟨_, rfl, by rw [h2], ⟨L9, hI9⟩, ⟨f, ((hF9.1 46 0 (by decide)).1).trans hO, fun z => absurd z hne⟩, hF9.o⟩ (Nat.le_of_ble_eq_true rfl) (Nat.le_of_ble_eq_true rfl) dL_give_20
  obtain ⟨⟨h0, rfl⟩, L9, hI9, hF9⟩ := hQ
  have e460 : ad 46 0 = ad9 46 0 := ((hF9.1 46 0 (by decide)).2).symm
  rw [e460]
  refine lv_i2l (v := ((sGive T a b).2.1).toInt64) hx hb dL_give_8 rfl ?_
  refine r_last hx hb hK.1 hS 1 (((hF9.1 46 0 (by decide)).1).trans hO) rfl (nI_in0 (by omega) (by omega)) (f' := vp_updL f 0 (((sGive T a b).2.1).toInt64)) (by rw [nI_clamp (by omega)]) dL_give_9 (fun H locs hS => ?_)
  refine lv_goto (tgt := 21) hx hb dL_give_10 (by decide) ?_
  refine lv_iconst (v := nI 0) hx hb dL_give_21 (by decide) ?_
  exact r_iret hx hb hr hlocks hS ⟨_, rfl, by rw [h0], ⟨L9, hI9.fr (fun k i hk => ⟨ru_n (fun z => by omega), rfl⟩)⟩, ⟨_, ru_e, fun _ => pk_uLs⟩, hF9.o2⟩ (Nat.le_of_ble_eq_true rfl) (Nat.le_of_ble_eq_true rfl) dL_give_22

set_option maxHeartbeats 4000000 in
set_option maxRecDepth 100000 in
theorem c_L_want {G : rG} {l : Launch} {T : rTab} {L : rL} {C : rC} {ad : rA} {f : Nat → Int64} (hlt : l.stackTraces = false) (hI : cInv G T L C ad) (hO : C 46 0 = some (oA G f)) (a : Int32) (b : Int32) (w : Bool) : rMetH G l yL_want cL_want 6 (some .int) [(0, 12, 15, 13), (0, 12, 19, 15)] (rmM 14 3 18) [.ref (ad 0 0), .int a, .int b, .int (bI w), .ref (ad 46 0)] C ad (rRet (lP G (sWant T a b w) C ad)) := by
  refine rMetH.of (by decide) ?_
  intro p e s m below meth c hx hb hml hr hlocks hown hname hK hZ hS htb
  have hown : s.vm.findClass RL = some m.cls := hown
  have hA : ∀ q : Nat, s.heap.size ≤ q → (rF C ad s.heap.size) q := rF.new
  refine r_entry _ (Nat.le_of_ble_eq_true rfl) (fun ls hl => ?_)
  have hl : lv_has ls 6 [(0, .ref (ad 0 0)), (1, .int a), (2, .int b), (3, .int (bI w)), (4, .ref (ad 46 0))] := hl
  refine lv_aload hx hb dL_want_0 (lv_at hl 4 rfl) ?_
  refine lv_iconst (v := nI 0) hx hb dL_want_2 (by decide) ?_
  refine lv_aload_n hx hb dL_want_3 rfl (lv_at hl 0 rfl) ?_
  refine lv_iload_n hx hb dL_want_4 rfl (lv_at hl 1 rfl) ?_
  refine lv_iload_n hx hb dL_want_5 rfl (lv_at hl 2 rfl) ?_
  refine lv_iload_n hx hb dL_want_6 rfl (lv_at hl 3 rfl) ?_
  refine cl_L_66 hx hb hml hown hK hZ hS hA (c_X4_want hlt hI a b w) hI.reg rfl hl.1 (Nat.le_of_ble_eq_true rfl) ⟨Nat.le_of_ble_eq_true rfl, Nat.le_of_ble_eq_true rfl⟩ ⟨Nat.le_of_ble_eq_true rfl, Nat.le_of_ble_eq_true rfl⟩ rfl dL_want_7 ?_ (r_kr (fun r C9 ad9 H locs hQ hS => ?_))
  · -- thrown
    intro E ce q9 C9 ad9 H locs hX9 hS hce hcv hcl
    obtain ⟨⟨hne, rfl⟩, L9, hI9, hF9⟩ := hX9
    have hle : (sWant T a b w).1 ≤ 2 := sWant_le (T := T) (a := a) (b := b) (w := w)
    by_cases h1 : (sWant T a b w).1 = 1
    · -- caught
      have hce1 : ec2 (sWant T a b w).1 = "java/lang/IndexOutOfBoundsException" := by rw [h1]; rfl
      rw [hce1] at hcl
      refine vx_catch (name := "java/lang/IndexOutOfBoundsException") hown [] ⟨0, 12, 15, 13⟩ [⟨0, 12, 19, 15⟩] htb (fun z hz => absurd hz List.not_mem_nil) rfl (by decide) (lk_IOB hK) (cs_IOB hK) hce hcv hcl ?_
      refine lv_astore (lv' := [(5, .ref q9), (0, .ref (ad 0 0)), (1, .int a), (2, .int b), (3, .int (bI w)), (4, .ref (ad 46 0))]) hx hb dL_want_15 hl (by decide) rfl (fun ls hl => ?_)
      refine lv_iconst (v := nI 1) hx hb dL_want_17 (by decide) ?_
      exact r_iret hx hb hr hlocks hS ⟨_, rfl, by rw [h1], ⟨L9, hI9⟩, ⟨f, ((hF9.1 46 0 (by decide)).1).trans hO, fun z => absurd z hne⟩, hF9.o⟩ (Nat.le_of_ble_eq_true rfl) (Nat.le_of_ble_eq_true rfl) dL_want_18
    have h2 : (sWant T a b w).1 = 2 := by omega
    have hce1 : ec2 (sWant T a b w).1 = "java/lang/IllegalStateException" := by rw [h2]; rfl
    rw [hce1] at hcl
    refine vx_catch (name := "java/lang/IllegalStateException") hown [⟨0, 12, 15, 13⟩] ⟨0, 12, 19, 15⟩ [] htb (fun z hz => by rw [List.mem_singleton.mp hz]; exact Or.inr ⟨by decide, _, lk_IOB hK, nc_ISE_IOB hK⟩) rfl (by decide) (lk_ISE hK) (cs_ISE hK) hce hcv hcl ?_
    refine lv_astore (lv' := [(5, .ref q9), (0, .ref (ad 0 0)), (1, .int a), (2, .int b), (3, .int (bI w)), (4, .ref (ad 46 0))]) hx hb dL_want_19 hl (by decide) rfl (fun ls hl => ?_)
    refine lv_iconst (v := nI 2) hx hb dL_want_21 (by decide) ?_
    exact r_iret hx hb hr hlocks hS ⟨_, rfl, by rw [h2], ⟨L9, hI9⟩, ⟨f, ((hF9.1 46 0 (by decide)).1).trans hO, fun z => absurd z hne⟩, hF9.o⟩ (Nat.le_of_ble_eq_true rfl) (Nat.le_of_ble_eq_true rfl) dL_want_22
  obtain ⟨⟨h0, rfl⟩, L9, hI9, hF9⟩ := hQ
  have e460 : ad 46 0 = ad9 46 0 := ((hF9.1 46 0 (by decide)).2).symm
  rw [e460]
  refine lv_i2l (v := ((sWant T a b w).2.1).toInt64) hx hb dL_want_10 rfl ?_
  refine r_last hx hb hK.1 hS 1 (((hF9.1 46 0 (by decide)).1).trans hO) rfl (nI_in0 (by omega) (by omega)) (f' := vp_updL f 0 (((sWant T a b w).2.1).toInt64)) (by rw [nI_clamp (by omega)]) dL_want_11 (fun H locs hS => ?_)
  refine lv_goto (tgt := 23) hx hb dL_want_12 (by decide) ?_
  refine lv_iconst (v := nI 0) hx hb dL_want_23 (by decide) ?_
  exact r_iret hx hb hr hlocks hS ⟨_, rfl, by rw [h0], ⟨L9, hI9.fr (fun k i hk => ⟨ru_n (fun z => by omega), rfl⟩)⟩, ⟨_, ru_e, fun _ => pk_uLs⟩, hF9.o2⟩ (Nat.le_of_ble_eq_true rfl) (Nat.le_of_ble_eq_true rfl) dL_want_24

set_option maxHeartbeats 4000000 in
set_option maxRecDepth 100000 in
theorem c_L_setFairness {G : rG} {l : Launch} {T : rTab} {L : rL} {C : rC} {ad : rA} {f : Nat → Int64} (hlt : l.stackTraces = false) (hI : cInv G T L C ad) (hO : C 46 0 = some (oA G f)) (a : Int32) (b : Int32) : rMetH G l yL_setFairness cL_setFairness 5 (some .int) [(0, 10, 13, 13), (0, 10, 17, 21)] (rmM 14 2 12) [.ref (ad 0 0), .int a, .int b, .ref (ad 46 0)] C ad (rRet (lP G (sFair T a b) C ad)) := by
  refine rMetH.of (by decide) ?_
  intro p e s m below meth c hx hb hml hr hlocks hown hname hK hZ hS htb
  have hown : s.vm.findClass RL = some m.cls := hown
  have hA : ∀ q : Nat, s.heap.size ≤ q → (rF C ad s.heap.size) q := rF.new
  refine r_entry _ (Nat.le_of_ble_eq_true rfl) (fun ls hl => ?_)
  have hl : lv_has ls 5 [(0, .ref (ad 0 0)), (1, .int a), (2, .int b), (3, .ref (ad 46 0))] := hl
  refine lv_aload_n hx hb dL_setFairness_0 rfl (lv_at hl 3 rfl) ?_
  refine lv_iconst (v := nI 0) hx hb dL_setFairness_1 (by decide) ?_
  refine lv_aload_n hx hb dL_setFairness_2 rfl (lv_at hl 0 rfl) ?_
  refine lv_iload_n hx hb dL_setFairness_3 rfl (lv_at hl 1 rfl) ?_
  refine lv_iload_n hx hb dL_setFairness_4 rfl (lv_at hl 2 rfl) ?_
  refine cl_L_70 hx hb hml hown hK hZ hS hA (c_X4_setFairness hlt hI a b) hI.reg rfl hl.1 (Nat.le_of_ble_eq_true rfl) ⟨Nat.le_of_ble_eq_true rfl, Nat.le_of_ble_eq_true rfl⟩ ⟨Nat.le_of_ble_eq_true rfl, Nat.le_of_ble_eq_true rfl⟩ rfl dL_setFairness_5 ?_ (r_kr (fun r C9 ad9 H locs hQ hS => ?_))
  · -- thrown
    intro E ce q9 C9 ad9 H locs hX9 hS hce hcv hcl
    obtain ⟨⟨hne, rfl⟩, L9, hI9, hF9⟩ := hX9
    have hle : (sFair T a b).1 ≤ 2 := sFair_le (T := T) (a := a) (b := b)
    by_cases h1 : (sFair T a b).1 = 1
    · -- caught
      have hce1 : ec3 (sFair T a b).1 = "java/lang/IndexOutOfBoundsException" := by rw [h1]; rfl
      rw [hce1] at hcl
      refine vx_catch (name := "java/lang/IndexOutOfBoundsException") hown [] ⟨0, 10, 13, 13⟩ [⟨0, 10, 17, 21⟩] htb (fun z hz => absurd hz List.not_mem_nil) rfl (by decide) (lk_IOB hK) (cs_IOB hK) hce hcv hcl ?_
      refine lv_astore (lv' := [(4, .ref q9), (0, .ref (ad 0 0)), (1, .int a), (2, .int b), (3, .ref (ad 46 0))]) hx hb dL_setFairness_13 hl (by decide) rfl (fun ls hl => ?_)
      refine lv_iconst (v := nI 1) hx hb dL_setFairness_15 (by decide) ?_
      exact r_iret hx hb hr hlocks hS ⟨_, rfl, by rw [h1], ⟨L9, hI9⟩, ⟨f, ((hF9.1 46 0 (by decide)).1).trans hO, fun z => absurd z hne⟩, hF9.o⟩ (Nat.le_of_ble_eq_true rfl) (Nat.le_of_ble_eq_true rfl) dL_setFairness_16
    have h2 : (sFair T a b).1 = 2 := by omega
    have hce1 : ec3 (sFair T a b).1 = "java/lang/IllegalArgumentException" := by rw [h2]; rfl
    rw [hce1] at hcl
    refine vx_catch (name := "java/lang/IllegalArgumentException") hown [⟨0, 10, 13, 13⟩] ⟨0, 10, 17, 21⟩ [] htb (fun z hz => by rw [List.mem_singleton.mp hz]; exact Or.inr ⟨by decide, _, lk_IOB hK, nc_IAE_IOB hK⟩) rfl (by decide) (lk_IAE hK) (cs_IAE hK) hce hcv hcl ?_
    refine lv_astore (lv' := [(4, .ref q9), (0, .ref (ad 0 0)), (1, .int a), (2, .int b), (3, .ref (ad 46 0))]) hx hb dL_setFairness_17 hl (by decide) rfl (fun ls hl => ?_)
    refine lv_iconst (v := nI 2) hx hb dL_setFairness_19 (by decide) ?_
    exact r_iret hx hb hr hlocks hS ⟨_, rfl, by rw [h2], ⟨L9, hI9⟩, ⟨f, ((hF9.1 46 0 (by decide)).1).trans hO, fun z => absurd z hne⟩, hF9.o⟩ (Nat.le_of_ble_eq_true rfl) (Nat.le_of_ble_eq_true rfl) dL_setFairness_20
  obtain ⟨⟨h0, rfl⟩, L9, hI9, hF9⟩ := hQ
  have e460 : ad 46 0 = ad9 46 0 := ((hF9.1 46 0 (by decide)).2).symm
  rw [e460]
  refine lv_i2l (v := ((sFair T a b).2.1).toInt64) hx hb dL_setFairness_8 rfl ?_
  refine r_last hx hb hK.1 hS 1 (((hF9.1 46 0 (by decide)).1).trans hO) rfl (nI_in0 (by omega) (by omega)) (f' := vp_updL f 0 (((sFair T a b).2.1).toInt64)) (by rw [nI_clamp (by omega)]) dL_setFairness_9 (fun H locs hS => ?_)
  refine lv_goto (tgt := 21) hx hb dL_setFairness_10 (by decide) ?_
  refine lv_iconst (v := nI 0) hx hb dL_setFairness_21 (by decide) ?_
  exact r_iret hx hb hr hlocks hS ⟨_, rfl, by rw [h0], ⟨L9, hI9.fr (fun k i hk => ⟨ru_n (fun z => by omega), rfl⟩)⟩, ⟨_, ru_e, fun _ => pk_uLs⟩, hF9.o2⟩ (Nat.le_of_ble_eq_true rfl) (Nat.le_of_ble_eq_true rfl) dL_setFairness_22

set_option maxHeartbeats 4000000 in
set_option maxRecDepth 100000 in
theorem c_L_mark {G : rG} {l : Launch} {T : rTab} {L : rL} {C : rC} {ad : rA} {f : Nat → Int64} (hlt : l.stackTraces = false) (hI : cInv G T L C ad) (hO : C 46 0 = some (oA G f)) (a : Int32) (w : Bool) : rMetH G l yL_mark cL_mark 5 (some .int) [(0, 17, 20, 13), (0, 17, 24, 15)] (rmM 14 2 12) [.ref (ad 0 0), .int a, .int (bI w), .ref (ad 46 0)] C ad (rRet (lP G (sMark T a w) C ad)) := by
  refine rMetH.of (by decide) ?_
  intro p e s m below meth c hx hb hml hr hlocks hown hname hK hZ hS htb
  have hown : s.vm.findClass RL = some m.cls := hown
  have hA : ∀ q : Nat, s.heap.size ≤ q → (rF C ad s.heap.size) q := rF.new
  refine r_entry _ (Nat.le_of_ble_eq_true rfl) (fun ls hl => ?_)
  have hl : lv_has ls 5 [(0, .ref (ad 0 0)), (1, .int a), (2, .int (bI w)), (3, .ref (ad 46 0))] := hl
  refine lv_aload_n hx hb dL_mark_0 rfl (lv_at hl 3 rfl) ?_
  refine lv_iconst (v := nI 0) hx hb dL_mark_1 (by decide) ?_
  refine lv_aload_n hx hb dL_mark_2 rfl (lv_at hl 0 rfl) ?_
  refine lv_iload_n hx hb dL_mark_3 rfl (lv_at hl 1 rfl) ?_
  refine lv_iload_n hx hb dL_mark_4 rfl (lv_at hl 2 rfl) ?_
  refine cl_L_73 hx hb hml hown hK hZ hS hA (c_X4_mark hlt hI a w) hI.reg rfl hl.1 (Nat.le_of_ble_eq_true rfl) ⟨Nat.le_of_ble_eq_true rfl, Nat.le_of_ble_eq_true rfl⟩ ⟨Nat.le_of_ble_eq_true rfl, Nat.le_of_ble_eq_true rfl⟩ rfl dL_mark_5 ?_ (r_kr (fun r C9 ad9 H locs hQ hS => ?_))
  · -- thrown
    intro E ce q9 C9 ad9 H locs hX9 hS hce hcv hcl
    obtain ⟨⟨hne, rfl⟩, L9, hI9, hF9⟩ := hX9
    have hle : (sMark T a w).1 ≤ 2 := sMark_le (T := T) (a := a) (w := w)
    by_cases h1 : (sMark T a w).1 = 1
    · -- caught
      have hce1 : ec2 (sMark T a w).1 = "java/lang/IndexOutOfBoundsException" := by rw [h1]; rfl
      rw [hce1] at hcl
      refine vx_catch (name := "java/lang/IndexOutOfBoundsException") hown [] ⟨0, 17, 20, 13⟩ [⟨0, 17, 24, 15⟩] htb (fun z hz => absurd hz List.not_mem_nil) rfl (by decide) (lk_IOB hK) (cs_IOB hK) hce hcv hcl ?_
      refine lv_astore (lv' := [(4, .ref q9), (0, .ref (ad 0 0)), (1, .int a), (2, .int (bI w)), (3, .ref (ad 46 0))]) hx hb dL_mark_20 hl (by decide) rfl (fun ls hl => ?_)
      refine lv_iconst (v := nI 1) hx hb dL_mark_22 (by decide) ?_
      exact r_iret hx hb hr hlocks hS ⟨_, rfl, by rw [h1], ⟨L9, hI9⟩, ⟨f, ((hF9.1 46 0 (by decide)).1).trans hO, fun z => absurd z hne⟩, hF9.o⟩ (Nat.le_of_ble_eq_true rfl) (Nat.le_of_ble_eq_true rfl) dL_mark_23
    have h2 : (sMark T a w).1 = 2 := by omega
    have hce1 : ec2 (sMark T a w).1 = "java/lang/IllegalStateException" := by rw [h2]; rfl
    rw [hce1] at hcl
    refine vx_catch (name := "java/lang/IllegalStateException") hown [⟨0, 17, 20, 13⟩] ⟨0, 17, 24, 15⟩ [] htb (fun z hz => by rw [List.mem_singleton.mp hz]; exact Or.inr ⟨by decide, _, lk_IOB hK, nc_ISE_IOB hK⟩) rfl (by decide) (lk_ISE hK) (cs_ISE hK) hce hcv hcl ?_
    refine lv_astore (lv' := [(4, .ref q9), (0, .ref (ad 0 0)), (1, .int a), (2, .int (bI w)), (3, .ref (ad 46 0))]) hx hb dL_mark_24 hl (by decide) rfl (fun ls hl => ?_)
    refine lv_iconst (v := nI 2) hx hb dL_mark_26 (by decide) ?_
    exact r_iret hx hb hr hlocks hS ⟨_, rfl, by rw [h2], ⟨L9, hI9⟩, ⟨f, ((hF9.1 46 0 (by decide)).1).trans hO, fun z => absurd z hne⟩, hF9.o⟩ (Nat.le_of_ble_eq_true rfl) (Nat.le_of_ble_eq_true rfl) dL_mark_27
  obtain ⟨⟨h0, rfl⟩, L9, hI9, hF9⟩ := hQ
  have e460 : ad 46 0 = ad9 46 0 := ((hF9.1 46 0 (by decide)).2).symm
  rw [e460]
  obtain ⟨bb, hbb⟩ : ∃ b, (sMark T a w).2.1 = bI b := sMark_b h0
  refine r_top (y := bI bb) hbb ?_
  refine r_ifb_eq (b := bb) (tgt := 15) hx hb dL_mark_8 (by decide) (fun q8 => ?_) (fun q8 => ?_)
  · -- T
    refine lv_lconst (v := 0) hx hb dL_mark_15 rfl ?_
    refine r_last hx hb hK.1 hS 1 (((hF9.1 46 0 (by decide)).1).trans hO) rfl (nI_in0 (by omega) (by omega)) (f' := vp_updL f 0 0) (by rw [nI_clamp (by omega)]) dL_mark_16 (fun H locs hS => ?_)
    refine lv_goto (tgt := 28) hx hb dL_mark_17 (by decide) ?_
    refine lv_iconst (v := nI 0) hx hb dL_mark_28 (by decide) ?_
    exact r_iret hx hb hr hlocks hS ⟨_, rfl, by rw [h0], ⟨L9, hI9.fr (fun k i hk => ⟨ru_n (fun z => by omega), rfl⟩)⟩, ⟨_, ru_e, fun _ => pk_uLs.trans (by rw [hbb, q8]; rfl)⟩, hF9.o2⟩ (Nat.le_of_ble_eq_true rfl) (Nat.le_of_ble_eq_true rfl) dL_mark_29
  · -- F
    refine lv_lconst (v := 1) hx hb dL_mark_11 rfl ?_
    refine lv_goto (tgt := 16) hx hb dL_mark_12 (by decide) ?_
    refine r_last hx hb hK.1 hS 1 (((hF9.1 46 0 (by decide)).1).trans hO) rfl (nI_in0 (by omega) (by omega)) (f' := vp_updL f 0 1) (by rw [nI_clamp (by omega)]) dL_mark_16 (fun H locs hS => ?_)
    refine lv_goto (tgt := 28) hx hb dL_mark_17 (by decide) ?_
    refine lv_iconst (v := nI 0) hx hb dL_mark_28 (by decide) ?_
    exact r_iret hx hb hr hlocks hS ⟨_, rfl, by rw [h0], ⟨L9, hI9.fr (fun k i hk => ⟨ru_n (fun z => by omega), rfl⟩)⟩, ⟨_, ru_e, fun _ => pk_uLs.trans (by rw [hbb, q8]; rfl)⟩, hF9.o2⟩ (Nat.le_of_ble_eq_true rfl) (Nat.le_of_ble_eq_true rfl) dL_mark_29

set_option maxHeartbeats 4000000 in
set_option maxRecDepth 100000 in
theorem c_L_owner {G : rG} {l : Launch} {T : rTab} {L : rL} {C : rC} {ad : rA} {f : Nat → Int64} (hlt : l.stackTraces = false) (hI : cInv G T L C ad) (hO : C 46 0 = some (oA G f)) (a : Int32) : rMetH G l yL_owner cL_owner 4 (some .int) [(0, 9, 12, 13)] (rmM 10 1 6) [.ref (ad 0 0), .int a, .ref (ad 46 0)] C ad (rRet (lP G (qS T (byN (nC T) a (fun j => nI (T 8 j) - nI 1))) C ad)) := by
  refine rMetH.of (by decide) ?_
  intro p e s m below meth c hx hb hml hr hlocks hown hname hK hZ hS htb
  have hown : s.vm.findClass RL = some m.cls := hown
  have hA : ∀ q : Nat, s.heap.size ≤ q → (rF C ad s.heap.size) q := rF.new
  refine r_entry _ (Nat.le_of_ble_eq_true rfl) (fun ls hl => ?_)
  have hl : lv_has ls 4 [(0, .ref (ad 0 0)), (1, .int a), (2, .ref (ad 46 0))] := hl
  refine lv_aload_n hx hb dL_owner_0 rfl (lv_at hl 2 rfl) ?_
  refine lv_iconst (v := nI 0) hx hb dL_owner_1 (by decide) ?_
  refine lv_aload_n hx hb dL_owner_2 rfl (lv_at hl 0 rfl) ?_
  refine lv_iload_n hx hb dL_owner_3 rfl (lv_at hl 1 rfl) ?_
  refine cl_L_77 hx hb hml hown hK hZ hS hA ((c_X4_owner hlt hI a).post (rq_p hI) (rq_x hI)) hI.reg rfl hl.1 (Nat.le_of_ble_eq_true rfl) ⟨Nat.le_of_ble_eq_true rfl, Nat.le_of_ble_eq_true rfl⟩ ⟨Nat.le_of_ble_eq_true rfl, Nat.le_of_ble_eq_true rfl⟩ rfl dL_owner_4 ?_ (r_kr (fun r C9 ad9 H locs hQ hS => ?_))
  · -- thrown
    intro E ce q9 C9 ad9 H locs hX9 hS hce hcv hcl
    obtain ⟨⟨hne, rfl⟩, L9, hI9, hF9⟩ := hX9
    have hle : (qS T (byN (nC T) a (fun j => nI (T 8 j) - nI 1))).1 ≤ 1 := byN_le (n := (nC T)) (a := a) (f := fun j => nI (T 8 j) - nI 1)
    have h1 : (qS T (byN (nC T) a (fun j => nI (T 8 j) - nI 1))).1 = 1 := by omega
    have hce1 : ecI (qS T (byN (nC T) a (fun j => nI (T 8 j) - nI 1))).1 = "java/lang/IndexOutOfBoundsException" := by rw [h1]; rfl
    rw [hce1] at hcl
    refine vx_catch (name := "java/lang/IndexOutOfBoundsException") hown [] ⟨0, 9, 12, 13⟩ [] htb (fun z hz => absurd hz List.not_mem_nil) rfl (by decide) (lk_IOB hK) (cs_IOB hK) hce hcv hcl ?_
    refine lv_astore_n (lv' := [(3, .ref q9), (0, .ref (ad 0 0)), (1, .int a), (2, .ref (ad 46 0))]) hx hb dL_owner_12 rfl hl (by decide) rfl (fun ls hl => ?_)
    refine lv_iconst (v := nI 1) hx hb dL_owner_13 (by decide) ?_
    exact r_iret hx hb hr hlocks hS ⟨_, rfl, by rw [h1], ⟨L9, hI9⟩, ⟨f, ((hF9.1 46 0 (by decide)).1).trans hO, fun z => absurd z hne⟩, hF9.o⟩ (Nat.le_of_ble_eq_true rfl) (Nat.le_of_ble_eq_true rfl) dL_owner_14
  obtain ⟨⟨h0, rfl⟩, L9, hI9, hF9⟩ := hQ
  have e460 : ad 46 0 = ad9 46 0 := ((hF9.1 46 0 (by decide)).2).symm
  rw [e460]
  refine lv_i2l (v := ((qS T (byN (nC T) a (fun j => nI (T 8 j) - nI 1))).2.1).toInt64) hx hb dL_owner_7 rfl ?_
  refine r_last hx hb hK.1 hS 1 (((hF9.1 46 0 (by decide)).1).trans hO) rfl (nI_in0 (by omega) (by omega)) (f' := vp_updL f 0 (((qS T (byN (nC T) a (fun j => nI (T 8 j) - nI 1))).2.1).toInt64)) (by rw [nI_clamp (by omega)]) dL_owner_8 (fun H locs hS => ?_)
  refine lv_goto (tgt := 15) hx hb dL_owner_9 (by decide) ?_
  refine lv_iconst (v := nI 0) hx hb dL_owner_15 (by decide) ?_
  exact r_iret hx hb hr hlocks hS ⟨_, rfl, by rw [h0], ⟨L9, hI9.fr (fun k i hk => ⟨ru_n (fun z => by omega), rfl⟩)⟩, ⟨_, ru_e, fun _ => pk_uLs⟩, hF9.o2⟩ (Nat.le_of_ble_eq_true rfl) (Nat.le_of_ble_eq_true rfl) dL_owner_16

set_option maxHeartbeats 4000000 in
set_option maxRecDepth 100000 in
theorem c_L_wants {G : rG} {l : Launch} {T : rTab} {L : rL} {C : rC} {ad : rA} {f : Nat → Int64} (hlt : l.stackTraces = false) (hI : cInv G T L C ad) (hO : C 46 0 = some (oA G f)) (a : Int32) : rMetH G l yL_wants cL_wants 4 (some .int) [(0, 9, 12, 13)] (rmM 10 1 6) [.ref (ad 0 0), .int a, .ref (ad 46 0)] C ad (rRet (lP G (qS T (byN 8 a (fun k => nI (T 10 k)))) C ad)) := by
  refine rMetH.of (by decide) ?_
  intro p e s m below meth c hx hb hml hr hlocks hown hname hK hZ hS htb
  have hown : s.vm.findClass RL = some m.cls := hown
  have hA : ∀ q : Nat, s.heap.size ≤ q → (rF C ad s.heap.size) q := rF.new
  refine r_entry _ (Nat.le_of_ble_eq_true rfl) (fun ls hl => ?_)
  have hl : lv_has ls 4 [(0, .ref (ad 0 0)), (1, .int a), (2, .ref (ad 46 0))] := hl
  refine lv_aload_n hx hb dL_wants_0 rfl (lv_at hl 2 rfl) ?_
  refine lv_iconst (v := nI 0) hx hb dL_wants_1 (by decide) ?_
  refine lv_aload_n hx hb dL_wants_2 rfl (lv_at hl 0 rfl) ?_
  refine lv_iload_n hx hb dL_wants_3 rfl (lv_at hl 1 rfl) ?_
  refine cl_L_80 hx hb hml hown hK hZ hS hA ((c_X4_wants hlt hI a).post (rq_p hI) (rq_x hI)) hI.reg rfl hl.1 (Nat.le_of_ble_eq_true rfl) ⟨Nat.le_of_ble_eq_true rfl, Nat.le_of_ble_eq_true rfl⟩ ⟨Nat.le_of_ble_eq_true rfl, Nat.le_of_ble_eq_true rfl⟩ rfl dL_wants_4 ?_ (r_kr (fun r C9 ad9 H locs hQ hS => ?_))
  · -- thrown
    intro E ce q9 C9 ad9 H locs hX9 hS hce hcv hcl
    obtain ⟨⟨hne, rfl⟩, L9, hI9, hF9⟩ := hX9
    have hle : (qS T (byN 8 a (fun k => nI (T 10 k)))).1 ≤ 1 := byN_le (n := 8) (a := a) (f := fun k => nI (T 10 k))
    have h1 : (qS T (byN 8 a (fun k => nI (T 10 k)))).1 = 1 := by omega
    have hce1 : ecI (qS T (byN 8 a (fun k => nI (T 10 k)))).1 = "java/lang/IndexOutOfBoundsException" := by rw [h1]; rfl
    rw [hce1] at hcl
    refine vx_catch (name := "java/lang/IndexOutOfBoundsException") hown [] ⟨0, 9, 12, 13⟩ [] htb (fun z hz => absurd hz List.not_mem_nil) rfl (by decide) (lk_IOB hK) (cs_IOB hK) hce hcv hcl ?_
    refine lv_astore_n (lv' := [(3, .ref q9), (0, .ref (ad 0 0)), (1, .int a), (2, .ref (ad 46 0))]) hx hb dL_wants_12 rfl hl (by decide) rfl (fun ls hl => ?_)
    refine lv_iconst (v := nI 1) hx hb dL_wants_13 (by decide) ?_
    exact r_iret hx hb hr hlocks hS ⟨_, rfl, by rw [h1], ⟨L9, hI9⟩, ⟨f, ((hF9.1 46 0 (by decide)).1).trans hO, fun z => absurd z hne⟩, hF9.o⟩ (Nat.le_of_ble_eq_true rfl) (Nat.le_of_ble_eq_true rfl) dL_wants_14
  obtain ⟨⟨h0, rfl⟩, L9, hI9, hF9⟩ := hQ
  have e460 : ad 46 0 = ad9 46 0 := ((hF9.1 46 0 (by decide)).2).symm
  rw [e460]
  refine lv_i2l (v := ((qS T (byN 8 a (fun k => nI (T 10 k)))).2.1).toInt64) hx hb dL_wants_7 rfl ?_
  refine r_last hx hb hK.1 hS 1 (((hF9.1 46 0 (by decide)).1).trans hO) rfl (nI_in0 (by omega) (by omega)) (f' := vp_updL f 0 (((qS T (byN 8 a (fun k => nI (T 10 k)))).2.1).toInt64)) (by rw [nI_clamp (by omega)]) dL_wants_8 (fun H locs hS => ?_)
  refine lv_goto (tgt := 15) hx hb dL_wants_9 (by decide) ?_
  refine lv_iconst (v := nI 0) hx hb dL_wants_15 (by decide) ?_
  exact r_iret hx hb hr hlocks hS ⟨_, rfl, by rw [h0], ⟨L9, hI9.fr (fun k i hk => ⟨ru_n (fun z => by omega), rfl⟩)⟩, ⟨_, ru_e, fun _ => pk_uLs⟩, hF9.o2⟩ (Nat.le_of_ble_eq_true rfl) (Nat.le_of_ble_eq_true rfl) dL_wants_16

set_option maxHeartbeats 4000000 in
set_option maxRecDepth 100000 in
theorem c_L_offers {G : rG} {l : Launch} {T : rTab} {L : rL} {C : rC} {ad : rA} {f : Nat → Int64} (hlt : l.stackTraces = false) (hI : cInv G T L C ad) (hO : C 46 0 = some (oA G f)) (a : Int32) : rMetH G l yL_offers cL_offers 4 (some .int) [(0, 9, 12, 13)] (rmM 14 18 560) [.ref (ad 0 0), .int a, .ref (ad 46 0)] C ad (rRet (lP G (sOffers T a) C ad)) := by
  refine rMetH.of (by decide) ?_
  intro p e s m below meth c hx hb hml hr hlocks hown hname hK hZ hS htb
  have hown : s.vm.findClass RL = some m.cls := hown
  have hA : ∀ q : Nat, s.heap.size ≤ q → (rF C ad s.heap.size) q := rF.new
  refine r_entry _ (Nat.le_of_ble_eq_true rfl) (fun ls hl => ?_)
  have hl : lv_has ls 4 [(0, .ref (ad 0 0)), (1, .int a), (2, .ref (ad 46 0))] := hl
  refine lv_aload_n hx hb dL_offers_0 rfl (lv_at hl 2 rfl) ?_
  refine lv_iconst (v := nI 0) hx hb dL_offers_1 (by decide) ?_
  refine lv_aload_n hx hb dL_offers_2 rfl (lv_at hl 0 rfl) ?_
  refine lv_iload_n hx hb dL_offers_3 rfl (lv_at hl 1 rfl) ?_
  refine cl_L_83 hx hb hml hown hK hZ hS hA (c_X4_offers hlt hI a) hI.reg rfl hl.1 (Nat.le_of_ble_eq_true rfl) ⟨Nat.le_of_ble_eq_true rfl, Nat.le_of_ble_eq_true rfl⟩ ⟨Nat.le_of_ble_eq_true rfl, Nat.le_of_ble_eq_true rfl⟩ rfl dL_offers_4 ?_ (r_kr (fun r C9 ad9 H locs hQ hS => ?_))
  · -- thrown
    intro E ce q9 C9 ad9 H locs hX9 hS hce hcv hcl
    obtain ⟨⟨hne, rfl⟩, L9, hI9, hF9⟩ := hX9
    have hle : (sOffers T a).1 ≤ 1 := sOffers_le (T := T) (a := a)
    have h1 : (sOffers T a).1 = 1 := by omega
    have hce1 : ec2 (sOffers T a).1 = "java/lang/IndexOutOfBoundsException" := by rw [h1]; rfl
    rw [hce1] at hcl
    refine vx_catch (name := "java/lang/IndexOutOfBoundsException") hown [] ⟨0, 9, 12, 13⟩ [] htb (fun z hz => absurd hz List.not_mem_nil) rfl (by decide) (lk_IOB hK) (cs_IOB hK) hce hcv hcl ?_
    refine lv_astore_n (lv' := [(3, .ref q9), (0, .ref (ad 0 0)), (1, .int a), (2, .ref (ad 46 0))]) hx hb dL_offers_12 rfl hl (by decide) rfl (fun ls hl => ?_)
    refine lv_iconst (v := nI 1) hx hb dL_offers_13 (by decide) ?_
    exact r_iret hx hb hr hlocks hS ⟨_, rfl, by rw [h1], ⟨L9, hI9⟩, ⟨f, ((hF9.1 46 0 (by decide)).1).trans hO, fun z => absurd z hne⟩, hF9.o⟩ (Nat.le_of_ble_eq_true rfl) (Nat.le_of_ble_eq_true rfl) dL_offers_14
  obtain ⟨⟨h0, rfl⟩, L9, hI9, hF9⟩ := hQ
  have e460 : ad 46 0 = ad9 46 0 := ((hF9.1 46 0 (by decide)).2).symm
  rw [e460]
  refine lv_i2l (v := ((sOffers T a).2.1).toInt64) hx hb dL_offers_7 rfl ?_
  refine r_last hx hb hK.1 hS 1 (((hF9.1 46 0 (by decide)).1).trans hO) rfl (nI_in0 (by omega) (by omega)) (f' := vp_updL f 0 (((sOffers T a).2.1).toInt64)) (by rw [nI_clamp (by omega)]) dL_offers_8 (fun H locs hS => ?_)
  refine lv_goto (tgt := 15) hx hb dL_offers_9 (by decide) ?_
  refine lv_iconst (v := nI 0) hx hb dL_offers_15 (by decide) ?_
  exact r_iret hx hb hr hlocks hS ⟨_, rfl, by rw [h0], ⟨L9, hI9.fr (fun k i hk => ⟨ru_n (fun z => by omega), rfl⟩)⟩, ⟨_, ru_e, fun _ => pk_uLs⟩, hF9.o2⟩ (Nat.le_of_ble_eq_true rfl) (Nat.le_of_ble_eq_true rfl) dL_offers_16

set_option maxHeartbeats 4000000 in
set_option maxRecDepth 100000 in
theorem c_L_worth {G : rG} {l : Launch} {T : rTab} {L : rL} {C : rC} {ad : rA} {f : Nat → Int64} (hlt : l.stackTraces = false) (hI : cInv G T L C ad) (hO : C 46 0 = some (oA G f)) (a : Int32) : rMetH G l yL_worth cL_worth 4 (some .int) [(0, 9, 12, 13)] (rmM 10 1 6) [.ref (ad 0 0), .int a, .ref (ad 46 0)] C ad (rRet (lP G (qS T (byN 8 a (fun k => nI (worthN T k)))) C ad)) := by
  refine rMetH.of (by decide) ?_
  intro p e s m below meth c hx hb hml hr hlocks hown hname hK hZ hS htb
  have hown : s.vm.findClass RL = some m.cls := hown
  have hA : ∀ q : Nat, s.heap.size ≤ q → (rF C ad s.heap.size) q := rF.new
  refine r_entry _ (Nat.le_of_ble_eq_true rfl) (fun ls hl => ?_)
  have hl : lv_has ls 4 [(0, .ref (ad 0 0)), (1, .int a), (2, .ref (ad 46 0))] := hl
  refine lv_aload_n hx hb dL_worth_0 rfl (lv_at hl 2 rfl) ?_
  refine lv_iconst (v := nI 0) hx hb dL_worth_1 (by decide) ?_
  refine lv_aload_n hx hb dL_worth_2 rfl (lv_at hl 0 rfl) ?_
  refine lv_iload_n hx hb dL_worth_3 rfl (lv_at hl 1 rfl) ?_
  refine cl_L_86 hx hb hml hown hK hZ hS hA ((c_X4_worth hlt hI a).post (rq_p hI) (rq_x hI)) hI.reg rfl hl.1 (Nat.le_of_ble_eq_true rfl) ⟨Nat.le_of_ble_eq_true rfl, Nat.le_of_ble_eq_true rfl⟩ ⟨Nat.le_of_ble_eq_true rfl, Nat.le_of_ble_eq_true rfl⟩ rfl dL_worth_4 ?_ (r_kr (fun r C9 ad9 H locs hQ hS => ?_))
  · -- thrown
    intro E ce q9 C9 ad9 H locs hX9 hS hce hcv hcl
    obtain ⟨⟨hne, rfl⟩, L9, hI9, hF9⟩ := hX9
    have hle : (qS T (byN 8 a (fun k => nI (worthN T k)))).1 ≤ 1 := byN_le (n := 8) (a := a) (f := fun k => nI (worthN T k))
    have h1 : (qS T (byN 8 a (fun k => nI (worthN T k)))).1 = 1 := by omega
    have hce1 : ecI (qS T (byN 8 a (fun k => nI (worthN T k)))).1 = "java/lang/IndexOutOfBoundsException" := by rw [h1]; rfl
    rw [hce1] at hcl
    refine vx_catch (name := "java/lang/IndexOutOfBoundsException") hown [] ⟨0, 9, 12, 13⟩ [] htb (fun z hz => absurd hz List.not_mem_nil) rfl (by decide) (lk_IOB hK) (cs_IOB hK) hce hcv hcl ?_
    refine lv_astore_n (lv' := [(3, .ref q9), (0, .ref (ad 0 0)), (1, .int a), (2, .ref (ad 46 0))]) hx hb dL_worth_12 rfl hl (by decide) rfl (fun ls hl => ?_)
    refine lv_iconst (v := nI 1) hx hb dL_worth_13 (by decide) ?_
    exact r_iret hx hb hr hlocks hS ⟨_, rfl, by rw [h1], ⟨L9, hI9⟩, ⟨f, ((hF9.1 46 0 (by decide)).1).trans hO, fun z => absurd z hne⟩, hF9.o⟩ (Nat.le_of_ble_eq_true rfl) (Nat.le_of_ble_eq_true rfl) dL_worth_14
  obtain ⟨⟨h0, rfl⟩, L9, hI9, hF9⟩ := hQ
  have e460 : ad 46 0 = ad9 46 0 := ((hF9.1 46 0 (by decide)).2).symm
  rw [e460]
  refine lv_i2l (v := ((qS T (byN 8 a (fun k => nI (worthN T k)))).2.1).toInt64) hx hb dL_worth_7 rfl ?_
  refine r_last hx hb hK.1 hS 1 (((hF9.1 46 0 (by decide)).1).trans hO) rfl (nI_in0 (by omega) (by omega)) (f' := vp_updL f 0 (((qS T (byN 8 a (fun k => nI (worthN T k)))).2.1).toInt64)) (by rw [nI_clamp (by omega)]) dL_worth_8 (fun H locs hS => ?_)
  refine lv_goto (tgt := 15) hx hb dL_worth_9 (by decide) ?_
  refine lv_iconst (v := nI 0) hx hb dL_worth_15 (by decide) ?_
  exact r_iret hx hb hr hlocks hS ⟨_, rfl, by rw [h0], ⟨L9, hI9.fr (fun k i hk => ⟨ru_n (fun z => by omega), rfl⟩)⟩, ⟨_, ru_e, fun _ => pk_uLs⟩, hF9.o2⟩ (Nat.le_of_ble_eq_true rfl) (Nat.le_of_ble_eq_true rfl) dL_worth_16

set_option maxHeartbeats 4000000 in
set_option maxRecDepth 100000 in
theorem c_L_coinAt {G : rG} {l : Launch} {T : rTab} {L : rL} {C : rC} {ad : rA} {f : Nat → Int64} (hlt : l.stackTraces = false) (hI : cInv G T L C ad) (hO : C 46 0 = some (oA G f)) (a : Int32) (b : Int32) : rMetH G l yL_coinAt cL_coinAt 5 (some .int) [(0, 10, 13, 13)] (rmM 14 2 12) [.ref (ad 0 0), .int a, .int b, .ref (ad 46 0)] C ad (rRet (lP G (qS T (coinQ T a b)) C ad)) := by
  refine rMetH.of (by decide) ?_
  intro p e s m below meth c hx hb hml hr hlocks hown hname hK hZ hS htb
  have hown : s.vm.findClass RL = some m.cls := hown
  have hA : ∀ q : Nat, s.heap.size ≤ q → (rF C ad s.heap.size) q := rF.new
  refine r_entry _ (Nat.le_of_ble_eq_true rfl) (fun ls hl => ?_)
  have hl : lv_has ls 5 [(0, .ref (ad 0 0)), (1, .int a), (2, .int b), (3, .ref (ad 46 0))] := hl
  refine lv_aload_n hx hb dL_coinAt_0 rfl (lv_at hl 3 rfl) ?_
  refine lv_iconst (v := nI 0) hx hb dL_coinAt_1 (by decide) ?_
  refine lv_aload_n hx hb dL_coinAt_2 rfl (lv_at hl 0 rfl) ?_
  refine lv_iload_n hx hb dL_coinAt_3 rfl (lv_at hl 1 rfl) ?_
  refine lv_iload_n hx hb dL_coinAt_4 rfl (lv_at hl 2 rfl) ?_
  refine cl_L_89 hx hb hml hown hK hZ hS hA ((c_X4_coinAt hlt hI a b).post (rq_p hI) (rq_x hI)) hI.reg rfl hl.1 (Nat.le_of_ble_eq_true rfl) ⟨Nat.le_of_ble_eq_true rfl, Nat.le_of_ble_eq_true rfl⟩ ⟨Nat.le_of_ble_eq_true rfl, Nat.le_of_ble_eq_true rfl⟩ rfl dL_coinAt_5 ?_ (r_kr (fun r C9 ad9 H locs hQ hS => ?_))
  · -- thrown
    intro E ce q9 C9 ad9 H locs hX9 hS hce hcv hcl
    obtain ⟨⟨hne, rfl⟩, L9, hI9, hF9⟩ := hX9
    have hle : (qS T (coinQ T a b)).1 ≤ 1 := coinQ_le (T := T) (a := a) (b := b)
    have h1 : (qS T (coinQ T a b)).1 = 1 := by omega
    have hce1 : ecI (qS T (coinQ T a b)).1 = "java/lang/IndexOutOfBoundsException" := by rw [h1]; rfl
    rw [hce1] at hcl
    refine vx_catch (name := "java/lang/IndexOutOfBoundsException") hown [] ⟨0, 10, 13, 13⟩ [] htb (fun z hz => absurd hz List.not_mem_nil) rfl (by decide) (lk_IOB hK) (cs_IOB hK) hce hcv hcl ?_
    refine lv_astore (lv' := [(4, .ref q9), (0, .ref (ad 0 0)), (1, .int a), (2, .int b), (3, .ref (ad 46 0))]) hx hb dL_coinAt_13 hl (by decide) rfl (fun ls hl => ?_)
    refine lv_iconst (v := nI 1) hx hb dL_coinAt_15 (by decide) ?_
    exact r_iret hx hb hr hlocks hS ⟨_, rfl, by rw [h1], ⟨L9, hI9⟩, ⟨f, ((hF9.1 46 0 (by decide)).1).trans hO, fun z => absurd z hne⟩, hF9.o⟩ (Nat.le_of_ble_eq_true rfl) (Nat.le_of_ble_eq_true rfl) dL_coinAt_16
  obtain ⟨⟨h0, rfl⟩, L9, hI9, hF9⟩ := hQ
  have e460 : ad 46 0 = ad9 46 0 := ((hF9.1 46 0 (by decide)).2).symm
  rw [e460]
  refine lv_i2l (v := ((qS T (coinQ T a b)).2.1).toInt64) hx hb dL_coinAt_8 rfl ?_
  refine r_last hx hb hK.1 hS 1 (((hF9.1 46 0 (by decide)).1).trans hO) rfl (nI_in0 (by omega) (by omega)) (f' := vp_updL f 0 (((qS T (coinQ T a b)).2.1).toInt64)) (by rw [nI_clamp (by omega)]) dL_coinAt_9 (fun H locs hS => ?_)
  refine lv_goto (tgt := 17) hx hb dL_coinAt_10 (by decide) ?_
  refine lv_iconst (v := nI 0) hx hb dL_coinAt_17 (by decide) ?_
  exact r_iret hx hb hr hlocks hS ⟨_, rfl, by rw [h0], ⟨L9, hI9.fr (fun k i hk => ⟨ru_n (fun z => by omega), rfl⟩)⟩, ⟨_, ru_e, fun _ => pk_uLs⟩, hF9.o2⟩ (Nat.le_of_ble_eq_true rfl) (Nat.le_of_ble_eq_true rfl) dL_coinAt_18

set_option maxHeartbeats 4000000 in
set_option maxRecDepth 100000 in
theorem c_L_ringAt {G : rG} {l : Launch} {T : rTab} {L : rL} {C : rC} {ad : rA} {f : Nat → Int64} (hlt : l.stackTraces = false) (hI : cInv G T L C ad) (hO : C 46 0 = some (oA G f)) (a : Int32) : rMetH G l yL_ringAt cL_ringAt 4 (some .int) [(0, 9, 12, 13)] (rmM 20 137 4430) [.ref (ad 0 0), .int a, .ref (ad 46 0)] C ad (rRet (lP G (sRingAt T a) C ad)) := by
  refine rMetH.of (by decide) ?_
  intro p e s m below meth c hx hb hml hr hlocks hown hname hK hZ hS htb
  have hown : s.vm.findClass RL = some m.cls := hown
  have hA : ∀ q : Nat, s.heap.size ≤ q → (rF C ad s.heap.size) q := rF.new
  refine r_entry _ (Nat.le_of_ble_eq_true rfl) (fun ls hl => ?_)
  have hl : lv_has ls 4 [(0, .ref (ad 0 0)), (1, .int a), (2, .ref (ad 46 0))] := hl
  refine lv_aload_n hx hb dL_ringAt_0 rfl (lv_at hl 2 rfl) ?_
  refine lv_iconst (v := nI 0) hx hb dL_ringAt_1 (by decide) ?_
  refine lv_aload_n hx hb dL_ringAt_2 rfl (lv_at hl 0 rfl) ?_
  refine lv_iload_n hx hb dL_ringAt_3 rfl (lv_at hl 1 rfl) ?_
  refine cl_L_92 hx hb hml hown hK hZ hS hA (c_X4_ringAt hlt hI a) hI.reg rfl hl.1 (Nat.le_of_ble_eq_true rfl) ⟨Nat.le_of_ble_eq_true rfl, Nat.le_of_ble_eq_true rfl⟩ ⟨Nat.le_of_ble_eq_true rfl, Nat.le_of_ble_eq_true rfl⟩ rfl dL_ringAt_4 ?_ (r_kr (fun r C9 ad9 H locs hQ hS => ?_))
  · -- thrown
    intro E ce q9 C9 ad9 H locs hX9 hS hce hcv hcl
    obtain ⟨⟨hne, rfl⟩, L9, hI9, hF9⟩ := hX9
    have hle : (sRingAt T a).1 ≤ 1 := sRingAt_le (T := T) (a := a)
    have h1 : (sRingAt T a).1 = 1 := by omega
    have hce1 : ec2 (sRingAt T a).1 = "java/lang/IndexOutOfBoundsException" := by rw [h1]; rfl
    rw [hce1] at hcl
    refine vx_catch (name := "java/lang/IndexOutOfBoundsException") hown [] ⟨0, 9, 12, 13⟩ [] htb (fun z hz => absurd hz List.not_mem_nil) rfl (by decide) (lk_IOB hK) (cs_IOB hK) hce hcv hcl ?_
    refine lv_astore_n (lv' := [(3, .ref q9), (0, .ref (ad 0 0)), (1, .int a), (2, .ref (ad 46 0))]) hx hb dL_ringAt_12 rfl hl (by decide) rfl (fun ls hl => ?_)
    refine lv_iconst (v := nI 1) hx hb dL_ringAt_13 (by decide) ?_
    exact r_iret hx hb hr hlocks hS ⟨_, rfl, by rw [h1], ⟨L9, hI9⟩, ⟨f, ((hF9.1 46 0 (by decide)).1).trans hO, fun z => absurd z hne⟩, hF9.o⟩ (Nat.le_of_ble_eq_true rfl) (Nat.le_of_ble_eq_true rfl) dL_ringAt_14
  obtain ⟨⟨h0, rfl⟩, L9, hI9, hF9⟩ := hQ
  have e460 : ad 46 0 = ad9 46 0 := ((hF9.1 46 0 (by decide)).2).symm
  rw [e460]
  refine lv_i2l (v := ((sRingAt T a).2.1).toInt64) hx hb dL_ringAt_7 rfl ?_
  refine r_last hx hb hK.1 hS 1 (((hF9.1 46 0 (by decide)).1).trans hO) rfl (nI_in0 (by omega) (by omega)) (f' := vp_updL f 0 (((sRingAt T a).2.1).toInt64)) (by rw [nI_clamp (by omega)]) dL_ringAt_8 (fun H locs hS => ?_)
  refine lv_goto (tgt := 15) hx hb dL_ringAt_9 (by decide) ?_
  refine lv_iconst (v := nI 0) hx hb dL_ringAt_15 (by decide) ?_
  exact r_iret hx hb hr hlocks hS ⟨_, rfl, by rw [h0], ⟨L9, hI9.fr (fun k i hk => ⟨ru_n (fun z => by omega), rfl⟩)⟩, ⟨_, ru_e, fun _ => pk_uLs⟩, hF9.o2⟩ (Nat.le_of_ble_eq_true rfl) (Nat.le_of_ble_eq_true rfl) dL_ringAt_16

set_option maxHeartbeats 4000000 in
set_option maxRecDepth 100000 in
theorem c_L_swap {G : rG} {l : Launch} {T : rTab} {L : rL} {C : rC} {ad : rA} {f : Nat → Int64} (hlt : l.stackTraces = false) (hI : cInv G T L C ad) (hO : C 46 0 = some (oA G f))  (hOK : tOK T) : rMetH G l yL_swap cL_swap 3 (some .int) [(0, 8, 11, 15)] (rmM 20 146 4660) [.ref (ad 0 0), .ref (ad 46 0)] C ad (rRet (lP G (sSwap T) C ad)) := by
  refine rMetH.of (by decide) ?_
  intro p e s m below meth c hx hb hml hr hlocks hown hname hK hZ hS htb
  have hown : s.vm.findClass RL = some m.cls := hown
  have hA : ∀ q : Nat, s.heap.size ≤ q → (rF C ad s.heap.size) q := rF.new
  refine r_entry _ (Nat.le_of_ble_eq_true rfl) (fun ls hl => ?_)
  have hl : lv_has ls 3 [(0, .ref (ad 0 0)), (1, .ref (ad 46 0))] := hl
  refine lv_aload_n hx hb dL_swap_0 rfl (lv_at hl 1 rfl) ?_
  refine lv_iconst (v := nI 0) hx hb dL_swap_1 (by decide) ?_
  refine lv_aload_n hx hb dL_swap_2 rfl (lv_at hl 0 rfl) ?_
  refine cl_L_95 hx hb hml hown hK hZ hS hA (c_X4_swap hlt hI hOK) hI.reg rfl hl.1 (Nat.le_of_ble_eq_true rfl) ⟨Nat.le_of_ble_eq_true rfl, Nat.le_of_ble_eq_true rfl⟩ ⟨Nat.le_of_ble_eq_true rfl, Nat.le_of_ble_eq_true rfl⟩ rfl dL_swap_3 ?_ (r_kr (fun r C9 ad9 H locs hQ hS => ?_))
  · -- thrown
    intro E ce q9 C9 ad9 H locs hX9 hS hce hcv hcl
    obtain ⟨⟨hne, rfl⟩, L9, hI9, hF9⟩ := hX9
    have hle : (sSwap T).1 ≤ 1 := sSwap_le (T := T)
    have h1 : (sSwap T).1 = 1 := by omega
    have hce1 : ec1 (sSwap T).1 = "java/lang/IllegalStateException" := by rw [h1]; rfl
    rw [hce1] at hcl
    refine vx_catch (name := "java/lang/IllegalStateException") hown [] ⟨0, 8, 11, 15⟩ [] htb (fun z hz => absurd hz List.not_mem_nil) rfl (by decide) (lk_ISE hK) (cs_ISE hK) hce hcv hcl ?_
    refine lv_astore_n (lv' := [(2, .ref q9), (0, .ref (ad 0 0)), (1, .ref (ad 46 0))]) hx hb dL_swap_11 rfl hl (by decide) rfl (fun ls hl => ?_)
    refine lv_iconst (v := nI 1) hx hb dL_swap_12 (by decide) ?_
    exact r_iret hx hb hr hlocks hS ⟨_, rfl, by rw [h1], ⟨L9, hI9⟩, ⟨f, ((hF9.1 46 0 (by decide)).1).trans hO, fun z => absurd z hne⟩, hF9.o⟩ (Nat.le_of_ble_eq_true rfl) (Nat.le_of_ble_eq_true rfl) dL_swap_13
  obtain ⟨⟨h0, rfl⟩, L9, hI9, hF9⟩ := hQ
  have e460 : ad 46 0 = ad9 46 0 := ((hF9.1 46 0 (by decide)).2).symm
  rw [e460]
  refine lv_i2l (v := ((sSwap T).2.1).toInt64) hx hb dL_swap_6 rfl ?_
  refine r_last hx hb hK.1 hS 1 (((hF9.1 46 0 (by decide)).1).trans hO) rfl (nI_in0 (by omega) (by omega)) (f' := vp_updL f 0 (((sSwap T).2.1).toInt64)) (by rw [nI_clamp (by omega)]) dL_swap_7 (fun H locs hS => ?_)
  refine lv_goto (tgt := 14) hx hb dL_swap_8 (by decide) ?_
  refine lv_iconst (v := nI 0) hx hb dL_swap_14 (by decide) ?_
  exact r_iret hx hb hr hlocks hS ⟨_, rfl, by rw [h0], ⟨L9, hI9.fr (fun k i hk => ⟨ru_n (fun z => by omega), rfl⟩)⟩, ⟨_, ru_e, fun _ => pk_uLs⟩, hF9.o2⟩ (Nat.le_of_ble_eq_true rfl) (Nat.le_of_ble_eq_true rfl) dL_swap_15

set_option maxHeartbeats 4000000 in
set_option maxRecDepth 100000 in
theorem c_L_swapAt {G : rG} {l : Launch} {T : rTab} {L : rL} {C : rC} {ad : rA} {f : Nat → Int64} (hlt : l.stackTraces = false) (hI : cInv G T L C ad) (hO : C 46 0 = some (oA G f)) (a : Int32) (b : Int32) : rMetH G l yL_swapAt cL_swapAt 5 (some .int) [(0, 10, 13, 13)] (rmM 14 2 12) [.ref (ad 0 0), .int a, .int b, .ref (ad 46 0)] C ad (rRet (lP G (qS T (swapQ T a b)) C ad)) := by
  refine rMetH.of (by decide) ?_
  intro p e s m below meth c hx hb hml hr hlocks hown hname hK hZ hS htb
  have hown : s.vm.findClass RL = some m.cls := hown
  have hA : ∀ q : Nat, s.heap.size ≤ q → (rF C ad s.heap.size) q := rF.new
  refine r_entry _ (Nat.le_of_ble_eq_true rfl) (fun ls hl => ?_)
  have hl : lv_has ls 5 [(0, .ref (ad 0 0)), (1, .int a), (2, .int b), (3, .ref (ad 46 0))] := hl
  refine lv_aload_n hx hb dL_swapAt_0 rfl (lv_at hl 3 rfl) ?_
  refine lv_iconst (v := nI 0) hx hb dL_swapAt_1 (by decide) ?_
  refine lv_aload_n hx hb dL_swapAt_2 rfl (lv_at hl 0 rfl) ?_
  refine lv_iload_n hx hb dL_swapAt_3 rfl (lv_at hl 1 rfl) ?_
  refine lv_iload_n hx hb dL_swapAt_4 rfl (lv_at hl 2 rfl) ?_
  refine cl_L_99 hx hb hml hown hK hZ hS hA ((c_X4_swapAt hlt hI a b).post (rq_p hI) (rq_x hI)) hI.reg rfl hl.1 (Nat.le_of_ble_eq_true rfl) ⟨Nat.le_of_ble_eq_true rfl, Nat.le_of_ble_eq_true rfl⟩ ⟨Nat.le_of_ble_eq_true rfl, Nat.le_of_ble_eq_true rfl⟩ rfl dL_swapAt_5 ?_ (r_kr (fun r C9 ad9 H locs hQ hS => ?_))
  · -- thrown
    intro E ce q9 C9 ad9 H locs hX9 hS hce hcv hcl
    obtain ⟨⟨hne, rfl⟩, L9, hI9, hF9⟩ := hX9
    have hle : (qS T (swapQ T a b)).1 ≤ 1 := swapQ_le (T := T) (a := a) (b := b)
    have h1 : (qS T (swapQ T a b)).1 = 1 := by omega
    have hce1 : ecI (qS T (swapQ T a b)).1 = "java/lang/IndexOutOfBoundsException" := by rw [h1]; rfl
    rw [hce1] at hcl
    refine vx_catch (name := "java/lang/IndexOutOfBoundsException") hown [] ⟨0, 10, 13, 13⟩ [] htb (fun z hz => absurd hz List.not_mem_nil) rfl (by decide) (lk_IOB hK) (cs_IOB hK) hce hcv hcl ?_
    refine lv_astore (lv' := [(4, .ref q9), (0, .ref (ad 0 0)), (1, .int a), (2, .int b), (3, .ref (ad 46 0))]) hx hb dL_swapAt_13 hl (by decide) rfl (fun ls hl => ?_)
    refine lv_iconst (v := nI 1) hx hb dL_swapAt_15 (by decide) ?_
    exact r_iret hx hb hr hlocks hS ⟨_, rfl, by rw [h1], ⟨L9, hI9⟩, ⟨f, ((hF9.1 46 0 (by decide)).1).trans hO, fun z => absurd z hne⟩, hF9.o⟩ (Nat.le_of_ble_eq_true rfl) (Nat.le_of_ble_eq_true rfl) dL_swapAt_16
  obtain ⟨⟨h0, rfl⟩, L9, hI9, hF9⟩ := hQ
  have e460 : ad 46 0 = ad9 46 0 := ((hF9.1 46 0 (by decide)).2).symm
  rw [e460]
  refine lv_i2l (v := ((qS T (swapQ T a b)).2.1).toInt64) hx hb dL_swapAt_8 rfl ?_
  refine r_last hx hb hK.1 hS 1 (((hF9.1 46 0 (by decide)).1).trans hO) rfl (nI_in0 (by omega) (by omega)) (f' := vp_updL f 0 (((qS T (swapQ T a b)).2.1).toInt64)) (by rw [nI_clamp (by omega)]) dL_swapAt_9 (fun H locs hS => ?_)
  refine lv_goto (tgt := 17) hx hb dL_swapAt_10 (by decide) ?_
  refine lv_iconst (v := nI 0) hx hb dL_swapAt_17 (by decide) ?_
  exact r_iret hx hb hr hlocks hS ⟨_, rfl, by rw [h0], ⟨L9, hI9.fr (fun k i hk => ⟨ru_n (fun z => by omega), rfl⟩)⟩, ⟨_, ru_e, fun _ => pk_uLs⟩, hF9.o2⟩ (Nat.le_of_ble_eq_true rfl) (Nat.le_of_ble_eq_true rfl) dL_swapAt_18

