/-! THE CLAIM OUT OF ONE WALK OF THE LAW'S BODY. Your part is whole_start (and what it stands on); all else here is the same for every law, but numbers. -/
def R_law : String := "DieRegisterLaw"
def lw_P (b : Addr) (xs : List Int32) (args : Array Value) (s : State) : Prop := args = #[.ref b] ∧ s.IntsAt b xs ∧ xs.length ≤ 2048 ∧ (Jvm.Cond.and given_1 narrow_1).before args s = true
def lw_Q (_ : Array Value) (s : State) (o : Outcome) (t : State) : Prop := o = .returned (some (.int 1)) ∧ Framed s o t [] 601024 7293034
def lw_Z (below : List Frame) (a : Array Value) (s : State) : State → Prop := fun t => ∃ o, t.status = .running ∧ Ended t below o ∧ lw_Q a s o t
/-- the law's own end, with 1 on the stack, nothing written that was there before, its room as the claim has it -/
theorem lw_ret {p : Program} {l : Launch} {e : Env} {s : State} {m : MethodId} {below : List Frame} {meth : Method} {c : Code} {b : Nat} (hx : p.tables.exec = Jvm.exec) (hb : c.code = code) (hr : meth.sig.returnType = ret) (hlocks : meth.locks = false) {pc : Nat} {H : Heap} {ls : Array Slot} (hdg : decode code pc = .ok (.ireturn, 1)) : W p l e room_1 s m #[Value.ref b] below meth c H [] 601024 7293034 (lw_Z below #[Value.ref b] s) (F0 m pc ls [.int 1]) := by
  intro T hT X
  obtain ⟨fs, hret, hrun, hended, hW, hframe⟩ := X.leave (v := some (.int 1)) (hlocks := hlocks) (fun h => by rw [hr] at h; cases h)
  have hmeth' : T.vm.method? m = some meth := X.method'
  refine ⟨T.setFrames fs, ?_, .returned (some (.int 1)), hrun, hended, rfl, ⟨_, rfl⟩, hW, hframe⟩
  jvm_step X.here [X.here.top, hx, hb, hdg, hmeth', hr, ret, narrow_b1]
  (try refine ⟨rfl, ?_⟩); (try refine ⟨rfl, ?_⟩)
  first | (intro acts; rw [hret _ acts rfl rfl rfl]) | rw [hret _ _ rfl rfl rfl]
  exact Steps.refl _
/-- what holds at the law's entry: the machine, the code, the tables' words (any of lw_tbl by 'hts w (by decide +kernel)'), the script of L ints xs at the cell b, what the Statement gives of the start (any of its parts by flat_of_before) -/
def lw_At (p : Program) (s : State) (m : MethodId) (meth : Method) (c : Code) (b L : Nat) (xs : Nat → Int32) : Prop :=
  p.tables.exec = Jvm.exec ∧ c.code = code ∧ meth.sig.returnType = ret ∧ c.maxLocals = 7 ∧ s.vm.findClass R_law = some m.cls ∧ (∀ w ∈ lw_tbl, w.before #[Value.ref b] s = true) ∧ va_X b L xs s s.heap ∧ b < s.heap.size ∧ meth.locks = false ∧ (Jvm.Cond.and given_1 narrow_1).before #[Value.ref b] s = true
/-! WHAT THE STATEMENT GIVES, in the words of the parts before (printed by wip/whole/gen/start.py) -/
theorem sw_str {args : Array Value} {s : State} {own tx cl : String} {k : Nat} (h1 : (Cond.stringRef own k tx).before args s = true) (h2 : (Cond.exactly (.string own k) cl).before args s = true) : ∃ a, vk_R own k tx a s := by
  obtain ⟨a, c, cell, k, e, -⟩ := Cond.exactly_spec h2
  exact ⟨a, vk_R.of h1 e⟩
theorem sw_rT {s : State} {b : Nat} (hts : ∀ w ∈ lw_tbl, w.before #[Value.ref b] s = true) : rT s := fun w hw hk => rok_warm hk (State.WarmedH.refl s) (hts w hw)
theorem sw_cls {s : State} {b : Nat} (hts : ∀ w ∈ lw_tbl, w.before #[Value.ref b] s = true) : ∃ (dC : Nat → ClassId) (dI : Nat → Nat → Nat), ∀ (k : Nat) (q : vw_C), vwCl[k]? = some q → u_Kn s q.1 q.2.1 q.2.2 (dC k) (dI k) := by
  have hT := sw_rT hts
  obtain ⟨c0, f0, hK0⟩ := u_known (args := #[Value.ref b]) (C := RJx4a65c) (T := TJx4a65c) (N := 3) (n := 3) (lay_Jx4a65c hT) (fun _ h => h) (show (Cond.instantiable RJx4a65c 3).before #[Value.ref b] s = true from hts _ (List.mem_of_getElem? (i := 84) (by decide +kernel)))
  obtain ⟨c1, f1, hK1⟩ := u_known (args := #[Value.ref b]) (C := RX0) (T := TX0) (N := 6) (n := 6) (lay_X0 hT) (fun _ h => h) (show (Cond.instantiable RX0 6).before #[Value.ref b] s = true from hts _ (List.mem_of_getElem? (i := 219) (by decide +kernel)))
  obtain ⟨c2, f2, hK2⟩ := u_known (args := #[Value.ref b]) (C := RX1) (T := TX1) (N := 5) (n := 5) (lay_X1 hT) (fun _ h => h) (show (Cond.instantiable RX1 5).before #[Value.ref b] s = true from hts _ (List.mem_of_getElem? (i := 126) (by decide +kernel)))
  obtain ⟨c3, f3, hK3⟩ := u_known (args := #[Value.ref b]) (C := RX2) (T := TX2) (N := 7) (n := 7) (lay_X2 hT) (fun _ h => h) (show (Cond.instantiable RX2 7).before #[Value.ref b] s = true from hts _ (List.mem_of_getElem? (i := 306) (by decide +kernel)))
  obtain ⟨c4, f4, hK4⟩ := u_known (args := #[Value.ref b]) (C := RX3) (T := TX3) (N := 2) (n := 2) (lay_X3 hT) (fun _ h => h) (show (Cond.instantiable RX3 2).before #[Value.ref b] s = true from hts _ (List.mem_of_getElem? (i := 112) (by decide +kernel)))
  obtain ⟨c5, f5, hK5⟩ := u_known (args := #[Value.ref b]) (C := RX4) (T := TX4) (N := 5) (n := 5) (lay_X4 hT) (fun _ h => h) (show (Cond.instantiable RX4 5).before #[Value.ref b] s = true from hts _ (List.mem_of_getElem? (i := 76) (by decide +kernel)))
  obtain ⟨c6, f6, hK6⟩ := u_known (args := #[Value.ref b]) (C := RX5) (T := TX5) (N := 18) (n := 18) (lay_X5 hT) (fun _ h => h) (show (Cond.instantiable RX5 18).before #[Value.ref b] s = true from hts _ (List.mem_of_getElem? (i := 825) (by decide +kernel)))
  refine ⟨fun k => match k with | 0 => c0 | 1 => c1 | 2 => c2 | 3 => c3 | 4 => c4 | 5 => c5 | _ => c6, fun k => match k with | 0 => f0 | 1 => f1 | 2 => f2 | 3 => f3 | 4 => f4 | 5 => f5 | _ => f6, ?_⟩
  intro k q hq
  match k, hq with
  | 0, hq => cases hq; exact hK0
  | 1, hq => cases hq; exact hK1
  | 2, hq => cases hq; exact hK2
  | 3, hq => cases hq; exact hK3
  | 4, hq => cases hq; exact hK4
  | 5, hq => cases hq; exact hK5
  | 6, hq => cases hq; exact hK6
  | k + 7, hq => exact absurd (List.getElem?_eq_some_iff.mp hq).1 (by show ¬ k + 7 < 7; omega)
theorem sw_arr {s : State} {ty : FieldType} {args : Array Value} (h : (Cond.arrayClass ty).before args s = true) : ∃ cA : ClassId, ArrOfT s cA ty ∧ s.vm.findClass ("[" ++ ty.toString) = some cA := by
  obtain ⟨c, k, comp, f1, f2, f3⟩ := Cond.arrayClass_spec h
  exact ⟨c, fun n z => ⟨(fun k h => by cases h), k, f2, comp, f3⟩, f1⟩
theorem sw_arrO {s : State} {C : String} (h : va_AO C s) : ∃ cA : ClassId, ArrOfT s cA (.object C) ∧ va_RA s cA (.object C) := by
  obtain ⟨comp, c, k, f1, f2, f3, f4, f5⟩ := Cond.arrayOver_spec h
  exact ⟨c, fun n z => ⟨(fun k h => by cases h), k, f3, comp, f4⟩, k, comp, f3, f4, f1, f5⟩
set_option maxRecDepth 100000 in
theorem sw_strs {s : State} {b : Nat} (hts : ∀ w ∈ lw_tbl, w.before #[Value.ref b] s = true) (hs : ∀ w ∈ flatC (Jvm.Cond.and given_1 narrow_1), w.before #[Value.ref b] s = true) : ∀ q ∈ rStr, ∃ a, vk_R q.1 q.2.1 q.2.2 a s := by
  refine List.forall_mem_cons.mpr ⟨?_, List.forall_mem_cons.mpr ⟨?_, List.forall_mem_cons.mpr ⟨?_, List.forall_mem_cons.mpr ⟨?_, List.forall_mem_cons.mpr ⟨?_, List.forall_mem_cons.mpr ⟨?_, List.forall_mem_cons.mpr ⟨?_, List.forall_mem_cons.mpr ⟨?_, List.forall_mem_cons.mpr ⟨?_, List.forall_mem_cons.mpr ⟨?_, List.forall_mem_cons.mpr ⟨?_, List.forall_mem_cons.mpr ⟨?_, List.forall_mem_cons.mpr ⟨?_, List.forall_mem_cons.mpr ⟨?_, List.forall_mem_cons.mpr ⟨?_, List.forall_mem_cons.mpr ⟨?_, List.forall_mem_cons.mpr ⟨?_, List.forall_mem_cons.mpr ⟨?_, List.forall_mem_cons.mpr ⟨?_, fun _ h => absurd h List.not_mem_nil⟩⟩⟩⟩⟩⟩⟩⟩⟩⟩⟩⟩⟩⟩⟩⟩⟩⟩⟩
  · exact sw_str (cl := "java/lang/String") (show (Cond.stringRef "DieRegister" 40 "no such type").before #[Value.ref b] s = true from hts _ (List.mem_of_getElem? (i := 413) (by decide +kernel))) (show (Cond.exactly (.string "DieRegister" 40) "java/lang/String").before #[Value.ref b] s = true from hs _ (List.mem_of_getElem? (i := 49) (by decide +kernel)))
  · exact sw_str (cl := "java/lang/String") (show (Cond.stringRef "DieRegister" 222 "there are 16 dies").before #[Value.ref b] s = true from hts _ (List.mem_of_getElem? (i := 453) (by decide +kernel))) (show (Cond.exactly (.string "DieRegister" 222) "java/lang/String").before #[Value.ref b] s = true from hs _ (List.mem_of_getElem? (i := 65) (by decide +kernel)))
  · exact sw_str (cl := "java/lang/String") (show (Cond.stringRef "DieRegister" 216 "no such die").before #[Value.ref b] s = true from hts _ (List.mem_of_getElem? (i := 512) (by decide +kernel))) (show (Cond.exactly (.string "DieRegister" 216) "java/lang/String").before #[Value.ref b] s = true from hs _ (List.mem_of_getElem? (i := 87) (by decide +kernel)))
  · exact sw_str (cl := "java/lang/String") (show (Cond.stringRef "DieRegister" 55 "no such defect").before #[Value.ref b] s = true from hts _ (List.mem_of_getElem? (i := 522) (by decide +kernel))) (show (Cond.exactly (.string "DieRegister" 55) "java/lang/String").before #[Value.ref b] s = true from hs _ (List.mem_of_getElem? (i := 104) (by decide +kernel)))
  · exact sw_str (cl := "java/lang/String") (show (Cond.stringRef "DieRegister" 70 "the die is condemned, or has this defect").before #[Value.ref b] s = true from hts _ (List.mem_of_getElem? (i := 529) (by decide +kernel))) (show (Cond.exactly (.string "DieRegister" 70) "java/lang/String").before #[Value.ref b] s = true from hs _ (List.mem_of_getElem? (i := 125) (by decide +kernel)))
  · exact sw_str (cl := "java/lang/String") (show (Cond.stringRef "DieRegister" 79 "count is out of range").before #[Value.ref b] s = true from hts _ (List.mem_of_getElem? (i := 543) (by decide +kernel))) (show (Cond.exactly (.string "DieRegister" 79) "java/lang/String").before #[Value.ref b] s = true from hs _ (List.mem_of_getElem? (i := 173) (by decide +kernel)))
  · exact sw_str (cl := "java/lang/String") (show (Cond.stringRef "DieRegister" 86 "the die is condemned, or the coins would be too many").before #[Value.ref b] s = true from hts _ (List.mem_of_getElem? (i := 544) (by decide +kernel))) (show (Cond.exactly (.string "DieRegister" 86) "java/lang/String").before #[Value.ref b] s = true from hs _ (List.mem_of_getElem? (i := 203) (by decide +kernel)))
  · exact sw_str (cl := "java/lang/String") (show (Cond.stringRef "DieRegister" 218 "no such coin").before #[Value.ref b] s = true from hts _ (List.mem_of_getElem? (i := 591) (by decide +kernel))) (show (Cond.exactly (.string "DieRegister" 218) "java/lang/String").before #[Value.ref b] s = true from hs _ (List.mem_of_getElem? (i := 265) (by decide +kernel)))
  · exact sw_str (cl := "java/lang/String") (show (Cond.stringRef "DieRegister" 107 "the coin was melted").before #[Value.ref b] s = true from hts _ (List.mem_of_getElem? (i := 592) (by decide +kernel))) (show (Cond.exactly (.string "DieRegister" 107) "java/lang/String").before #[Value.ref b] s = true from hs _ (List.mem_of_getElem? (i := 288) (by decide +kernel)))
  · exact sw_str (cl := "java/lang/String") (show (Cond.stringRef "DieRegister" 149 "the die is condemned, or there is no proof").before #[Value.ref b] s = true from hts _ (List.mem_of_getElem? (i := 670) (by decide +kernel))) (show (Cond.exactly (.string "DieRegister" 149) "java/lang/String").before #[Value.ref b] s = true from hs _ (List.mem_of_getElem? (i := 319) (by decide +kernel)))
  · exact sw_str (cl := "java/lang/String") (show (Cond.stringRef "DieRegister" 220 "no such collector").before #[Value.ref b] s = true from hts _ (List.mem_of_getElem? (i := 718) (by decide +kernel))) (show (Cond.exactly (.string "DieRegister" 220) "java/lang/String").before #[Value.ref b] s = true from hs _ (List.mem_of_getElem? (i := 374) (by decide +kernel)))
  · exact sw_str (cl := "java/lang/String") (show (Cond.stringRef "DieRegister" 164 "the coin is not in the mint, or they own 10 coins").before #[Value.ref b] s = true from hts _ (List.mem_of_getElem? (i := 719) (by decide +kernel))) (show (Cond.exactly (.string "DieRegister" 164) "java/lang/String").before #[Value.ref b] s = true from hs _ (List.mem_of_getElem? (i := 405) (by decide +kernel)))
  · exact sw_str (cl := "java/lang/String") (show (Cond.stringRef "DieRegister" 169 "the die is condemned").before #[Value.ref b] s = true from hts _ (List.mem_of_getElem? (i := 731) (by decide +kernel))) (show (Cond.exactly (.string "DieRegister" 169) "java/lang/String").before #[Value.ref b] s = true from hs _ (List.mem_of_getElem? (i := 469) (by decide +kernel)))
  · exact sw_str (cl := "java/lang/String") (show (Cond.stringRef "DieRegister" 171 "percent is out of range").before #[Value.ref b] s = true from hts _ (List.mem_of_getElem? (i := 739) (by decide +kernel))) (show (Cond.exactly (.string "DieRegister" 171) "java/lang/String").before #[Value.ref b] s = true from hs _ (List.mem_of_getElem? (i := 505) (by decide +kernel)))
  · exact sw_str (cl := "java/lang/String") (show (Cond.stringRef "DieRegister" 176 "no collector owns the coin").before #[Value.ref b] s = true from hts _ (List.mem_of_getElem? (i := 747) (by decide +kernel))) (show (Cond.exactly (.string "DieRegister" 176) "java/lang/String").before #[Value.ref b] s = true from hs _ (List.mem_of_getElem? (i := 545) (by decide +kernel)))
  · exact sw_str (cl := "java/lang/String") (show (Cond.stringRef "DieRegister" 195 "no such place").before #[Value.ref b] s = true from hts _ (List.mem_of_getElem? (i := 787) (by decide +kernel))) (show (Cond.exactly (.string "DieRegister" 195) "java/lang/String").before #[Value.ref b] s = true from hs _ (List.mem_of_getElem? (i := 589) (by decide +kernel)))
  · exact sw_str (cl := "java/lang/String") (show (Cond.stringRef "DieRegister$Ring" 77 "no such place").before #[Value.ref b] s = true from hts _ (List.mem_of_getElem? (i := 800) (by decide +kernel))) (show (Cond.exactly (.string "DieRegister$Ring" 77) "java/lang/String").before #[Value.ref b] s = true from hs _ (List.mem_of_getElem? (i := 621) (by decide +kernel)))
  · exact sw_str (cl := "java/lang/String") (show (Cond.stringRef "DieRegister" 206 "no ring is ready, or there were 60 swaps").before #[Value.ref b] s = true from hts _ (List.mem_of_getElem? (i := 809) (by decide +kernel))) (show (Cond.exactly (.string "DieRegister" 206) "java/lang/String").before #[Value.ref b] s = true from hs _ (List.mem_of_getElem? (i := 654) (by decide +kernel)))
  · exact sw_str (cl := "java/lang/String") (show (Cond.stringRef "DieRegister" 211 "no such swap").before #[Value.ref b] s = true from hts _ (List.mem_of_getElem? (i := 823) (by decide +kernel))) (show (Cond.exactly (.string "DieRegister" 211) "java/lang/String").before #[Value.ref b] s = true from hs _ (List.mem_of_getElem? (i := 715) (by decide +kernel)))
set_option maxRecDepth 100000 in
theorem sw_ncs {s : State} {b : Nat} (hs : ∀ w ∈ flatC (Jvm.Cond.and given_1 narrow_1), w.before #[Value.ref b] s = true) : ∀ q ∈ rNc, va_Nc q.1 q.2 s := by
  refine List.forall_mem_cons.mpr ⟨?_, List.forall_mem_cons.mpr ⟨?_, List.forall_mem_cons.mpr ⟨?_, fun _ h => absurd h List.not_mem_nil⟩⟩⟩
  · exact va_Nc.of (show (Cond.not (.castable "java/lang/IllegalStateException" "java/lang/IndexOutOfBoundsException")).before #[Value.ref b] s = true from hs _ (List.mem_of_getElem? (i := 15) (by decide +kernel)))
  · exact va_Nc.of (show (Cond.not (.castable "java/lang/IllegalStateException" "java/lang/IllegalArgumentException")).before #[Value.ref b] s = true from hs _ (List.mem_of_getElem? (i := 34) (by decide +kernel)))
  · exact va_Nc.of (show (Cond.not (.castable "java/lang/IllegalArgumentException" "java/lang/IndexOutOfBoundsException")).before #[Value.ref b] s = true from hs _ (List.mem_of_getElem? (i := 17) (by decide +kernel)))
set_option maxRecDepth 100000 in
/-- the tables' and the statics' part of every state, at the start -/
theorem sw_KZ {s : State} {b : Nat} (hts : ∀ w ∈ lw_tbl, w.before #[Value.ref b] s = true) (hgv : (Jvm.Cond.and given_1 narrow_1).before #[Value.ref b] s = true) : ∃ G : rG, rK G s ∧ rZ G (fun q => s.heap.size ≤ q) s s.heap := by
  have hs := flat_of_before _ hgv
  have hT := sw_rT hts
  have hA : ∀ a : Nat, a < s.heap.size → ¬ (fun q => s.heap.size ≤ q) a := fun a h => Nat.not_le.mpr h
  obtain ⟨dC, dI, hCl⟩ := sw_cls hts
  have hai := (show (Cond.arrayClass .int).before #[Value.ref b] s = true from hts _ (List.mem_of_getElem? (i := 885) (by decide +kernel)))
  have hal := (show (Cond.arrayClass .long).before #[Value.ref b] s = true from hts _ (List.mem_of_getElem? (i := 1088) (by decide +kernel)))
  have hao : va_AO "java/lang/Object" s := va_AO.of (show (Cond.arrayOver (.object "java/lang/Object")).before #[Value.ref b] s = true from hts _ (List.mem_of_getElem? (i := 268) (by decide +kernel)))
  have hac : va_AO "DieRegister$Collector" s := va_AO.of (show (Cond.arrayOver (.object "DieRegister$Collector")).before #[Value.ref b] s = true from hts _ (List.mem_of_getElem? (i := 110) (by decide +kernel)))
  obtain ⟨a0, x0, y0⟩ := sw_arr hai
  obtain ⟨a1, x1, y1⟩ := sw_arr hal
  obtain ⟨a2, x2, y2⟩ := sw_arrO hao
  obtain ⟨a3, x3, y3⟩ := sw_arrO hac
  obtain ⟨mi, hMi⟩ := va_Mi.of (show (Cond.isRef (.mirror "[Ljava/lang/Object;")).before #[Value.ref b] s = true from hs _ (List.mem_of_getElem? (i := 48) (by decide +kernel)))
  have h5 := (show (Cond.arrayOf (.static "java/util/ArrayList" "DEFAULTCAPACITY_EMPTY_ELEMENTDATA" "[Ljava/lang/Object;") (.object "java/lang/Object")).before #[Value.ref b] s = true from hs _ (List.mem_of_getElem? (i := 5) (by decide +kernel)))
  have h7 := (show (Cond.eq (.length (.static "java/util/ArrayList" "DEFAULTCAPACITY_EMPTY_ELEMENTDATA" "[Ljava/lang/Object;")) (.int 0)).before #[Value.ref b] s = true from hs _ (List.mem_of_getElem? (i := 7) (by decide +kernel)))
  obtain ⟨t, ht, hTt⟩ := va_Tof (N := 0) (f := fun _ => .null) (by decide) h5 (va_eqt h7) (fun j hj => absurd hj (Nat.not_lt_zero j)) hA
  have hz := va_Zref (show (Cond.laysStatic "java/util/ArrayList" "DEFAULTCAPACITY_EMPTY_ELEMENTDATA" "[Ljava/lang/Object;").before #[Value.ref b] s = true from hts _ (List.mem_of_getElem? (i := 96) (by decide +kernel))) (show (Cond.initialized "java/util/ArrayList").before #[Value.ref b] s = true from hts _ (List.mem_of_getElem? (i := 56) (by decide +kernel))) ht hA
  have hzu := vx_Zqof (n := "UNASSIGNED_STACK") (show (Cond.laysStatic Bundle.tN "UNASSIGNED_STACK" Bundle.steD).before #[Value.ref b] s = true from hts _ (List.mem_of_getElem? (i := 399) (by decide +kernel))) (show (Cond.initialized Bundle.tN).before #[Value.ref b] s = true from hts _ (List.mem_of_getElem? (i := 60) (by decide +kernel))) (show (Cond.isRef (.static Bundle.tN "UNASSIGNED_STACK" Bundle.steD)).before #[Value.ref b] s = true from hs _ (List.mem_of_getElem? (i := 8) (by decide +kernel))) hA
  have hzs := vx_Zqof (n := "SUPPRESSED_SENTINEL") (show (Cond.laysStatic Bundle.tN "SUPPRESSED_SENTINEL" Bundle.listD).before #[Value.ref b] s = true from hts _ (List.mem_of_getElem? (i := 401) (by decide +kernel))) (show (Cond.initialized Bundle.tN).before #[Value.ref b] s = true from hts _ (List.mem_of_getElem? (i := 60) (by decide +kernel))) (show (Cond.isRef (.static Bundle.tN "SUPPRESSED_SENTINEL" Bundle.listD)).before #[Value.ref b] s = true from hs _ (List.mem_of_getElem? (i := 9) (by decide +kernel))) hA
  refine ⟨((dC, dI), (fun k => match k with | 0 => a0 | 1 => a1 | 2 => a2 | 3 => a3 | _ => mi), t), ⟨⟨hCl, fun k q hq => ?_⟩, hT, hac, hao, word_at (State.WarmedH.refl s) (Or.inr ⟨_, rfl⟩) hai, word_at (State.WarmedH.refl s) (Or.inr ⟨_, rfl⟩) hal, sw_strs hts hs, sw_ncs hs, hMi⟩, hz, hTt, hzu, hzs⟩
  match k, hq with
  | 0, hq => cases hq; exact ⟨x0, y0⟩
  | 1, hq => cases hq; exact ⟨x1, y1⟩
  | 2, hq => cases hq; exact ⟨x2, y2⟩
  | 3, hq => cases hq; exact ⟨x3, y3⟩
  | k + 4, hq => exact absurd (List.getElem?_eq_some_iff.mp hq).1 (by show ¬ k + 4 < 4; omega)
