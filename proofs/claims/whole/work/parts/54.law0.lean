/-! THE LAW'S WRAPPERS (printed by wip/whole/gen/law0.py): methods that catch -/
theorem mt_ofWH {l : Launch} {y : MethodName} {ws ws' : List Cond} {rm : Room} {Pc : Array Value → State → Prop} {Qc : Array Value → State → Outcome → State → Prop} {mc ms : Nat} {free : Addr → Prop} {cc : ByteArray} {maxL : Nat} {ret : Option FieldType} {hh : List (Nat × Nat × Nat × Nat)}
    (hy : plainName y.cls = true) (hw : ws = Cond.codeWith y cc maxL ret hh :: ws')
    (body : ∀ p e s m args below meth c s₁, BodyLoose p l y (headSpec ws rm) cc maxL ret e s m args below meth c s₁ → c.maxLocals = maxL → c.exceptionTable.toList = tableOf hh → Pc args s →
      W p l e (headSpec ws rm).room s m args below meth c s.heap [] 0 0 (MQ below Qc args s mc ms free) (entryFrame m args maxL)) : Met l y ws rm Pc Qc mc ms free := by
  refine MetFree.of_bodyS (code := cc) (maxLocals := maxL) (ret := ret) hy ?_ ?_
  · intro args s m h hn
    obtain ⟨m9, meth, c, hn9, h1, h2, h3, h4, -, h5, h6, -⟩ := Cond.codeWith_spec (atoms_spec (ws := ws) h _ (by rw [hw]; exact List.mem_cons_self))
    cases hn.symm.trans hn9
    exact ⟨meth, c, h1, h2, h3, h4, h5, h6⟩
  · intro p e s m args below meth c s₁ B hml hP _
    have hh0 : s₁.heap = s.heap := by rw [B.state]; rfl
    obtain ⟨t, a1, o, b1, b2, b3⟩ := body p e s m args below meth c s₁ B hml (vx_table (x := y) B (atoms_spec (ws := ws) B.pre _ (by rw [hw]; exact List.mem_cons_self))) hP s₁ hh0 (Stand.of_body B)
    exact ⟨t, o, a1, b1, b2, ⟨b3.1, b3.2⟩⟩
/-- a method that returns, with handlers -/
def rMetH (G : rG) (l : Launch) (y : MethodName) (bytes : ByteArray) (maxL : Nat) (ret : Option FieldType) (hh : List (Nat × Nat × Nat × Nat)) (rm : Room) (av : List Value) (C : rC) (ad : rA) (Rp : Option Value → rC → rA → Prop) : Prop :=
  ∀ sz : Nat, Met l y [Cond.codeWith y bytes maxL ret hh] rm (rPc G av C ad sz) (rQc G C ad sz Rp) rm.cells rm.slots (rF C ad sz)
theorem rMetH.of {G : rG} {l : Launch} {C0 : rC} {ad0 : rA} {Rp : Option Value → rC → rA → Prop} {y : MethodName} {bytes : ByteArray} {maxL : Nat} {ret : Option FieldType} {hh : List (Nat × Nat × Nat × Nat)} {rm : Room} {av : List Value} (hy : plainName y.cls = true)
    (body : ∀ (p : Program) (e : Env) (s : State) (m : MethodId) (below : List Frame) (meth : Method) (c : Code), p.tables.exec = Jvm.exec → c.code = bytes → c.maxLocals = maxL → meth.sig.returnType = ret → meth.locks = false → s.vm.findClass y.cls = some m.cls → meth.name = y.name → rK G s → rZ G (rF C0 ad0 s.heap.size) s s.heap → rS G.1 (rF C0 ad0 s.heap.size) s.heap C0 ad0 s.heap [] → c.exceptionTable.toList = tableOf hh →
      W p l e rm s m av.toArray below meth c s.heap [] 0 0 (MQ below (rQc G C0 ad0 s.heap.size Rp) av.toArray s rm.cells rm.slots (rF C0 ad0 s.heap.size)) (entryFrame m av.toArray maxL)) : rMetH G l y bytes maxL ret hh rm av C0 ad0 Rp := by
  intro sz
  refine mt_ofWH (cc := bytes) (maxL := maxL) (ret := ret) (hh := hh) hy rfl ?_
  intro p e s m args below meth c s₁ B hml htb hv
  obtain ⟨rfl, hsz, hP, hK, hZ⟩ := hv
  subst hsz
  exact body p e s m below meth c B.exec B.bytes hml B.returns B.notSynchronized (findClass_of_methodNamed B.named) (name_of_methodNamed B.named B.method).1 hK hZ (rS.rf hP) htb
section RCallH
variable {p : Program} {l : Launch} {e : Env} {R : Room} {s : State} {m : MethodId} {args : Array Value} {below : List Frame} {meth : Method} {c : Code} {H : Heap} {locs : List Loc} {cells slots : Nat} {Q : State → Prop}
variable {cc : ByteArray} {pc : Nat} {ls : Array Slot} {rest : List Value} {G : rG} {A : Nat → Prop} {C : rC} {ad : rA}
variable {own : String} {index n maxL nL : Nat} {y : MethodName} {bytes : ByteArray} {ret : Option FieldType} {hh : List (Nat × Nat × Nat × Nat)} {rm : Room} {As : List Value} {Rp : Option Value → rC → rA → Prop}
theorem r_isH (hx : p.tables.exec = Jvm.exec) (hb : c.code = cc) (hml : c.maxLocals = nL) (hown : s.vm.findClass own = some m.cls) (w1 : (Cond.methodLink own index y).before args s = true) (w2 : (Cond.static y).before args s = true) (w4 : (Cond.initialized y.cls).before args s = true) (w5 : Cond.codeWith y bytes maxL ret hh ∈ lw_tbl) (hd : y.cls ≠ "java/lang/invoke/MethodHandle" ∧ y.cls ≠ "java/lang/invoke/VarHandle" ∧ (parseMethodDescriptor y.desc).map (fun d => d.parameters.length) = some n)
    (hK : rK G s) (hZ : rZ G A s s.heap) (hS : rS G.1 A s.heap C ad H locs) (hA : ∀ q : Nat, s.heap.size ≤ q → A q) (hM : rMetH G l y bytes maxL ret hh rm As C ad Rp) (hn : As.length = n) (hsz : ls.size = nL) (hW : (rest.map fun v => v.category).sum ≤ 8) (hR : rm.frames + 1 ≤ R.frames ∧ 8 + (maxL + 11) + rm.locals ≤ R.locals) (hf : cells + rm.cells ≤ R.cells ∧ slots + rm.slots ≤ R.slots) {st0 : List Value} (hst : st0 = As.reverse ++ rest) (hdg : decode cc pc = .ok (.invokestatic index, 3))
    (kk : ∀ (v : Option Value) (C' : rC) (ad' : rA) (H1 : Heap) (locs1 : List Loc), Rp v C' ad' → rS G.1 A s.heap C' ad' H1 locs1 → W p l e R s m args below meth c H1 locs1 (cells + rm.cells) (slots + rm.slots) Q (F0 m (pc + 3) ls (v.toList ++ rest))) : W p l e R s m args below meth c H locs cells slots Q (F0 m pc ls st0) := by
  have hk : rok (Cond.codeWith y bytes maxL ret hh) = true := rfl
  have h5 := hK.2.1 _ w5 hk
  refine r_call (vx_runSW (Ts := []) (hh := hh) (bytes := bytes) (maxL := maxL) (ret := ret) ⟨hx, hb, hml, hown, fun w h => absurd h List.not_mem_nil⟩ (hM H.size) ⟨⟨rfl, rfl, hR.1, hR.2, fun w hw a' U hW => ?_, List.mem_singleton.mpr rfl⟩, va_Nw.use (rok_tab hk) h5, w4, ⟨hd.1, hd.2.1⟩, fun sig h => ?_, w1, w2⟩ ⟨rPc_blind, r_pc hK hZ hS hA⟩ rfl hn hsz hst (lv_room hW) hdg hf) hS hA kk
  · rw [List.mem_singleton.mp hw]
    exact rok_warm hk hW h5
  · have h2 := hd.2.2
    rw [h] at h2
    exact (Option.some.inj h2).symm
end RCallH
theorem rMetX.post {G : rG} {l : Launch} {y : MethodName} {bytes : ByteArray} {maxL : Nat} {ret : Option FieldType} {rm : Room} {av : List Value} {C : rC} {ad : rA} {R1 R2 : Option Value → rC → rA → Prop} {X1 X2 : String → rC → rA → Prop} (h : rMetX G l y bytes maxL ret rm av C ad R1 X1) (hR : ∀ v C' ad', R1 v C' ad' → R2 v C' ad') (hX : ∀ E C' ad', X1 E C' ad' → X2 E C' ad') : rMetX G l y bytes maxL ret rm av C ad R2 X2 := by
  intro sz p e ha hc hk s m args below hf happ hP hKt
  obtain ⟨n, o, h1, h2, h3, h4⟩ := h sz p e ha hc hk s m args below hf happ hP hKt
  refine ⟨n, o, h1, h2, h3, ?_⟩
  rcases h4 with ⟨⟨⟨v, C', ad', g1, g2, g3, g4⟩, hF⟩, h5⟩ | ⟨q, hq, E, ce, Ls, ⟨⟨C', ad', g2, g3, g4⟩, hF⟩, h5⟩
  · exact Or.inl ⟨⟨⟨v, C', ad', g1, hR v C' ad' g2, g3, g4⟩, hF⟩, h5⟩
  · exact Or.inr ⟨q, hq, E, ce, Ls, ⟨⟨C', ad', hX E C' ad' g2, g3, g4⟩, hF⟩, h5⟩
section FRM
variable {G : rG} {T : rTab} {L : rL} {C C' : rC} {ad ad' : rA}
/-- the class's world depends on its own roles alone -/
theorem cInv.fr (h : cInv G T L C ad) (hk : ∀ k i, k < 30 → C' k i = C k i ∧ ad' k i = ad k i) : cInv G T L C' ad' := by
  have hC : ∀ k i, k < 30 → C' k i = C k i := fun k i hki => (hk k i hki).1
  have hA : ∀ k, k < 30 → ad' k = ad k := fun k hki => funext fun i => (hk k i hki).2
  obtain ⟨⟨⟨a1, a2, a3, a4, a5, a6, a7⟩, ⟨b1, b2, b3, b4, b5, b6, b7, b8⟩, hn, hh⟩, hr⟩ := h
  have key : ∀ {k i ek : Nat}, k < 18 → ek < 10 → lSh G L C ad k i ek → lSh G L C' ad' k i ek := fun h1 h2 h => h.cong rfl rfl rfl (hC _ _ (by omega)) (hC _ _ (by omega)) (congrFun (hA _ (by omega)) _) (fun y _ => congrFun (hA _ (by omega)) y)
  refine ⟨⟨⟨?_, ?_, ?_, fun i => ?_, fun j => ?_, fun k hk8 => ?_, fun q => ?_⟩, ⟨key (by decide) (by decide) b1, key (by decide) (by decide) b2, key (by decide) (by decide) b3, fun i hi => key (by decide) (by decide) (b4 i hi), fun k hk8 => ⟨key (by decide) (by decide) (b5 k hk8).1, key (by decide) (by decide) (b5 k hk8).2⟩, fun q hq => ⟨key (by decide) (by decide) (b6 q hq).1, key (by decide) (by decide) (b6 q hq).2⟩, fun i hi => ?_, fun q hq => ?_⟩, hn, hh⟩, hr⟩
  · rw [hC 0 0 (by decide), a1]
    unfold reO
    rw [hA 10 (by decide), hA 12 (by decide), hA 7 (by decide), hA 13 (by decide), hA 6 (by decide)]
  · rw [hC 7 0 (by decide), a2]
    unfold caO
    rw [hA 5 (by decide)]
  · rw [hC 9 0 (by decide), a3]
  · rw [hC 1 i (by decide), a4]
    unfold diO
    rw [hA 11 (by decide)]
  · rw [hC 4 j (by decide), a5]
    unfold coO
    rw [hA 1 (by decide), hA 5 (by decide)]
  · rw [hC 5 k (by decide), a6 k hk8]
    unfold clO
    rw [hA 14 (by decide), hA 15 (by decide)]
  · rw [hC 6 q (by decide), a7]
    unfold rgO
    rw [hA 16 (by decide), hA 17 (by decide)]
  · rw [hC 11 i (by decide), hC 21 i (by decide)]
    exact b7 i hi
  · rw [hC 16 q (by decide), hC 26 q (by decide), hC 17 q (by decide), hC 27 q (by decide)]
    exact b8 q hq
def oA (G : rG) (f : Nat → Int64) : va_E := .inl (G.2.1 1, 1, .inr (.inl f))
/-- what is not the class's, and not the law's own cell, stays -/
def oFr (C : rC) (ad : rA) (C' : rC) (ad' : rA) : Prop := (∀ k i, 30 ≤ k → ad' k i = ad k i ∧ (¬ (k = 46 ∧ i = 0) → C' k i = C k i)) ∧ ad' 0 0 = ad 0 0
theorem cFr.o (h : cFr C ad C' ad') : oFr C ad C' ad' := ⟨fun k i hk => ⟨(h.1 k i hk).2, fun _ => (h.1 k i hk).1⟩, h.2⟩
theorem cFr.o2 {e : Option va_E} (h : cFr C ad C' ad') : oFr C ad (ru C' 46 0 e) ad' := ⟨fun k i hk => ⟨(h.1 k i hk).2, fun z => (ru_n z).trans (h.1 k i hk).1⟩, h.2⟩
def lP (G : rG) (S : sR) (C : rC) (ad : rA) : Value → rC → rA → Prop := fun r C' ad' => r = .int (nI S.1) ∧ (∃ L', cInv G S.2.2 L' C' ad') ∧ (∃ f', C' 46 0 = some (oA G f') ∧ (S.1 = 0 → f' 0 = S.2.1.toInt64)) ∧ oFr C ad C' ad'
def ecI (_ : Nat) : String := eIOB
theorem rq_p {q : rQu} (hI : cInv G T L C ad) : ∀ v C' ad', rIs (fun r => q.1 = 0 ∧ r = .int q.2) C ad v C' ad' → pM G C ad (qS T q) v C' ad' := by
  intro v C' ad' h
  obtain ⟨r, h1, ⟨h2, h3⟩, rfl, rfl⟩ := h
  exact ⟨r, h1, ⟨h2, h3⟩, L, hI, cFr.rf⟩
theorem rq_x {q : rQu} (hI : cInv G T L C ad) : ∀ E C' ad', xIs (fun E => q.1 ≠ 0 ∧ E = eIOB) C ad E C' ad' → xM G C ad (qS T q) ecI E C' ad' := by
  intro E C' ad' h
  obtain ⟨⟨h2, h3⟩, rfl, rfl⟩ := h
  exact ⟨⟨h2, h3⟩, L, hI, cFr.rf⟩
end FRM
theorem byN_le {n : Nat} {a : Int32} {f : Nat → Int32} : (byN n a f).1 ≤ 1 := by
  unfold byN
  split <;> exact Nat.le_of_ble_eq_true rfl
theorem byN_b {n : Nat} {a : Int32} {f : Nat → Bool} (h : (byN n a (fun j => bI (f j))).1 = 0) : ∃ b, (byN n a (fun j => bI (f j))).2 = bI b := by
  unfold byN at h ⊢
  split
  · rename_i h9
    rw [h9] at h
    cases h
  · exact ⟨_, rfl⟩
theorem coinQ_le {T : rTab} {a b : Int32} : (coinQ T a b).1 ≤ 1 := by
  unfold coinQ
  split
  · exact Nat.le_of_ble_eq_true rfl
  · unfold atQ
    split <;> exact Nat.le_of_ble_eq_true rfl
theorem swapQ_le {T : rTab} {a b : Int32} : (swapQ T a b).1 ≤ 1 := by
  unfold swapQ
  split
  · exact Nat.le_of_ble_eq_true rfl
  · split <;> exact Nat.le_of_ble_eq_true rfl
theorem sNew_le {T : rTab} {t df : Nat} : (sNew T t df).1 ≤ 2 := by
  unfold sNew
  split <;> exact Nat.le_of_ble_eq_true rfl
theorem sAddDie_le {T : rTab} {a : Int32} : (sAddDie T a).1 ≤ 2 := by
  unfold sAddDie
  split
  · exact Nat.le_of_ble_eq_true rfl
  · exact sNew_le
theorem sCast_le {T : rTab} {a : Int32} : (sCast T a).1 ≤ 2 := by
  unfold sCast
  split
  · exact Nat.le_of_ble_eq_true rfl
  · split
    · exact Nat.le_of_ble_eq_true rfl
    · exact sNew_le
theorem sCrack_le {T : rTab} {a b : Int32} : (sCrack T a b).1 ≤ 3 := by
  unfold sCrack
  split
  · exact Nat.le_of_ble_eq_true rfl
  · split
    · exact Nat.le_of_ble_eq_true rfl
    · split <;> exact Nat.le_of_ble_eq_true rfl
theorem sStrike_le {T : rTab} {a b : Int32} : (sStrike T a b).1 ≤ 3 := by
  unfold sStrike
  split
  · exact Nat.le_of_ble_eq_true rfl
  · split
    · exact Nat.le_of_ble_eq_true rfl
    · split
      · exact Nat.le_of_ble_eq_true rfl
      · split <;> exact Nat.le_of_ble_eq_true rfl
theorem sWant_le {T : rTab} {a b : Int32} {w : Bool} : (sWant T a b w).1 ≤ 2 := by
  unfold sWant
  split
  · exact Nat.le_of_ble_eq_true rfl
  · split
    · exact Nat.le_of_ble_eq_true rfl
    · split <;> exact Nat.le_of_ble_eq_true rfl
theorem sFair_le {T : rTab} {a b : Int32} : (sFair T a b).1 ≤ 2 := by
  unfold sFair
  split
  · exact Nat.le_of_ble_eq_true rfl
  · split <;> exact Nat.le_of_ble_eq_true rfl
theorem sMark_le {T : rTab} {a : Int32} {w : Bool} : (sMark T a w).1 ≤ 2 := by
  unfold sMark
  split
  · exact Nat.le_of_ble_eq_true rfl
  · split <;> exact Nat.le_of_ble_eq_true rfl
theorem sMark_b {T : rTab} {a : Int32} {w : Bool} (h : (sMark T a w).1 = 0) : ∃ b, (sMark T a w).2.1 = bI b := by
  cases hj : ixO a (nC T) with
  | none =>
    rw [sMark_1 hj] at h
    cases h
  | some j =>
    rw [sMark_0 hj] at h ⊢
    split
    · rename_i h8
      rw [if_pos h8] at h
      cases h
    · exact ⟨_, rfl⟩
theorem sMelt_le {T : rTab} {a : Int32} : (sMelt T a).1 ≤ 2 := by
  unfold sMelt
  split
  · exact Nat.le_of_ble_eq_true rfl
  · split <;> exact Nat.le_of_ble_eq_true rfl
theorem sGive_le {T : rTab} {a b : Int32} : (sGive T a b).1 ≤ 2 := by
  unfold sGive
  split
  · exact Nat.le_of_ble_eq_true rfl
  · split
    · exact Nat.le_of_ble_eq_true rfl
    · split <;> exact Nat.le_of_ble_eq_true rfl
theorem sCond_le {T : rTab} {a : Int32} : (sCond T a).1 ≤ 2 := by
  unfold sCond
  split
  · exact Nat.le_of_ble_eq_true rfl
  · split <;> exact Nat.le_of_ble_eq_true rfl
theorem sOffers_le {T : rTab} {a : Int32} : (sOffers T a).1 ≤ 1 := by
  unfold sOffers
  split <;> exact Nat.le_of_ble_eq_true rfl
theorem sRingAt_le {T : rTab} {a : Int32} : (sRingAt T a).1 ≤ 1 := by
  unfold sRingAt
  split <;> exact Nat.le_of_ble_eq_true rfl
theorem sSwap_le {T : rTab} : (sSwap T).1 ≤ 1 := by
  unfold sSwap
  split <;> exact Nat.le_of_ble_eq_true rfl
theorem lk_IOB {G : rG} {s : State} {args : Array Value} (hK : rK G s) : (Cond.classLink RL 13 "java/lang/IndexOutOfBoundsException").before args s = true := (hK.2.1.get 366 (by decide +kernel) rfl)
theorem cs_IOB {G : rG} {s : State} {args : Array Value} (hK : rK G s) : (Cond.castable "java/lang/IndexOutOfBoundsException" "java/lang/IndexOutOfBoundsException").before args s = true := (hK.2.1.get 374 (by decide +kernel) rfl)
theorem lk_ISE {G : rG} {s : State} {args : Array Value} (hK : rK G s) : (Cond.classLink RL 15 "java/lang/IllegalStateException").before args s = true := (hK.2.1.get 367 (by decide +kernel) rfl)
theorem cs_ISE {G : rG} {s : State} {args : Array Value} (hK : rK G s) : (Cond.castable "java/lang/IllegalStateException" "java/lang/IllegalStateException").before args s = true := (hK.2.1.get 446 (by decide +kernel) rfl)
theorem lk_IAE {G : rG} {s : State} {args : Array Value} (hK : rK G s) : (Cond.classLink RL 21 "java/lang/IllegalArgumentException").before args s = true := (hK.2.1.get 503 (by decide +kernel) rfl)
theorem cs_IAE {G : rG} {s : State} {args : Array Value} (hK : rK G s) : (Cond.castable "java/lang/IllegalArgumentException" "java/lang/IllegalArgumentException").before args s = true := (hK.2.1.get 515 (by decide +kernel) rfl)
theorem nc_ISE_IOB {G : rG} {s : State} (hK : rK G s) : va_Nc "java/lang/IllegalStateException" "java/lang/IndexOutOfBoundsException" s := hK.2.2.2.2.2.2.2.1 ("java/lang/IllegalStateException", "java/lang/IndexOutOfBoundsException") (by decide)
theorem nc_ISE_IAE {G : rG} {s : State} (hK : rK G s) : va_Nc "java/lang/IllegalStateException" "java/lang/IllegalArgumentException" s := hK.2.2.2.2.2.2.2.1 ("java/lang/IllegalStateException", "java/lang/IllegalArgumentException") (by decide)
theorem nc_IAE_IOB {G : rG} {s : State} (hK : rK G s) : va_Nc "java/lang/IllegalArgumentException" "java/lang/IndexOutOfBoundsException" s := hK.2.2.2.2.2.2.2.1 ("java/lang/IllegalArgumentException", "java/lang/IndexOutOfBoundsException") (by decide)
section
variable {p : Program} {l : Launch} {e : Env} {R : Room} {s : State} {m : MethodId} {args : Array Value} {below : List Frame} {meth : Method} {c : Code} {H : Heap} {locs : List Loc} {cells slots : Nat} {Q : State → Prop} {cc : ByteArray} {pc : Nat} {ls : Array Slot} {rest : List Value} {G : rG} {A : Nat → Prop} {C : rC} {ad : rA} {nL : Nat} {rm : Room} {As : List Value} {Rp : Option Value → rC → rA → Prop}
theorem cl_L_106 (hx : p.tables.exec = Jvm.exec) (hb : c.code = cc) (hml : c.maxLocals = nL) (hown : s.vm.findClass RL = some m.cls) (hK : rK G s) (hZ : rZ G A s s.heap) (hS : rS G.1 A s.heap C ad H locs) (hA : ∀ q : Nat, s.heap.size ≤ q → A q) (hM : rMetH G l yL_addDie cL_addDie 4 (some .int) [(0, 9, 12, 13), (0, 9, 15, 15)] rm As C ad Rp) (hn : As.length = 3) (hsz : ls.size = nL) (hW : (rest.map fun v => v.category).sum ≤ 8) (hR : rm.frames + 1 ≤ R.frames ∧ 8 + (4 + 11) + rm.locals ≤ R.locals) (hf : cells + rm.cells ≤ R.cells ∧ slots + rm.slots ≤ R.slots) {st0 : List Value} (hst : st0 = As.reverse ++ rest) (hdg : decode cc pc = .ok (.invokestatic 106, 3)) (kk : ∀ (v : Option Value) (C' : rC) (ad' : rA) (H1 : Heap) (locs1 : List Loc), Rp v C' ad' → rS G.1 A s.heap C' ad' H1 locs1 → W p l e R s m args below meth c H1 locs1 (cells + rm.cells) (slots + rm.slots) Q (F0 m (pc + 3) ls (v.toList ++ rest))) : W p l e R s m args below meth c H locs cells slots Q (F0 m pc ls st0) :=
  r_isH (own := RL) hx hb hml hown (hK.2.1.get 363 (by decide +kernel) rfl) (hK.2.1.get 364 (by decide +kernel) rfl) (hK.2.1.get 52 (by decide +kernel) rfl) (List.mem_of_getElem? (i := 365) (by decide +kernel)) (by decide +kernel) hK hZ hS hA hM hn hsz hW hR hf hst hdg kk
theorem cl_L_115 (hx : p.tables.exec = Jvm.exec) (hb : c.code = cc) (hml : c.maxLocals = nL) (hown : s.vm.findClass RL = some m.cls) (hK : rK G s) (hZ : rZ G A s s.heap) (hS : rS G.1 A s.heap C ad H locs) (hA : ∀ q : Nat, s.heap.size ≤ q → A q) (hM : rMetH G l yL_crack cL_crack 5 (some .int) [(0, 10, 13, 13), (0, 10, 17, 21), (0, 10, 21, 15)] rm As C ad Rp) (hn : As.length = 4) (hsz : ls.size = nL) (hW : (rest.map fun v => v.category).sum ≤ 8) (hR : rm.frames + 1 ≤ R.frames ∧ 8 + (5 + 11) + rm.locals ≤ R.locals) (hf : cells + rm.cells ≤ R.cells ∧ slots + rm.slots ≤ R.slots) {st0 : List Value} (hst : st0 = As.reverse ++ rest) (hdg : decode cc pc = .ok (.invokestatic 115, 3)) (kk : ∀ (v : Option Value) (C' : rC) (ad' : rA) (H1 : Heap) (locs1 : List Loc), Rp v C' ad' → rS G.1 A s.heap C' ad' H1 locs1 → W p l e R s m args below meth c H1 locs1 (cells + rm.cells) (slots + rm.slots) Q (F0 m (pc + 3) ls (v.toList ++ rest))) : W p l e R s m args below meth c H locs cells slots Q (F0 m pc ls st0) :=
  r_isH (own := RL) hx hb hml hown (hK.2.1.get 500 (by decide +kernel) rfl) (hK.2.1.get 501 (by decide +kernel) rfl) (hK.2.1.get 52 (by decide +kernel) rfl) (List.mem_of_getElem? (i := 502) (by decide +kernel)) (by decide +kernel) hK hZ hS hA hM hn hsz hW hR hf hst hdg kk
theorem cl_L_119 (hx : p.tables.exec = Jvm.exec) (hb : c.code = cc) (hml : c.maxLocals = nL) (hown : s.vm.findClass RL = some m.cls) (hK : rK G s) (hZ : rZ G A s s.heap) (hS : rS G.1 A s.heap C ad H locs) (hA : ∀ q : Nat, s.heap.size ≤ q → A q) (hM : rMetH G l yL_strike cL_strike 5 (some .int) [(0, 10, 13, 13), (0, 10, 17, 21), (0, 10, 21, 15)] rm As C ad Rp) (hn : As.length = 4) (hsz : ls.size = nL) (hW : (rest.map fun v => v.category).sum ≤ 8) (hR : rm.frames + 1 ≤ R.frames ∧ 8 + (5 + 11) + rm.locals ≤ R.locals) (hf : cells + rm.cells ≤ R.cells ∧ slots + rm.slots ≤ R.slots) {st0 : List Value} (hst : st0 = As.reverse ++ rest) (hdg : decode cc pc = .ok (.invokestatic 119, 3)) (kk : ∀ (v : Option Value) (C' : rC) (ad' : rA) (H1 : Heap) (locs1 : List Loc), Rp v C' ad' → rS G.1 A s.heap C' ad' H1 locs1 → W p l e R s m args below meth c H1 locs1 (cells + rm.cells) (slots + rm.slots) Q (F0 m (pc + 3) ls (v.toList ++ rest))) : W p l e R s m args below meth c H locs cells slots Q (F0 m pc ls st0) :=
  r_isH (own := RL) hx hb hml hown (hK.2.1.get 536 (by decide +kernel) rfl) (hK.2.1.get 537 (by decide +kernel) rfl) (hK.2.1.get 52 (by decide +kernel) rfl) (List.mem_of_getElem? (i := 538) (by decide +kernel)) (by decide +kernel) hK hZ hS hA hM hn hsz hW hR hf hst hdg kk
theorem cl_L_122 (hx : p.tables.exec = Jvm.exec) (hb : c.code = cc) (hml : c.maxLocals = nL) (hown : s.vm.findClass RL = some m.cls) (hK : rK G s) (hZ : rZ G A s s.heap) (hS : rS G.1 A s.heap C ad H locs) (hA : ∀ q : Nat, s.heap.size ≤ q → A q) (hM : rMetH G l yL_cast cL_cast 4 (some .int) [(0, 9, 12, 13), (0, 9, 15, 15)] rm As C ad Rp) (hn : As.length = 3) (hsz : ls.size = nL) (hW : (rest.map fun v => v.category).sum ≤ 8) (hR : rm.frames + 1 ≤ R.frames ∧ 8 + (4 + 11) + rm.locals ≤ R.locals) (hf : cells + rm.cells ≤ R.cells ∧ slots + rm.slots ≤ R.slots) {st0 : List Value} (hst : st0 = As.reverse ++ rest) (hdg : decode cc pc = .ok (.invokestatic 122, 3)) (kk : ∀ (v : Option Value) (C' : rC) (ad' : rA) (H1 : Heap) (locs1 : List Loc), Rp v C' ad' → rS G.1 A s.heap C' ad' H1 locs1 → W p l e R s m args below meth c H1 locs1 (cells + rm.cells) (slots + rm.slots) Q (F0 m (pc + 3) ls (v.toList ++ rest))) : W p l e R s m args below meth c H locs cells slots Q (F0 m pc ls st0) :=
  r_isH (own := RL) hx hb hml hown (hK.2.1.get 580 (by decide +kernel) rfl) (hK.2.1.get 581 (by decide +kernel) rfl) (hK.2.1.get 52 (by decide +kernel) rfl) (List.mem_of_getElem? (i := 582) (by decide +kernel)) (by decide +kernel) hK hZ hS hA hM hn hsz hW hR hf hst hdg kk
theorem cl_L_125 (hx : p.tables.exec = Jvm.exec) (hb : c.code = cc) (hml : c.maxLocals = nL) (hown : s.vm.findClass RL = some m.cls) (hK : rK G s) (hZ : rZ G A s s.heap) (hS : rS G.1 A s.heap C ad H locs) (hA : ∀ q : Nat, s.heap.size ≤ q → A q) (hM : rMetH G l yL_melt cL_melt 4 (some .int) [(0, 9, 12, 13), (0, 9, 15, 15)] rm As C ad Rp) (hn : As.length = 3) (hsz : ls.size = nL) (hW : (rest.map fun v => v.category).sum ≤ 8) (hR : rm.frames + 1 ≤ R.frames ∧ 8 + (4 + 11) + rm.locals ≤ R.locals) (hf : cells + rm.cells ≤ R.cells ∧ slots + rm.slots ≤ R.slots) {st0 : List Value} (hst : st0 = As.reverse ++ rest) (hdg : decode cc pc = .ok (.invokestatic 125, 3)) (kk : ∀ (v : Option Value) (C' : rC) (ad' : rA) (H1 : Heap) (locs1 : List Loc), Rp v C' ad' → rS G.1 A s.heap C' ad' H1 locs1 → W p l e R s m args below meth c H1 locs1 (cells + rm.cells) (slots + rm.slots) Q (F0 m (pc + 3) ls (v.toList ++ rest))) : W p l e R s m args below meth c H locs cells slots Q (F0 m pc ls st0) :=
  r_isH (own := RL) hx hb hml hown (hK.2.1.get 593 (by decide +kernel) rfl) (hK.2.1.get 594 (by decide +kernel) rfl) (hK.2.1.get 52 (by decide +kernel) rfl) (List.mem_of_getElem? (i := 595) (by decide +kernel)) (by decide +kernel) hK hZ hS hA hM hn hsz hW hR hf hst hdg kk
theorem cl_L_132 (hx : p.tables.exec = Jvm.exec) (hb : c.code = cc) (hml : c.maxLocals = nL) (hown : s.vm.findClass RL = some m.cls) (hK : rK G s) (hZ : rZ G A s s.heap) (hS : rS G.1 A s.heap C ad H locs) (hA : ∀ q : Nat, s.heap.size ≤ q → A q) (hM : rMetH G l yL_defects cL_defects 4 (some .int) [(0, 9, 12, 13)] rm As C ad Rp) (hn : As.length = 3) (hsz : ls.size = nL) (hW : (rest.map fun v => v.category).sum ≤ 8) (hR : rm.frames + 1 ≤ R.frames ∧ 8 + (4 + 11) + rm.locals ≤ R.locals) (hf : cells + rm.cells ≤ R.cells ∧ slots + rm.slots ≤ R.slots) {st0 : List Value} (hst : st0 = As.reverse ++ rest) (hdg : decode cc pc = .ok (.invokestatic 132, 3)) (kk : ∀ (v : Option Value) (C' : rC) (ad' : rA) (H1 : Heap) (locs1 : List Loc), Rp v C' ad' → rS G.1 A s.heap C' ad' H1 locs1 → W p l e R s m args below meth c H1 locs1 (cells + rm.cells) (slots + rm.slots) Q (F0 m (pc + 3) ls (v.toList ++ rest))) : W p l e R s m args below meth c H locs cells slots Q (F0 m pc ls st0) :=
  r_isH (own := RL) hx hb hml hown (hK.2.1.get 610 (by decide +kernel) rfl) (hK.2.1.get 611 (by decide +kernel) rfl) (hK.2.1.get 52 (by decide +kernel) rfl) (List.mem_of_getElem? (i := 612) (by decide +kernel)) (by decide +kernel) hK hZ hS hA hM hn hsz hW hR hf hst hdg kk
theorem cl_L_135 (hx : p.tables.exec = Jvm.exec) (hb : c.code = cc) (hml : c.maxLocals = nL) (hown : s.vm.findClass RL = some m.cls) (hK : rK G s) (hZ : rZ G A s s.heap) (hS : rS G.1 A s.heap C ad H locs) (hA : ∀ q : Nat, s.heap.size ≤ q → A q) (hM : rMetH G l yL_couldBeOf cL_couldBeOf 4 (some .int) [(0, 9, 12, 13)] rm As C ad Rp) (hn : As.length = 3) (hsz : ls.size = nL) (hW : (rest.map fun v => v.category).sum ≤ 8) (hR : rm.frames + 1 ≤ R.frames ∧ 8 + (4 + 11) + rm.locals ≤ R.locals) (hf : cells + rm.cells ≤ R.cells ∧ slots + rm.slots ≤ R.slots) {st0 : List Value} (hst : st0 = As.reverse ++ rest) (hdg : decode cc pc = .ok (.invokestatic 135, 3)) (kk : ∀ (v : Option Value) (C' : rC) (ad' : rA) (H1 : Heap) (locs1 : List Loc), Rp v C' ad' → rS G.1 A s.heap C' ad' H1 locs1 → W p l e R s m args below meth c H1 locs1 (cells + rm.cells) (slots + rm.slots) Q (F0 m (pc + 3) ls (v.toList ++ rest))) : W p l e R s m args below meth c H locs cells slots Q (F0 m pc ls st0) :=
  r_isH (own := RL) hx hb hml hown (hK.2.1.get 617 (by decide +kernel) rfl) (hK.2.1.get 618 (by decide +kernel) rfl) (hK.2.1.get 52 (by decide +kernel) rfl) (List.mem_of_getElem? (i := 619) (by decide +kernel)) (by decide +kernel) hK hZ hS hA hM hn hsz hW hR hf hst hdg kk
theorem cl_L_138 (hx : p.tables.exec = Jvm.exec) (hb : c.code = cc) (hml : c.maxLocals = nL) (hown : s.vm.findClass RL = some m.cls) (hK : rK G s) (hZ : rZ G A s s.heap) (hS : rS G.1 A s.heap C ad H locs) (hA : ∀ q : Nat, s.heap.size ≤ q → A q) (hM : rMetH G l yL_stages cL_stages 4 (some .int) [(0, 9, 12, 13)] rm As C ad Rp) (hn : As.length = 3) (hsz : ls.size = nL) (hW : (rest.map fun v => v.category).sum ≤ 8) (hR : rm.frames + 1 ≤ R.frames ∧ 8 + (4 + 11) + rm.locals ≤ R.locals) (hf : cells + rm.cells ≤ R.cells ∧ slots + rm.slots ≤ R.slots) {st0 : List Value} (hst : st0 = As.reverse ++ rest) (hdg : decode cc pc = .ok (.invokestatic 138, 3)) (kk : ∀ (v : Option Value) (C' : rC) (ad' : rA) (H1 : Heap) (locs1 : List Loc), Rp v C' ad' → rS G.1 A s.heap C' ad' H1 locs1 → W p l e R s m args below meth c H1 locs1 (cells + rm.cells) (slots + rm.slots) Q (F0 m (pc + 3) ls (v.toList ++ rest))) : W p l e R s m args below meth c H locs cells slots Q (F0 m pc ls st0) :=
  r_isH (own := RL) hx hb hml hown (hK.2.1.get 632 (by decide +kernel) rfl) (hK.2.1.get 633 (by decide +kernel) rfl) (hK.2.1.get 52 (by decide +kernel) rfl) (List.mem_of_getElem? (i := 634) (by decide +kernel)) (by decide +kernel) hK hZ hS hA hM hn hsz hW hR hf hst hdg kk
theorem cl_L_141 (hx : p.tables.exec = Jvm.exec) (hb : c.code = cc) (hml : c.maxLocals = nL) (hown : s.vm.findClass RL = some m.cls) (hK : rK G s) (hZ : rZ G A s s.heap) (hS : rS G.1 A s.heap C ad H locs) (hA : ∀ q : Nat, s.heap.size ≤ q → A q) (hM : rMetH G l yL_proof cL_proof 4 (some .int) [(0, 9, 12, 13)] rm As C ad Rp) (hn : As.length = 3) (hsz : ls.size = nL) (hW : (rest.map fun v => v.category).sum ≤ 8) (hR : rm.frames + 1 ≤ R.frames ∧ 8 + (4 + 11) + rm.locals ≤ R.locals) (hf : cells + rm.cells ≤ R.cells ∧ slots + rm.slots ≤ R.slots) {st0 : List Value} (hst : st0 = As.reverse ++ rest) (hdg : decode cc pc = .ok (.invokestatic 141, 3)) (kk : ∀ (v : Option Value) (C' : rC) (ad' : rA) (H1 : Heap) (locs1 : List Loc), Rp v C' ad' → rS G.1 A s.heap C' ad' H1 locs1 → W p l e R s m args below meth c H1 locs1 (cells + rm.cells) (slots + rm.slots) Q (F0 m (pc + 3) ls (v.toList ++ rest))) : W p l e R s m args below meth c H locs cells slots Q (F0 m pc ls st0) :=
  r_isH (own := RL) hx hb hml hown (hK.2.1.get 644 (by decide +kernel) rfl) (hK.2.1.get 645 (by decide +kernel) rfl) (hK.2.1.get 52 (by decide +kernel) rfl) (List.mem_of_getElem? (i := 646) (by decide +kernel)) (by decide +kernel) hK hZ hS hA hM hn hsz hW hR hf hst hdg kk
theorem cl_L_144 (hx : p.tables.exec = Jvm.exec) (hb : c.code = cc) (hml : c.maxLocals = nL) (hown : s.vm.findClass RL = some m.cls) (hK : rK G s) (hZ : rZ G A s s.heap) (hS : rS G.1 A s.heap C ad H locs) (hA : ∀ q : Nat, s.heap.size ≤ q → A q) (hM : rMetH G l yL_condemn cL_condemn 4 (some .int) [(0, 9, 12, 13), (0, 9, 15, 15)] rm As C ad Rp) (hn : As.length = 3) (hsz : ls.size = nL) (hW : (rest.map fun v => v.category).sum ≤ 8) (hR : rm.frames + 1 ≤ R.frames ∧ 8 + (4 + 11) + rm.locals ≤ R.locals) (hf : cells + rm.cells ≤ R.cells ∧ slots + rm.slots ≤ R.slots) {st0 : List Value} (hst : st0 = As.reverse ++ rest) (hdg : decode cc pc = .ok (.invokestatic 144, 3)) (kk : ∀ (v : Option Value) (C' : rC) (ad' : rA) (H1 : Heap) (locs1 : List Loc), Rp v C' ad' → rS G.1 A s.heap C' ad' H1 locs1 → W p l e R s m args below meth c H1 locs1 (cells + rm.cells) (slots + rm.slots) Q (F0 m (pc + 3) ls (v.toList ++ rest))) : W p l e R s m args below meth c H locs cells slots Q (F0 m pc ls st0) :=
  r_isH (own := RL) hx hb hml hown (hK.2.1.get 663 (by decide +kernel) rfl) (hK.2.1.get 664 (by decide +kernel) rfl) (hK.2.1.get 52 (by decide +kernel) rfl) (List.mem_of_getElem? (i := 665) (by decide +kernel)) (by decide +kernel) hK hZ hS hA hM hn hsz hW hR hf hst hdg kk
theorem cl_L_147 (hx : p.tables.exec = Jvm.exec) (hb : c.code = cc) (hml : c.maxLocals = nL) (hown : s.vm.findClass RL = some m.cls) (hK : rK G s) (hZ : rZ G A s s.heap) (hS : rS G.1 A s.heap C ad H locs) (hA : ∀ q : Nat, s.heap.size ≤ q → A q) (hM : rMetH G l yL_isCondemned cL_isCondemned 4 (some .int) [(0, 16, 19, 13)] rm As C ad Rp) (hn : As.length = 3) (hsz : ls.size = nL) (hW : (rest.map fun v => v.category).sum ≤ 8) (hR : rm.frames + 1 ≤ R.frames ∧ 8 + (4 + 11) + rm.locals ≤ R.locals) (hf : cells + rm.cells ≤ R.cells ∧ slots + rm.slots ≤ R.slots) {st0 : List Value} (hst : st0 = As.reverse ++ rest) (hdg : decode cc pc = .ok (.invokestatic 147, 3)) (kk : ∀ (v : Option Value) (C' : rC) (ad' : rA) (H1 : Heap) (locs1 : List Loc), Rp v C' ad' → rS G.1 A s.heap C' ad' H1 locs1 → W p l e R s m args below meth c H1 locs1 (cells + rm.cells) (slots + rm.slots) Q (F0 m (pc + 3) ls (v.toList ++ rest))) : W p l e R s m args below meth c H locs cells slots Q (F0 m pc ls st0) :=
  r_isH (own := RL) hx hb hml hown (hK.2.1.get 671 (by decide +kernel) rfl) (hK.2.1.get 672 (by decide +kernel) rfl) (hK.2.1.get 52 (by decide +kernel) rfl) (List.mem_of_getElem? (i := 673) (by decide +kernel)) (by decide +kernel) hK hZ hS hA hM hn hsz hW hR hf hst hdg kk
theorem cl_L_150 (hx : p.tables.exec = Jvm.exec) (hb : c.code = cc) (hml : c.maxLocals = nL) (hown : s.vm.findClass RL = some m.cls) (hK : rK G s) (hZ : rZ G A s s.heap) (hS : rS G.1 A s.heap C ad H locs) (hA : ∀ q : Nat, s.heap.size ≤ q → A q) (hM : rMetH G l yL_isTrue cL_isTrue 4 (some .int) [(0, 16, 19, 13)] rm As C ad Rp) (hn : As.length = 3) (hsz : ls.size = nL) (hW : (rest.map fun v => v.category).sum ≤ 8) (hR : rm.frames + 1 ≤ R.frames ∧ 8 + (4 + 11) + rm.locals ≤ R.locals) (hf : cells + rm.cells ≤ R.cells ∧ slots + rm.slots ≤ R.slots) {st0 : List Value} (hst : st0 = As.reverse ++ rest) (hdg : decode cc pc = .ok (.invokestatic 150, 3)) (kk : ∀ (v : Option Value) (C' : rC) (ad' : rA) (H1 : Heap) (locs1 : List Loc), Rp v C' ad' → rS G.1 A s.heap C' ad' H1 locs1 → W p l e R s m args below meth c H1 locs1 (cells + rm.cells) (slots + rm.slots) Q (F0 m (pc + 3) ls (v.toList ++ rest))) : W p l e R s m args below meth c H locs cells slots Q (F0 m pc ls st0) :=
  r_isH (own := RL) hx hb hml hown (hK.2.1.get 678 (by decide +kernel) rfl) (hK.2.1.get 679 (by decide +kernel) rfl) (hK.2.1.get 52 (by decide +kernel) rfl) (List.mem_of_getElem? (i := 680) (by decide +kernel)) (by decide +kernel) hK hZ hS hA hM hn hsz hW hR hf hst hdg kk
theorem cl_L_153 (hx : p.tables.exec = Jvm.exec) (hb : c.code = cc) (hml : c.maxLocals = nL) (hown : s.vm.findClass RL = some m.cls) (hK : rK G s) (hZ : rZ G A s s.heap) (hS : rS G.1 A s.heap C ad H locs) (hA : ∀ q : Nat, s.heap.size ≤ q → A q) (hM : rMetH G l yL_rarity cL_rarity 4 (some .int) [(0, 9, 12, 13)] rm As C ad Rp) (hn : As.length = 3) (hsz : ls.size = nL) (hW : (rest.map fun v => v.category).sum ≤ 8) (hR : rm.frames + 1 ≤ R.frames ∧ 8 + (4 + 11) + rm.locals ≤ R.locals) (hf : cells + rm.cells ≤ R.cells ∧ slots + rm.slots ≤ R.slots) {st0 : List Value} (hst : st0 = As.reverse ++ rest) (hdg : decode cc pc = .ok (.invokestatic 153, 3)) (kk : ∀ (v : Option Value) (C' : rC) (ad' : rA) (H1 : Heap) (locs1 : List Loc), Rp v C' ad' → rS G.1 A s.heap C' ad' H1 locs1 → W p l e R s m args below meth c H1 locs1 (cells + rm.cells) (slots + rm.slots) Q (F0 m (pc + 3) ls (v.toList ++ rest))) : W p l e R s m args below meth c H locs cells slots Q (F0 m pc ls st0) :=
  r_isH (own := RL) hx hb hml hown (hK.2.1.get 685 (by decide +kernel) rfl) (hK.2.1.get 686 (by decide +kernel) rfl) (hK.2.1.get 52 (by decide +kernel) rfl) (List.mem_of_getElem? (i := 687) (by decide +kernel)) (by decide +kernel) hK hZ hS hA hM hn hsz hW hR hf hst hdg kk
theorem cl_L_156 (hx : p.tables.exec = Jvm.exec) (hb : c.code = cc) (hml : c.maxLocals = nL) (hown : s.vm.findClass RL = some m.cls) (hK : rK G s) (hZ : rZ G A s s.heap) (hS : rS G.1 A s.heap C ad H locs) (hA : ∀ q : Nat, s.heap.size ≤ q → A q) (hM : rMetH G l yL_rarityByCoins cL_rarityByCoins 4 (some .int) [(0, 9, 12, 13)] rm As C ad Rp) (hn : As.length = 3) (hsz : ls.size = nL) (hW : (rest.map fun v => v.category).sum ≤ 8) (hR : rm.frames + 1 ≤ R.frames ∧ 8 + (4 + 11) + rm.locals ≤ R.locals) (hf : cells + rm.cells ≤ R.cells ∧ slots + rm.slots ≤ R.slots) {st0 : List Value} (hst : st0 = As.reverse ++ rest) (hdg : decode cc pc = .ok (.invokestatic 156, 3)) (kk : ∀ (v : Option Value) (C' : rC) (ad' : rA) (H1 : Heap) (locs1 : List Loc), Rp v C' ad' → rS G.1 A s.heap C' ad' H1 locs1 → W p l e R s m args below meth c H1 locs1 (cells + rm.cells) (slots + rm.slots) Q (F0 m (pc + 3) ls (v.toList ++ rest))) : W p l e R s m args below meth c H locs cells slots Q (F0 m pc ls st0) :=
  r_isH (own := RL) hx hb hml hown (hK.2.1.get 692 (by decide +kernel) rfl) (hK.2.1.get 693 (by decide +kernel) rfl) (hK.2.1.get 52 (by decide +kernel) rfl) (List.mem_of_getElem? (i := 694) (by decide +kernel)) (by decide +kernel) hK hZ hS hA hM hn hsz hW hR hf hst hdg kk
theorem cl_L_159 (hx : p.tables.exec = Jvm.exec) (hb : c.code = cc) (hml : c.maxLocals = nL) (hown : s.vm.findClass RL = some m.cls) (hK : rK G s) (hZ : rZ G A s s.heap) (hS : rS G.1 A s.heap C ad H locs) (hA : ∀ q : Nat, s.heap.size ≤ q → A q) (hM : rMetH G l yL_price cL_price 4 (some .int) [(0, 9, 12, 13)] rm As C ad Rp) (hn : As.length = 3) (hsz : ls.size = nL) (hW : (rest.map fun v => v.category).sum ≤ 8) (hR : rm.frames + 1 ≤ R.frames ∧ 8 + (4 + 11) + rm.locals ≤ R.locals) (hf : cells + rm.cells ≤ R.cells ∧ slots + rm.slots ≤ R.slots) {st0 : List Value} (hst : st0 = As.reverse ++ rest) (hdg : decode cc pc = .ok (.invokestatic 159, 3)) (kk : ∀ (v : Option Value) (C' : rC) (ad' : rA) (H1 : Heap) (locs1 : List Loc), Rp v C' ad' → rS G.1 A s.heap C' ad' H1 locs1 → W p l e R s m args below meth c H1 locs1 (cells + rm.cells) (slots + rm.slots) Q (F0 m (pc + 3) ls (v.toList ++ rest))) : W p l e R s m args below meth c H locs cells slots Q (F0 m pc ls st0) :=
  r_isH (own := RL) hx hb hml hown (hK.2.1.get 699 (by decide +kernel) rfl) (hK.2.1.get 700 (by decide +kernel) rfl) (hK.2.1.get 52 (by decide +kernel) rfl) (List.mem_of_getElem? (i := 701) (by decide +kernel)) (by decide +kernel) hK hZ hS hA hM hn hsz hW hR hf hst hdg kk
theorem cl_L_162 (hx : p.tables.exec = Jvm.exec) (hb : c.code = cc) (hml : c.maxLocals = nL) (hown : s.vm.findClass RL = some m.cls) (hK : rK G s) (hZ : rZ G A s s.heap) (hS : rS G.1 A s.heap C ad H locs) (hA : ∀ q : Nat, s.heap.size ≤ q → A q) (hM : rMetH G l yL_give cL_give 5 (some .int) [(0, 10, 13, 13), (0, 10, 17, 15)] rm As C ad Rp) (hn : As.length = 4) (hsz : ls.size = nL) (hW : (rest.map fun v => v.category).sum ≤ 8) (hR : rm.frames + 1 ≤ R.frames ∧ 8 + (5 + 11) + rm.locals ≤ R.locals) (hf : cells + rm.cells ≤ R.cells ∧ slots + rm.slots ≤ R.slots) {st0 : List Value} (hst : st0 = As.reverse ++ rest) (hdg : decode cc pc = .ok (.invokestatic 162, 3)) (kk : ∀ (v : Option Value) (C' : rC) (ad' : rA) (H1 : Heap) (locs1 : List Loc), Rp v C' ad' → rS G.1 A s.heap C' ad' H1 locs1 → W p l e R s m args below meth c H1 locs1 (cells + rm.cells) (slots + rm.slots) Q (F0 m (pc + 3) ls (v.toList ++ rest))) : W p l e R s m args below meth c H locs cells slots Q (F0 m pc ls st0) :=
  r_isH (own := RL) hx hb hml hown (hK.2.1.get 707 (by decide +kernel) rfl) (hK.2.1.get 708 (by decide +kernel) rfl) (hK.2.1.get 52 (by decide +kernel) rfl) (List.mem_of_getElem? (i := 709) (by decide +kernel)) (by decide +kernel) hK hZ hS hA hM hn hsz hW hR hf hst hdg kk
theorem cl_L_165 (hx : p.tables.exec = Jvm.exec) (hb : c.code = cc) (hml : c.maxLocals = nL) (hown : s.vm.findClass RL = some m.cls) (hK : rK G s) (hZ : rZ G A s s.heap) (hS : rS G.1 A s.heap C ad H locs) (hA : ∀ q : Nat, s.heap.size ≤ q → A q) (hM : rMetH G l yL_want cL_want 6 (some .int) [(0, 12, 15, 13), (0, 12, 19, 15)] rm As C ad Rp) (hn : As.length = 5) (hsz : ls.size = nL) (hW : (rest.map fun v => v.category).sum ≤ 8) (hR : rm.frames + 1 ≤ R.frames ∧ 8 + (6 + 11) + rm.locals ≤ R.locals) (hf : cells + rm.cells ≤ R.cells ∧ slots + rm.slots ≤ R.slots) {st0 : List Value} (hst : st0 = As.reverse ++ rest) (hdg : decode cc pc = .ok (.invokestatic 165, 3)) (kk : ∀ (v : Option Value) (C' : rC) (ad' : rA) (H1 : Heap) (locs1 : List Loc), Rp v C' ad' → rS G.1 A s.heap C' ad' H1 locs1 → W p l e R s m args below meth c H1 locs1 (cells + rm.cells) (slots + rm.slots) Q (F0 m (pc + 3) ls (v.toList ++ rest))) : W p l e R s m args below meth c H locs cells slots Q (F0 m pc ls st0) :=
  r_isH (own := RL) hx hb hml hown (hK.2.1.get 724 (by decide +kernel) rfl) (hK.2.1.get 725 (by decide +kernel) rfl) (hK.2.1.get 52 (by decide +kernel) rfl) (List.mem_of_getElem? (i := 726) (by decide +kernel)) (by decide +kernel) hK hZ hS hA hM hn hsz hW hR hf hst hdg kk
theorem cl_L_169 (hx : p.tables.exec = Jvm.exec) (hb : c.code = cc) (hml : c.maxLocals = nL) (hown : s.vm.findClass RL = some m.cls) (hK : rK G s) (hZ : rZ G A s s.heap) (hS : rS G.1 A s.heap C ad H locs) (hA : ∀ q : Nat, s.heap.size ≤ q → A q) (hM : rMetH G l yL_setFairness cL_setFairness 5 (some .int) [(0, 10, 13, 13), (0, 10, 17, 21)] rm As C ad Rp) (hn : As.length = 4) (hsz : ls.size = nL) (hW : (rest.map fun v => v.category).sum ≤ 8) (hR : rm.frames + 1 ≤ R.frames ∧ 8 + (5 + 11) + rm.locals ≤ R.locals) (hf : cells + rm.cells ≤ R.cells ∧ slots + rm.slots ≤ R.slots) {st0 : List Value} (hst : st0 = As.reverse ++ rest) (hdg : decode cc pc = .ok (.invokestatic 169, 3)) (kk : ∀ (v : Option Value) (C' : rC) (ad' : rA) (H1 : Heap) (locs1 : List Loc), Rp v C' ad' → rS G.1 A s.heap C' ad' H1 locs1 → W p l e R s m args below meth c H1 locs1 (cells + rm.cells) (slots + rm.slots) Q (F0 m (pc + 3) ls (v.toList ++ rest))) : W p l e R s m args below meth c H locs cells slots Q (F0 m pc ls st0) :=
  r_isH (own := RL) hx hb hml hown (hK.2.1.get 732 (by decide +kernel) rfl) (hK.2.1.get 733 (by decide +kernel) rfl) (hK.2.1.get 52 (by decide +kernel) rfl) (List.mem_of_getElem? (i := 734) (by decide +kernel)) (by decide +kernel) hK hZ hS hA hM hn hsz hW hR hf hst hdg kk
theorem cl_L_172 (hx : p.tables.exec = Jvm.exec) (hb : c.code = cc) (hml : c.maxLocals = nL) (hown : s.vm.findClass RL = some m.cls) (hK : rK G s) (hZ : rZ G A s s.heap) (hS : rS G.1 A s.heap C ad H locs) (hA : ∀ q : Nat, s.heap.size ≤ q → A q) (hM : rMetH G l yL_mark cL_mark 5 (some .int) [(0, 17, 20, 13), (0, 17, 24, 15)] rm As C ad Rp) (hn : As.length = 4) (hsz : ls.size = nL) (hW : (rest.map fun v => v.category).sum ≤ 8) (hR : rm.frames + 1 ≤ R.frames ∧ 8 + (5 + 11) + rm.locals ≤ R.locals) (hf : cells + rm.cells ≤ R.cells ∧ slots + rm.slots ≤ R.slots) {st0 : List Value} (hst : st0 = As.reverse ++ rest) (hdg : decode cc pc = .ok (.invokestatic 172, 3)) (kk : ∀ (v : Option Value) (C' : rC) (ad' : rA) (H1 : Heap) (locs1 : List Loc), Rp v C' ad' → rS G.1 A s.heap C' ad' H1 locs1 → W p l e R s m args below meth c H1 locs1 (cells + rm.cells) (slots + rm.slots) Q (F0 m (pc + 3) ls (v.toList ++ rest))) : W p l e R s m args below meth c H locs cells slots Q (F0 m pc ls st0) :=
  r_isH (own := RL) hx hb hml hown (hK.2.1.get 740 (by decide +kernel) rfl) (hK.2.1.get 741 (by decide +kernel) rfl) (hK.2.1.get 52 (by decide +kernel) rfl) (List.mem_of_getElem? (i := 742) (by decide +kernel)) (by decide +kernel) hK hZ hS hA hM hn hsz hW hR hf hst hdg kk
theorem cl_L_176 (hx : p.tables.exec = Jvm.exec) (hb : c.code = cc) (hml : c.maxLocals = nL) (hown : s.vm.findClass RL = some m.cls) (hK : rK G s) (hZ : rZ G A s s.heap) (hS : rS G.1 A s.heap C ad H locs) (hA : ∀ q : Nat, s.heap.size ≤ q → A q) (hM : rMetH G l yL_owner cL_owner 4 (some .int) [(0, 9, 12, 13)] rm As C ad Rp) (hn : As.length = 3) (hsz : ls.size = nL) (hW : (rest.map fun v => v.category).sum ≤ 8) (hR : rm.frames + 1 ≤ R.frames ∧ 8 + (4 + 11) + rm.locals ≤ R.locals) (hf : cells + rm.cells ≤ R.cells ∧ slots + rm.slots ≤ R.slots) {st0 : List Value} (hst : st0 = As.reverse ++ rest) (hdg : decode cc pc = .ok (.invokestatic 176, 3)) (kk : ∀ (v : Option Value) (C' : rC) (ad' : rA) (H1 : Heap) (locs1 : List Loc), Rp v C' ad' → rS G.1 A s.heap C' ad' H1 locs1 → W p l e R s m args below meth c H1 locs1 (cells + rm.cells) (slots + rm.slots) Q (F0 m (pc + 3) ls (v.toList ++ rest))) : W p l e R s m args below meth c H locs cells slots Q (F0 m pc ls st0) :=
  r_isH (own := RL) hx hb hml hown (hK.2.1.get 748 (by decide +kernel) rfl) (hK.2.1.get 749 (by decide +kernel) rfl) (hK.2.1.get 52 (by decide +kernel) rfl) (List.mem_of_getElem? (i := 750) (by decide +kernel)) (by decide +kernel) hK hZ hS hA hM hn hsz hW hR hf hst hdg kk
theorem cl_L_179 (hx : p.tables.exec = Jvm.exec) (hb : c.code = cc) (hml : c.maxLocals = nL) (hown : s.vm.findClass RL = some m.cls) (hK : rK G s) (hZ : rZ G A s s.heap) (hS : rS G.1 A s.heap C ad H locs) (hA : ∀ q : Nat, s.heap.size ≤ q → A q) (hM : rMetH G l yL_wants cL_wants 4 (some .int) [(0, 9, 12, 13)] rm As C ad Rp) (hn : As.length = 3) (hsz : ls.size = nL) (hW : (rest.map fun v => v.category).sum ≤ 8) (hR : rm.frames + 1 ≤ R.frames ∧ 8 + (4 + 11) + rm.locals ≤ R.locals) (hf : cells + rm.cells ≤ R.cells ∧ slots + rm.slots ≤ R.slots) {st0 : List Value} (hst : st0 = As.reverse ++ rest) (hdg : decode cc pc = .ok (.invokestatic 179, 3)) (kk : ∀ (v : Option Value) (C' : rC) (ad' : rA) (H1 : Heap) (locs1 : List Loc), Rp v C' ad' → rS G.1 A s.heap C' ad' H1 locs1 → W p l e R s m args below meth c H1 locs1 (cells + rm.cells) (slots + rm.slots) Q (F0 m (pc + 3) ls (v.toList ++ rest))) : W p l e R s m args below meth c H locs cells slots Q (F0 m pc ls st0) :=
  r_isH (own := RL) hx hb hml hown (hK.2.1.get 755 (by decide +kernel) rfl) (hK.2.1.get 756 (by decide +kernel) rfl) (hK.2.1.get 52 (by decide +kernel) rfl) (List.mem_of_getElem? (i := 757) (by decide +kernel)) (by decide +kernel) hK hZ hS hA hM hn hsz hW hR hf hst hdg kk
theorem cl_L_182 (hx : p.tables.exec = Jvm.exec) (hb : c.code = cc) (hml : c.maxLocals = nL) (hown : s.vm.findClass RL = some m.cls) (hK : rK G s) (hZ : rZ G A s s.heap) (hS : rS G.1 A s.heap C ad H locs) (hA : ∀ q : Nat, s.heap.size ≤ q → A q) (hM : rMetH G l yL_offers cL_offers 4 (some .int) [(0, 9, 12, 13)] rm As C ad Rp) (hn : As.length = 3) (hsz : ls.size = nL) (hW : (rest.map fun v => v.category).sum ≤ 8) (hR : rm.frames + 1 ≤ R.frames ∧ 8 + (4 + 11) + rm.locals ≤ R.locals) (hf : cells + rm.cells ≤ R.cells ∧ slots + rm.slots ≤ R.slots) {st0 : List Value} (hst : st0 = As.reverse ++ rest) (hdg : decode cc pc = .ok (.invokestatic 182, 3)) (kk : ∀ (v : Option Value) (C' : rC) (ad' : rA) (H1 : Heap) (locs1 : List Loc), Rp v C' ad' → rS G.1 A s.heap C' ad' H1 locs1 → W p l e R s m args below meth c H1 locs1 (cells + rm.cells) (slots + rm.slots) Q (F0 m (pc + 3) ls (v.toList ++ rest))) : W p l e R s m args below meth c H locs cells slots Q (F0 m pc ls st0) :=
  r_isH (own := RL) hx hb hml hown (hK.2.1.get 762 (by decide +kernel) rfl) (hK.2.1.get 763 (by decide +kernel) rfl) (hK.2.1.get 52 (by decide +kernel) rfl) (List.mem_of_getElem? (i := 764) (by decide +kernel)) (by decide +kernel) hK hZ hS hA hM hn hsz hW hR hf hst hdg kk
theorem cl_L_185 (hx : p.tables.exec = Jvm.exec) (hb : c.code = cc) (hml : c.maxLocals = nL) (hown : s.vm.findClass RL = some m.cls) (hK : rK G s) (hZ : rZ G A s s.heap) (hS : rS G.1 A s.heap C ad H locs) (hA : ∀ q : Nat, s.heap.size ≤ q → A q) (hM : rMetH G l yL_worth cL_worth 4 (some .int) [(0, 9, 12, 13)] rm As C ad Rp) (hn : As.length = 3) (hsz : ls.size = nL) (hW : (rest.map fun v => v.category).sum ≤ 8) (hR : rm.frames + 1 ≤ R.frames ∧ 8 + (4 + 11) + rm.locals ≤ R.locals) (hf : cells + rm.cells ≤ R.cells ∧ slots + rm.slots ≤ R.slots) {st0 : List Value} (hst : st0 = As.reverse ++ rest) (hdg : decode cc pc = .ok (.invokestatic 185, 3)) (kk : ∀ (v : Option Value) (C' : rC) (ad' : rA) (H1 : Heap) (locs1 : List Loc), Rp v C' ad' → rS G.1 A s.heap C' ad' H1 locs1 → W p l e R s m args below meth c H1 locs1 (cells + rm.cells) (slots + rm.slots) Q (F0 m (pc + 3) ls (v.toList ++ rest))) : W p l e R s m args below meth c H locs cells slots Q (F0 m pc ls st0) :=
  r_isH (own := RL) hx hb hml hown (hK.2.1.get 769 (by decide +kernel) rfl) (hK.2.1.get 770 (by decide +kernel) rfl) (hK.2.1.get 52 (by decide +kernel) rfl) (List.mem_of_getElem? (i := 771) (by decide +kernel)) (by decide +kernel) hK hZ hS hA hM hn hsz hW hR hf hst hdg kk
theorem cl_L_188 (hx : p.tables.exec = Jvm.exec) (hb : c.code = cc) (hml : c.maxLocals = nL) (hown : s.vm.findClass RL = some m.cls) (hK : rK G s) (hZ : rZ G A s s.heap) (hS : rS G.1 A s.heap C ad H locs) (hA : ∀ q : Nat, s.heap.size ≤ q → A q) (hM : rMetH G l yL_coinAt cL_coinAt 5 (some .int) [(0, 10, 13, 13)] rm As C ad Rp) (hn : As.length = 4) (hsz : ls.size = nL) (hW : (rest.map fun v => v.category).sum ≤ 8) (hR : rm.frames + 1 ≤ R.frames ∧ 8 + (5 + 11) + rm.locals ≤ R.locals) (hf : cells + rm.cells ≤ R.cells ∧ slots + rm.slots ≤ R.slots) {st0 : List Value} (hst : st0 = As.reverse ++ rest) (hdg : decode cc pc = .ok (.invokestatic 188, 3)) (kk : ∀ (v : Option Value) (C' : rC) (ad' : rA) (H1 : Heap) (locs1 : List Loc), Rp v C' ad' → rS G.1 A s.heap C' ad' H1 locs1 → W p l e R s m args below meth c H1 locs1 (cells + rm.cells) (slots + rm.slots) Q (F0 m (pc + 3) ls (v.toList ++ rest))) : W p l e R s m args below meth c H locs cells slots Q (F0 m pc ls st0) :=
  r_isH (own := RL) hx hb hml hown (hK.2.1.get 776 (by decide +kernel) rfl) (hK.2.1.get 777 (by decide +kernel) rfl) (hK.2.1.get 52 (by decide +kernel) rfl) (List.mem_of_getElem? (i := 778) (by decide +kernel)) (by decide +kernel) hK hZ hS hA hM hn hsz hW hR hf hst hdg kk
theorem cl_L_195 (hx : p.tables.exec = Jvm.exec) (hb : c.code = cc) (hml : c.maxLocals = nL) (hown : s.vm.findClass RL = some m.cls) (hK : rK G s) (hZ : rZ G A s s.heap) (hS : rS G.1 A s.heap C ad H locs) (hA : ∀ q : Nat, s.heap.size ≤ q → A q) (hM : rMetH G l yL_ringAt cL_ringAt 4 (some .int) [(0, 9, 12, 13)] rm As C ad Rp) (hn : As.length = 3) (hsz : ls.size = nL) (hW : (rest.map fun v => v.category).sum ≤ 8) (hR : rm.frames + 1 ≤ R.frames ∧ 8 + (4 + 11) + rm.locals ≤ R.locals) (hf : cells + rm.cells ≤ R.cells ∧ slots + rm.slots ≤ R.slots) {st0 : List Value} (hst : st0 = As.reverse ++ rest) (hdg : decode cc pc = .ok (.invokestatic 195, 3)) (kk : ∀ (v : Option Value) (C' : rC) (ad' : rA) (H1 : Heap) (locs1 : List Loc), Rp v C' ad' → rS G.1 A s.heap C' ad' H1 locs1 → W p l e R s m args below meth c H1 locs1 (cells + rm.cells) (slots + rm.slots) Q (F0 m (pc + 3) ls (v.toList ++ rest))) : W p l e R s m args below meth c H locs cells slots Q (F0 m pc ls st0) :=
  r_isH (own := RL) hx hb hml hown (hK.2.1.get 788 (by decide +kernel) rfl) (hK.2.1.get 789 (by decide +kernel) rfl) (hK.2.1.get 52 (by decide +kernel) rfl) (List.mem_of_getElem? (i := 790) (by decide +kernel)) (by decide +kernel) hK hZ hS hA hM hn hsz hW hR hf hst hdg kk
theorem cl_L_198 (hx : p.tables.exec = Jvm.exec) (hb : c.code = cc) (hml : c.maxLocals = nL) (hown : s.vm.findClass RL = some m.cls) (hK : rK G s) (hZ : rZ G A s s.heap) (hS : rS G.1 A s.heap C ad H locs) (hA : ∀ q : Nat, s.heap.size ≤ q → A q) (hM : rMetH G l yL_swap cL_swap 3 (some .int) [(0, 8, 11, 15)] rm As C ad Rp) (hn : As.length = 2) (hsz : ls.size = nL) (hW : (rest.map fun v => v.category).sum ≤ 8) (hR : rm.frames + 1 ≤ R.frames ∧ 8 + (3 + 11) + rm.locals ≤ R.locals) (hf : cells + rm.cells ≤ R.cells ∧ slots + rm.slots ≤ R.slots) {st0 : List Value} (hst : st0 = As.reverse ++ rest) (hdg : decode cc pc = .ok (.invokestatic 198, 3)) (kk : ∀ (v : Option Value) (C' : rC) (ad' : rA) (H1 : Heap) (locs1 : List Loc), Rp v C' ad' → rS G.1 A s.heap C' ad' H1 locs1 → W p l e R s m args below meth c H1 locs1 (cells + rm.cells) (slots + rm.slots) Q (F0 m (pc + 3) ls (v.toList ++ rest))) : W p l e R s m args below meth c H locs cells slots Q (F0 m pc ls st0) :=
  r_isH (own := RL) hx hb hml hown (hK.2.1.get 802 (by decide +kernel) rfl) (hK.2.1.get 803 (by decide +kernel) rfl) (hK.2.1.get 52 (by decide +kernel) rfl) (List.mem_of_getElem? (i := 804) (by decide +kernel)) (by decide +kernel) hK hZ hS hA hM hn hsz hW hR hf hst hdg kk
theorem cl_L_206 (hx : p.tables.exec = Jvm.exec) (hb : c.code = cc) (hml : c.maxLocals = nL) (hown : s.vm.findClass RL = some m.cls) (hK : rK G s) (hZ : rZ G A s s.heap) (hS : rS G.1 A s.heap C ad H locs) (hA : ∀ q : Nat, s.heap.size ≤ q → A q) (hM : rMetH G l yL_swapAt cL_swapAt 5 (some .int) [(0, 10, 13, 13)] rm As C ad Rp) (hn : As.length = 4) (hsz : ls.size = nL) (hW : (rest.map fun v => v.category).sum ≤ 8) (hR : rm.frames + 1 ≤ R.frames ∧ 8 + (5 + 11) + rm.locals ≤ R.locals) (hf : cells + rm.cells ≤ R.cells ∧ slots + rm.slots ≤ R.slots) {st0 : List Value} (hst : st0 = As.reverse ++ rest) (hdg : decode cc pc = .ok (.invokestatic 206, 3)) (kk : ∀ (v : Option Value) (C' : rC) (ad' : rA) (H1 : Heap) (locs1 : List Loc), Rp v C' ad' → rS G.1 A s.heap C' ad' H1 locs1 → W p l e R s m args below meth c H1 locs1 (cells + rm.cells) (slots + rm.slots) Q (F0 m (pc + 3) ls (v.toList ++ rest))) : W p l e R s m args below meth c H locs cells slots Q (F0 m pc ls st0) :=
  r_isH (own := RL) hx hb hml hown (hK.2.1.get 816 (by decide +kernel) rfl) (hK.2.1.get 817 (by decide +kernel) rfl) (hK.2.1.get 52 (by decide +kernel) rfl) (List.mem_of_getElem? (i := 818) (by decide +kernel)) (by decide +kernel) hK hZ hS hA hM hn hsz hW hR hf hst hdg kk
end
