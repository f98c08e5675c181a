/-! WHAT STANDS IN EVERY STATE (tables, statics), contracts over worlds by roles, and the rows of calls and ends -/
abbrev rG : Type := va_G × (Nat → ClassId) × Nat
abbrev rTy (G : rG) : List (ClassId × FieldType) := [(G.2.1 0, .int), (G.2.1 1, .long), (G.2.1 2, .object "java/lang/Object"), (G.2.1 3, .object "DieRegister$Collector")]
def rok (w : Cond) : Bool := match w with
  | .fieldLinkNest _ _ _ _ _ _ => true
  | .methodLinkNest _ _ _ _ => true
  | .castable _ _ => true
  | .declares _ => true
  | w => w.onTables && w.keeps
theorem rok_tab {w : Cond} (h : rok w = true) : w.onTables = true := by
  unfold rok at h
  split at h <;> first | rfl | (simp only [Bool.and_eq_true] at h; exact h.1)
theorem rok_warm {w : Cond} (hk : rok w = true) {a a' : Array Value} {s U : State} (hW : s.WarmedH U.vm) (h : w.before a s = true) : w.before a' U = true := by
  unfold rok at hk
  split at hk
  · exact va_Nw.use rfl (va_Nw.warmF hW (va_Nw.of rfl h))
  · exact va_Nw.use rfl (va_Nw.warmM hW (va_Nw.of rfl h))
  · exact va_Nw.use rfl (va_Nw.warmC hW (va_Nw.of rfl h))
  · exact va_Nw.use rfl (va_Nw.warmD hW (va_Nw.of rfl h))
  · exact word_at hW (Or.inl hk) h
def rT (U : State) : Prop := ∀ w ∈ lw_tbl, rok w = true → w.before #[] U = true
theorem rT.warm {s U : State} (hW : s.WarmedH U.vm) (h : rT s) : rT U := fun w hw hk => rok_warm hk hW (h w hw hk)
theorem rT.get {U : State} (h : rT U) {w : Cond} (i : Nat) (hi : lw_tbl[i]? = some w) (hk : rok w = true) {a : Array Value} : w.before a U = true := va_Nw.use (rok_tab hk) (h w (List.mem_of_getElem? hi) hk)
def rStr : List (String × Nat × String) := [("DieRegister", 40, "no such type"), ("DieRegister", 222, "there are 16 dies"), ("DieRegister", 216, "no such die"), ("DieRegister", 55, "no such defect"), ("DieRegister", 70, "the die is condemned, or has this defect"), ("DieRegister", 79, "count is out of range"), ("DieRegister", 86, "the die is condemned, or the coins would be too many"), ("DieRegister", 218, "no such coin"), ("DieRegister", 107, "the coin was melted"), ("DieRegister", 149, "the die is condemned, or there is no proof"), ("DieRegister", 220, "no such collector"), ("DieRegister", 164, "the coin is not in the mint, or they own 10 coins"), ("DieRegister", 169, "the die is condemned"), ("DieRegister", 171, "percent is out of range"), ("DieRegister", 176, "no collector owns the coin"), ("DieRegister", 195, "no such place"), ("DieRegister$Ring", 77, "no such place"), ("DieRegister", 206, "no ring is ready, or there were 60 swaps"), ("DieRegister", 211, "no such swap")]
def rNc : List (String × String) := [("java/lang/IllegalStateException", "java/lang/IndexOutOfBoundsException"), ("java/lang/IllegalStateException", "java/lang/IllegalArgumentException"), ("java/lang/IllegalArgumentException", "java/lang/IndexOutOfBoundsException")]
def rK (G : rG) (U : State) : Prop := va_K G.1 vwCl (rTy G) U ∧ rT U ∧ va_AO "DieRegister$Collector" U ∧ va_AO "java/lang/Object" U ∧ (Cond.arrayClass .int).before #[] U = true ∧ (Cond.arrayClass .long).before #[] U = true ∧ (∀ q ∈ rStr, ∃ a, vk_R q.1 q.2.1 q.2.2 a U) ∧ (∀ q ∈ rNc, va_Nc q.1 q.2 U) ∧ va_Mi "[Ljava/lang/Object;" (G.2.1 4) U
theorem rK.mi {G : rG} {U : State} (h : rK G U) : va_Mi "[Ljava/lang/Object;" (G.2.1 4) U := h.2.2.2.2.2.2.2.2
theorem rK.warm {G : rG} {s U : State} (hW : s.WarmedH U.vm) (h : rK G s) : rK G U := by
  obtain ⟨h1, h2, h3, h4, h5, h6, h7, h8, h9⟩ := h
  refine ⟨va_K.moved hW.alike h1, h2.warm hW, h3.moved hW.alike, h4.moved hW.alike, word_at hW (Or.inr ⟨_, rfl⟩) h5, word_at hW (Or.inr ⟨_, rfl⟩) h6, fun q hq => ?_, fun q hq => (h8 q hq).moved hW.alike, h9.moved hW.alike⟩
  obtain ⟨a, ha⟩ := h7 q hq
  exact ⟨a, ha.warm hW⟩
theorem rK.same {G : rG} {s U : State} (hv : U.vm = s.vm) (h : rK G s) : rK G U := h.warm (by rw [hv]; exact State.WarmedH.refl s)
def rZ (G : rG) (A : Nat → Prop) (U : State) (H : Heap) : Prop := va_Z "java/util/ArrayList" "DEFAULTCAPACITY_EMPTY_ELEMENTDATA" "[Ljava/lang/Object;" (.ref G.2.2) A U H ∧ va_T (.object "java/lang/Object") G.2.2 0 (fun _ => .null) A U H ∧ vx_Zq Bundle.tN "UNASSIGNED_STACK" Bundle.steD A U H ∧ vx_Zq Bundle.tN "SUPPRESSED_SENTINEL" Bundle.listD A U H
theorem rZ.moved {G : rG} {A : Nat → Prop} {u U : State} {H : Heap} (hvm : u.vm.Alike U.vm) (h : rZ G A u H) : rZ G A U H := ⟨h.1.moved hvm, h.2.1.moved hvm, h.2.2.1.moved hvm, h.2.2.2.moved hvm⟩
theorem rZ.kept {G : rG} {A : Nat → Prop} {U : State} {H H1 : Heap} (h : rZ G A U H) (hq : ∀ a : Nat, a < H.size → ¬ A a → H1[a]? = H[a]?) : rZ G A U H1 := ⟨h.1.kept hq, h.2.1.kept hq, h.2.2.1.kept hq, h.2.2.2.kept hq⟩
theorem rZ.narrow {G : rG} {A B : Nat → Prop} {U : State} {H : Heap} (h : rZ G A U H) (hAB : ∀ q, B q → A q) : rZ G B U H := ⟨h.1.narrow hAB, h.2.1.narrow hAB, h.2.2.1.narrow hAB, h.2.2.2.narrow hAB⟩
def rPc (G : rG) (av : List Value) (C : rC) (ad : rA) (sz : Nat) : Array Value → State → Prop := fun v U => v = av.toArray ∧ U.heap.size = sz ∧ rP G.1 C ad U.heap ∧ rK G U ∧ rZ G (rF C ad sz) U U.heap
def rQc (G : rG) (C : rC) (ad : rA) (sz : Nat) (Rp : Option Value → rC → rA → Prop) : Array Value → State → Outcome → State → Prop := fun _ st o t => (∃ (v : Option Value) (C' : rC) (ad' : rA), o = .returned v ∧ Rp v C' ad' ∧ rP G.1 C' ad' t.heap ∧ (∀ k i e, C' k i = some e → rF C ad sz (ad' k i))) ∧ va_F (rF C ad sz) st t
def rXc (G : rG) (C : rC) (ad : rA) (sz : Nat) (Xp : String → rC → rA → Prop) : String → State → State → Prop := fun E st t => (∃ (C' : rC) (ad' : rA), Xp E C' ad' ∧ rP G.1 C' ad' t.heap ∧ (∀ k i e, C' k i = some e → rF C ad sz (ad' k i))) ∧ va_F (rF C ad sz) st t
/-- a method that returns -/
def rMet (G : rG) (l : Launch) (y : MethodName) (bytes : ByteArray) (maxL : Nat) (ret : Option FieldType) (rm : Room) (av : List Value) (C : rC) (ad : rA) (Rp : Option Value → rC → rA → Prop) : Prop :=
  ∀ sz : Nat, Met l y [Cond.code y bytes maxL ret] rm (rPc G av C ad sz) (rQc G C ad sz Rp) rm.cells rm.slots (rF C ad sz)
/-- a method that returns or throws -/
def rMetX (G : rG) (l : Launch) (y : MethodName) (bytes : ByteArray) (maxL : Nat) (ret : Option FieldType) (rm : Room) (av : List Value) (C : rC) (ad : rA) (Rp : Option Value → rC → rA → Prop) (Xp : String → rC → rA → Prop) : Prop :=
  ∀ sz : Nat, vx_Met l y [Cond.code y bytes maxL ret] rm (rPc G av C ad sz) (rQc G C ad sz Rp) (rXc G C ad sz Xp) rm.cells rm.slots (rF C ad sz)
theorem rPc_blind {G : rG} {av : List Value} {C : rC} {ad : rA} {sz : Nat} : FrameBlind (rPc G av C ad sz) := fun a U g mk h =>
  ⟨h.1, h.2.1, h.2.2.1, rK.same (s := U) (U := U.calling g mk a) rfl h.2.2.2.1, rZ.moved (u := U) (U := U.calling g mk a) (Vm.Alike.refl U.vm) h.2.2.2.2⟩
section RCall
variable {p : Program} {l : Launch} {e : Env} {R : Room} {s : State} {m : MethodId} {args : Array Value} {below : List Frame} {meth : Method} {c : Code} {H : Heap} {locs : List Loc} {cells slots : Nat} {Q : State → Prop}
variable {cc : ByteArray} {pc : Nat} {ls : Array Slot} {rest : List Value} {G : rG} {A : Nat → Prop} {C : rC} {ad : rA}
theorem r_pc (hK : rK G s) (hZ : rZ G A s s.heap) (hS : rS G.1 A s.heap C ad H locs) (hA : ∀ q : Nat, s.heap.size ≤ q → A q) {As : List Value} : ∀ U : State, U.heap = H → s.WarmedH U.vm → rPc G As C ad H.size As.toArray U := by
  intro U hU hW
  subst hU
  exact ⟨rfl, rfl, hS.1, hK.warm hW, ((hZ.kept hS.2.2.2.1).narrow (hS.free hA)).moved hW.alike⟩
/-- behind a call -/
theorem r_keep {st₀ t T' : State} {L : List Loc} {C' : rC} {ad' : rA} (h0 : st₀.heap = H) (e1 : T'.heap = t.heap) (hS : rS G.1 A s.heap C ad H locs) (hA : ∀ q : Nat, s.heap.size ≤ q → A q) (hL : ∀ q ∈ L, rF C ad H.size q.base) (hP : rP G.1 C' ad' t.heap) (hD : ∀ k i e, C' k i = some e → rF C ad H.size (ad' k i)) (hF : va_F (rF C ad H.size) st₀ t) : rS G.1 A s.heap C' ad' T'.heap (locs ++ L) := by
  obtain ⟨hz, hk⟩ := hF
  rw [h0] at hz hk
  have hfree := hS.free hA
  refine ⟨by rw [e1]; exact hP, fun k i x hx => hfree _ (hD k i x hx), Nat.le_trans hS.2.2.1 (by rw [e1]; exact hz), fun q h1 h2 => ?_, fun q hq => ?_⟩
  · rw [e1, hk q (Nat.lt_of_lt_of_le h1 hS.2.2.1) (fun z => h2 (hfree q z))]
    exact hS.2.2.2.1 q h1 h2
  · rcases List.mem_append.mp hq with h | h
    · exact hS.2.2.2.2 q h
    · exact hfree _ (hL q h)
theorem r_call {mc ms : Nat} {st0 : List Value} {a : Array Value} {Rp : Option Value → rC → rA → Prop} (hr : va_Run p l e R s m args below meth c H locs cells slots mc ms (F0 m pc ls st0) rest (rQc G C ad H.size Rp a) (rF C ad H.size)) (hS : rS G.1 A s.heap C ad H locs) (hA : ∀ q : Nat, s.heap.size ≤ q → A q)
    (kk : ∀ (v : Option Value) (C' : rC) (ad' : rA) (H1 : Heap) (locs1 : List Loc), Rp v C' ad' → rS G.1 A s.heap C' ad' H1 locs1 → W p l e R s m args below meth c H1 locs1 (cells + mc) (slots + ms) Q (F0 m (pc + 3) ls (v.toList ++ rest))) : W p l e R s m args below meth c H locs cells slots Q (F0 m pc ls st0) := by
  intro T hT X
  obtain ⟨v, st₀, t, T', L, h0, X', hL, e1, e2, ⟨⟨v', C', ad', hv, hp, hP, hD⟩, hF⟩, st⟩ := hr T hT X
  cases hv
  obtain ⟨t2, a1, b1⟩ := kk v C' ad' T'.heap (locs ++ L) hp (r_keep h0 e1 hS hA hL hP hD hF) T' rfl X'
  exact ⟨t2, st t2 a1, b1⟩
theorem r_callX {mc ms : Nat} {st0 : List Value} {a : Array Value} {Rp : Option Value → rC → rA → Prop} {Xp : String → rC → rA → Prop} (hr : vx_Run p l e R s m args below meth c H locs cells slots mc ms (F0 m pc ls st0) rest (rQc G C ad H.size Rp a) (rXc G C ad H.size Xp) (rF C ad H.size)) (hS : rS G.1 A s.heap C ad H locs) (hA : ∀ q : Nat, s.heap.size ≤ q → A q)
    (kx : ∀ (E : String) (ce : Cell) (q9 : Addr) (C' : rC) (ad' : rA) (H1 : Heap) (locs1 : List Loc), Xp E C' ad' → rS G.1 A s.heap C' ad' H1 locs1 → H1[q9]? = some ce → ce.vm = .none → s.vm.findClass E = some ce.cls → vx_W p l e R s m args below meth c H1 locs1 (cells + mc) (slots + ms) Q (F0 m pc ls rest) q9)
    (kk : ∀ (v : Option Value) (C' : rC) (ad' : rA) (H1 : Heap) (locs1 : List Loc), Rp v C' ad' → rS G.1 A s.heap C' ad' H1 locs1 → W p l e R s m args below meth c H1 locs1 (cells + mc) (slots + ms) Q (F0 m (pc + 3) ls (v.toList ++ rest))) : W p l e R s m args below meth c H locs cells slots Q (F0 m pc ls st0) := by
  intro T hT X
  rcases hr T hT X with ⟨v, st₀, t, T', L, h0, X', hL, e1, e2, ⟨⟨v', C', ad', hv, hp, hP, hD⟩, hF⟩, st⟩ | ⟨q, st₀, t, T', L, E, ce, h0, X', hL, e1, e2, ⟨⟨C', ad', hp, hP, hD⟩, hF⟩, hce, hcv, hcl, st⟩
  · cases hv
    obtain ⟨t2, a1, b1⟩ := kk v C' ad' T'.heap (locs ++ L) hp (r_keep h0 e1 hS hA hL hP hD hF) T' rfl X'
    exact ⟨t2, st t2 a1, b1⟩
  · obtain ⟨t2, a1, b1⟩ := kx E ce q C' ad' T'.heap (locs ++ L) hp (r_keep h0 e1 hS hA hL hP hD hF) (by rw [e1]; exact hce) hcv hcl T' rfl X'
    exact ⟨t2, st.trans a1, b1⟩
theorem r_cb {own : String} {index n maxL : Nat} {y : MethodName} {bytes : ByteArray} {ret : Option FieldType} {rm : Room} (hT : rT s) (w1 : (Cond.methodLink own index y).before args s = true) (w4 : (Cond.initialized y.cls).before args s = true) (w5 : Cond.code y bytes maxL ret ∈ lw_tbl) (hd : y.cls ≠ "java/lang/invoke/MethodHandle" ∧ y.cls ≠ "java/lang/invoke/VarHandle" ∧ (parseMethodDescriptor y.desc).map (fun d => d.parameters.length) = some n) (hR : rm.frames + 1 ≤ R.frames ∧ 8 + (maxL + 11) + rm.locals ≤ R.locals) : CallB R s args own index y bytes maxL ret [Cond.code y bytes maxL ret] rm rm.cells rm.slots n := by
  have hk : rok (Cond.code y bytes maxL ret) = true := rfl
  have h5 := hT _ w5 hk
  refine ⟨rfl, rfl, hR.1, hR.2, fun w hw a' U hW => ?_, List.mem_singleton.mpr rfl, va_Nw.use (rok_tab hk) h5, w4, ⟨hd.1, hd.2.1⟩, fun sig h => ?_, w1⟩
  · rw [List.mem_singleton.mp hw]
    exact rok_warm hk hW h5
  · have h2 := hd.2.2
    rw [h] at h2
    exact (Option.some.inj h2).symm
theorem r_cn {own host : String} {index n maxL : Nat} {y : MethodName} {bytes : ByteArray} {ret : Option FieldType} {rm : Room} (hT : rT s) (w1 : (Cond.methodLinkNest own index y host).before args s = true) (w4 : (Cond.initialized y.cls).before args s = true) (w5 : Cond.code y bytes maxL ret ∈ lw_tbl) (hd : y.cls ≠ "java/lang/invoke/MethodHandle" ∧ y.cls ≠ "java/lang/invoke/VarHandle" ∧ (parseMethodDescriptor y.desc).map (fun d => d.parameters.length) = some n) (hR : rm.frames + 1 ≤ R.frames ∧ 8 + (maxL + 11) + rm.locals ≤ R.locals) : va_CN R s args own index y host bytes maxL ret [Cond.code y bytes maxL ret] rm rm.cells rm.slots n := by
  have hk : rok (Cond.code y bytes maxL ret) = true := rfl
  have h5 := hT _ w5 hk
  refine ⟨⟨rfl, rfl, hR.1, hR.2, fun w hw a' U hW => ?_, List.mem_singleton.mpr rfl⟩, va_Nw.use (rok_tab hk) h5, w4, ⟨hd.1, hd.2.1⟩, fun sig h => ?_, w1⟩
  · rw [List.mem_singleton.mp hw]
    exact rok_warm hk hW h5
  · have h2 := hd.2.2
    rw [h] at h2
    exact (Option.some.inj h2).symm
variable {own host : String} {index n maxL nL ci N k0 i0 : Nat} {T : u_T} {y : MethodName} {bytes : ByteArray} {ret : Option FieldType} {rm : Room} {As : List Value} {fs : List Value} {Rp : Option Value → rC → rA → Prop} {Xp : String → rC → rA → Prop}
theorem r_recv (hK : rK G s) (hS : rS G.1 A s.heap C ad H locs) (he : C k0 i0 = some (.inr (ci, fs))) (hc : vwCl[ci]? = some (y.cls, T, N)) : ∃ cellB : Cell, H[ad k0 i0]? = some cellB ∧ cellB.vm.isStatics = false ∧ s.vm.findClass y.cls = some cellB.cls := va_recv hK.1 (hS.one he) (q0 := 0) hc rfl
/-- invokevirtual -/
theorem r_iv (hx : p.tables.exec = Jvm.exec) (hb : c.code = cc) (hml : c.maxLocals = nL) (hown : s.vm.findClass own = some m.cls) (w1 : (Cond.methodLink own index y).before args s = true) (w2 : (Cond.instanceMethod y).before args s = true) (w3 : (Cond.selects y.cls y y).before args s = true) (w4 : (Cond.initialized y.cls).before args s = true) (w5 : Cond.code y bytes maxL ret ∈ lw_tbl) (hd : y.cls ≠ "java/lang/invoke/MethodHandle" ∧ y.cls ≠ "java/lang/invoke/VarHandle" ∧ (parseMethodDescriptor y.desc).map (fun d => d.parameters.length) = some n)
    (hK : rK G s) (hZ : rZ G A s s.heap) (hS : rS G.1 A s.heap C ad H locs) (hA : ∀ q : Nat, s.heap.size ≤ q → A q) (hM : rMet G l y bytes maxL ret rm (.ref (ad k0 i0) :: As) C ad Rp) (he : C k0 i0 = some (.inr (ci, fs))) (hc : vwCl[ci]? = some (y.cls, T, N)) (hn : As.length = n) (hsz : ls.size = nL) (hW : (rest.map fun v => v.category).sum ≤ 8) (hR : rm.frames + 1 ≤ R.frames ∧ 8 + (maxL + 11) + rm.locals ≤ R.locals) (hf : cells + rm.cells ≤ R.cells ∧ slots + rm.slots ≤ R.slots) {st0 : List Value} (hst : st0 = As.reverse ++ .ref (ad k0 i0) :: rest) (hdg : decode cc pc = .ok (.invokevirtual index, 3))
    (kk : ∀ (v : Option Value) (C' : rC) (ad' : rA) (H1 : Heap) (locs1 : List Loc), Rp v C' ad' → rS G.1 A s.heap C' ad' H1 locs1 → W p l e R s m args below meth c H1 locs1 (cells + rm.cells) (slots + rm.slots) Q (F0 m (pc + 3) ls (v.toList ++ rest))) : W p l e R s m args below meth c H locs cells slots Q (F0 m pc ls st0) :=
  r_call (va_runV (Ts := []) (C := y.cls) ⟨hx, hb, hml, hown, fun w h => absurd h List.not_mem_nil⟩ (hM H.size) ⟨r_cb hK.2.1 w1 w4 w5 hd hR, w2, w3⟩ ⟨rPc_blind, r_recv hK hS he hc, r_pc hK hZ hS hA⟩ rfl hn hsz hst (lv_room hW) hdg hf) hS hA kk
theorem r_ivX (hx : p.tables.exec = Jvm.exec) (hb : c.code = cc) (hml : c.maxLocals = nL) (hown : s.vm.findClass own = some m.cls) (w1 : (Cond.methodLink own index y).before args s = true) (w2 : (Cond.instanceMethod y).before args s = true) (w3 : (Cond.selects y.cls y y).before args s = true) (w4 : (Cond.initialized y.cls).before args s = true) (w5 : Cond.code y bytes maxL ret ∈ lw_tbl) (hd : y.cls ≠ "java/lang/invoke/MethodHandle" ∧ y.cls ≠ "java/lang/invoke/VarHandle" ∧ (parseMethodDescriptor y.desc).map (fun d => d.parameters.length) = some n)
    (hK : rK G s) (hZ : rZ G A s s.heap) (hS : rS G.1 A s.heap C ad H locs) (hA : ∀ q : Nat, s.heap.size ≤ q → A q) (hM : rMetX G l y bytes maxL ret rm (.ref (ad k0 i0) :: As) C ad Rp Xp) (he : C k0 i0 = some (.inr (ci, fs))) (hc : vwCl[ci]? = some (y.cls, T, N)) (hn : As.length = n) (hsz : ls.size = nL) (hW : (rest.map fun v => v.category).sum ≤ 8) (hR : rm.frames + 1 ≤ R.frames ∧ 8 + (maxL + 11) + rm.locals ≤ R.locals) (hf : cells + rm.cells ≤ R.cells ∧ slots + rm.slots ≤ R.slots) {st0 : List Value} (hst : st0 = As.reverse ++ .ref (ad k0 i0) :: rest) (hdg : decode cc pc = .ok (.invokevirtual index, 3))
    (kx : ∀ (E : String) (ce : Cell) (q9 : Addr) (C' : rC) (ad' : rA) (H1 : Heap) (locs1 : List Loc), Xp E C' ad' → rS G.1 A s.heap C' ad' H1 locs1 → H1[q9]? = some ce → ce.vm = .none → s.vm.findClass E = some ce.cls → vx_W p l e R s m args below meth c H1 locs1 (cells + rm.cells) (slots + rm.slots) Q (F0 m pc ls rest) q9)
    (kk : ∀ (v : Option Value) (C' : rC) (ad' : rA) (H1 : Heap) (locs1 : List Loc), Rp v C' ad' → rS G.1 A s.heap C' ad' H1 locs1 → W p l e R s m args below meth c H1 locs1 (cells + rm.cells) (slots + rm.slots) Q (F0 m (pc + 3) ls (v.toList ++ rest))) : W p l e R s m args below meth c H locs cells slots Q (F0 m pc ls st0) :=
  r_callX (vx_runV (Ts := []) (C := y.cls) ⟨hx, hb, hml, hown, fun w h => absurd h List.not_mem_nil⟩ (hM H.size) ⟨r_cb hK.2.1 w1 w4 w5 hd hR, w2, w3⟩ ⟨rPc_blind, r_recv hK hS he hc, r_pc hK hZ hS hA⟩ rfl hn hsz hst (lv_room hW) hdg hf) hS hA kx kk
/-- invokevirtual of a nest mate's private method -/
theorem r_ivN (hx : p.tables.exec = Jvm.exec) (hb : c.code = cc) (hml : c.maxLocals = nL) (hown : s.vm.findClass own = some m.cls) (w1 : (Cond.methodLinkNest own index y host).before args s = true) (w2 : (Cond.instanceMethod y).before args s = true) (w3 : (Cond.selects y.cls y y).before args s = true) (w4 : (Cond.initialized y.cls).before args s = true) (w5 : Cond.code y bytes maxL ret ∈ lw_tbl) (hd : y.cls ≠ "java/lang/invoke/MethodHandle" ∧ y.cls ≠ "java/lang/invoke/VarHandle" ∧ (parseMethodDescriptor y.desc).map (fun d => d.parameters.length) = some n)
    (hK : rK G s) (hZ : rZ G A s s.heap) (hS : rS G.1 A s.heap C ad H locs) (hA : ∀ q : Nat, s.heap.size ≤ q → A q) (hM : rMet G l y bytes maxL ret rm (.ref (ad k0 i0) :: As) C ad Rp) (he : C k0 i0 = some (.inr (ci, fs))) (hc : vwCl[ci]? = some (y.cls, T, N)) (hn : As.length = n) (hsz : ls.size = nL) (hW : (rest.map fun v => v.category).sum ≤ 8) (hR : rm.frames + 1 ≤ R.frames ∧ 8 + (maxL + 11) + rm.locals ≤ R.locals) (hf : cells + rm.cells ≤ R.cells ∧ slots + rm.slots ≤ R.slots) {st0 : List Value} (hst : st0 = As.reverse ++ .ref (ad k0 i0) :: rest) (hdg : decode cc pc = .ok (.invokevirtual index, 3))
    (kk : ∀ (v : Option Value) (C' : rC) (ad' : rA) (H1 : Heap) (locs1 : List Loc), Rp v C' ad' → rS G.1 A s.heap C' ad' H1 locs1 → W p l e R s m args below meth c H1 locs1 (cells + rm.cells) (slots + rm.slots) Q (F0 m (pc + 3) ls (v.toList ++ rest))) : W p l e R s m args below meth c H locs cells slots Q (F0 m pc ls st0) :=
  r_call (va_runVN (Ts := []) (C := y.cls) ⟨hx, hb, hml, hown, fun w h => absurd h List.not_mem_nil⟩ (hM H.size) ⟨r_cn hK.2.1 w1 w4 w5 hd hR, w2, w3⟩ ⟨rPc_blind, r_recv hK hS he hc, r_pc hK hZ hS hA⟩ rfl hn hsz hst (lv_room hW) hdg hf) hS hA kk
theorem r_ivNX (hx : p.tables.exec = Jvm.exec) (hb : c.code = cc) (hml : c.maxLocals = nL) (hown : s.vm.findClass own = some m.cls) (w1 : (Cond.methodLinkNest own index y host).before args s = true) (w2 : (Cond.instanceMethod y).before args s = true) (w3 : (Cond.selects y.cls y y).before args s = true) (w4 : (Cond.initialized y.cls).before args s = true) (w5 : Cond.code y bytes maxL ret ∈ lw_tbl) (hd : y.cls ≠ "java/lang/invoke/MethodHandle" ∧ y.cls ≠ "java/lang/invoke/VarHandle" ∧ (parseMethodDescriptor y.desc).map (fun d => d.parameters.length) = some n)
    (hK : rK G s) (hZ : rZ G A s s.heap) (hS : rS G.1 A s.heap C ad H locs) (hA : ∀ q : Nat, s.heap.size ≤ q → A q) (hM : rMetX G l y bytes maxL ret rm (.ref (ad k0 i0) :: As) C ad Rp Xp) (he : C k0 i0 = some (.inr (ci, fs))) (hc : vwCl[ci]? = some (y.cls, T, N)) (hn : As.length = n) (hsz : ls.size = nL) (hW : (rest.map fun v => v.category).sum ≤ 8) (hR : rm.frames + 1 ≤ R.frames ∧ 8 + (maxL + 11) + rm.locals ≤ R.locals) (hf : cells + rm.cells ≤ R.cells ∧ slots + rm.slots ≤ R.slots) {st0 : List Value} (hst : st0 = As.reverse ++ .ref (ad k0 i0) :: rest) (hdg : decode cc pc = .ok (.invokevirtual index, 3))
    (kx : ∀ (E : String) (ce : Cell) (q9 : Addr) (C' : rC) (ad' : rA) (H1 : Heap) (locs1 : List Loc), Xp E C' ad' → rS G.1 A s.heap C' ad' H1 locs1 → H1[q9]? = some ce → ce.vm = .none → s.vm.findClass E = some ce.cls → vx_W p l e R s m args below meth c H1 locs1 (cells + rm.cells) (slots + rm.slots) Q (F0 m pc ls rest) q9)
    (kk : ∀ (v : Option Value) (C' : rC) (ad' : rA) (H1 : Heap) (locs1 : List Loc), Rp v C' ad' → rS G.1 A s.heap C' ad' H1 locs1 → W p l e R s m args below meth c H1 locs1 (cells + rm.cells) (slots + rm.slots) Q (F0 m (pc + 3) ls (v.toList ++ rest))) : W p l e R s m args below meth c H locs cells slots Q (F0 m pc ls st0) :=
  r_callX (vx_runVN (Ts := []) (C := y.cls) ⟨hx, hb, hml, hown, fun w h => absurd h List.not_mem_nil⟩ (hM H.size) ⟨r_cn hK.2.1 w1 w4 w5 hd hR, w2, w3⟩ ⟨rPc_blind, r_recv hK hS he hc, r_pc hK hZ hS hA⟩ rfl hn hsz hst (lv_room hW) hdg hf) hS hA kx kk
/-- invokestatic -/
theorem r_is (hx : p.tables.exec = Jvm.exec) (hb : c.code = cc) (hml : c.maxLocals = nL) (hown : s.vm.findClass own = some m.cls) (w1 : (Cond.methodLink own index y).before args s = true) (w2 : (Cond.static y).before args s = true) (w4 : (Cond.initialized y.cls).before args s = true) (w5 : Cond.code y bytes maxL ret ∈ lw_tbl) (hd : y.cls ≠ "java/lang/invoke/MethodHandle" ∧ y.cls ≠ "java/lang/invoke/VarHandle" ∧ (parseMethodDescriptor y.desc).map (fun d => d.parameters.length) = some n)
    (hK : rK G s) (hZ : rZ G A s s.heap) (hS : rS G.1 A s.heap C ad H locs) (hA : ∀ q : Nat, s.heap.size ≤ q → A q) (hM : rMet G l y bytes maxL ret rm As C ad Rp) (hn : As.length = n) (hsz : ls.size = nL) (hW : (rest.map fun v => v.category).sum ≤ 8) (hR : rm.frames + 1 ≤ R.frames ∧ 8 + (maxL + 11) + rm.locals ≤ R.locals) (hf : cells + rm.cells ≤ R.cells ∧ slots + rm.slots ≤ R.slots) {st0 : List Value} (hst : st0 = As.reverse ++ rest) (hdg : decode cc pc = .ok (.invokestatic index, 3))
    (kk : ∀ (v : Option Value) (C' : rC) (ad' : rA) (H1 : Heap) (locs1 : List Loc), Rp v C' ad' → rS G.1 A s.heap C' ad' H1 locs1 → W p l e R s m args below meth c H1 locs1 (cells + rm.cells) (slots + rm.slots) Q (F0 m (pc + 3) ls (v.toList ++ rest))) : W p l e R s m args below meth c H locs cells slots Q (F0 m pc ls st0) :=
  r_call (va_runS (Ts := []) ⟨hx, hb, hml, hown, fun w h => absurd h List.not_mem_nil⟩ (hM H.size) ⟨r_cb hK.2.1 w1 w4 w5 hd hR, w2⟩ ⟨rPc_blind, r_pc hK hZ hS hA⟩ rfl hn hsz hst (lv_room hW) hdg hf) hS hA kk
/-- invokespecial of a constructor -/
theorem r_ii (hx : p.tables.exec = Jvm.exec) (hb : c.code = cc) (hml : c.maxLocals = nL) (hown : s.vm.findClass own = some m.cls) (hy1 : y.name = "<init>") (w1 : (Cond.methodLink own index y).before args s = true) (w2 : (Cond.instanceMethod y).before args s = true) (w4 : (Cond.initialized y.cls).before args s = true) (w5 : Cond.code y bytes maxL none ∈ lw_tbl) (hd : y.cls ≠ "java/lang/invoke/MethodHandle" ∧ y.cls ≠ "java/lang/invoke/VarHandle" ∧ (parseMethodDescriptor y.desc).map (fun d => d.parameters.length) = some n)
    (hK : rK G s) (hZ : rZ G A s s.heap) (hS : rS G.1 A s.heap C ad H locs) (hA : ∀ q : Nat, s.heap.size ≤ q → A q) (hM : rMet G l y bytes maxL none rm (.ref (ad k0 i0) :: As) C ad Rp) (hn : As.length = n) (hsz : ls.size = nL) (hW : (rest.map fun v => v.category).sum ≤ 8) (hR : rm.frames + 1 ≤ R.frames ∧ 8 + (maxL + 11) + rm.locals ≤ R.locals) (hf : cells + rm.cells ≤ R.cells ∧ slots + rm.slots ≤ R.slots) {st0 : List Value} (hst : st0 = As.reverse ++ .ref (ad k0 i0) :: rest) (hdg : decode cc pc = .ok (.invokespecial index, 3))
    (kk : ∀ (v : Option Value) (C' : rC) (ad' : rA) (H1 : Heap) (locs1 : List Loc), Rp v C' ad' → rS G.1 A s.heap C' ad' H1 locs1 → W p l e R s m args below meth c H1 locs1 (cells + rm.cells) (slots + rm.slots) Q (F0 m (pc + 3) ls (v.toList ++ rest))) : W p l e R s m args below meth c H locs cells slots Q (F0 m pc ls st0) :=
  r_call (va_runI (Ts := []) ⟨hx, hb, hml, hown, fun w h => absurd h List.not_mem_nil⟩ (hM H.size) ⟨r_cb hK.2.1 w1 w4 w5 hd hR, hy1, w2⟩ ⟨rPc_blind, r_pc hK hZ hS hA⟩ rfl hn hsz hst (lv_room hW) hdg hf) hS hA kk
theorem r_iiN (hx : p.tables.exec = Jvm.exec) (hb : c.code = cc) (hml : c.maxLocals = nL) (hown : s.vm.findClass own = some m.cls) (hy1 : y.name = "<init>") (w1 : (Cond.methodLinkNest own index y host).before args s = true) (w2 : (Cond.instanceMethod y).before args s = true) (w4 : (Cond.initialized y.cls).before args s = true) (w5 : Cond.code y bytes maxL none ∈ lw_tbl) (hd : y.cls ≠ "java/lang/invoke/MethodHandle" ∧ y.cls ≠ "java/lang/invoke/VarHandle" ∧ (parseMethodDescriptor y.desc).map (fun d => d.parameters.length) = some n)
    (hK : rK G s) (hZ : rZ G A s s.heap) (hS : rS G.1 A s.heap C ad H locs) (hA : ∀ q : Nat, s.heap.size ≤ q → A q) (hM : rMet G l y bytes maxL none rm (.ref (ad k0 i0) :: As) C ad Rp) (hn : As.length = n) (hsz : ls.size = nL) (hW : (rest.map fun v => v.category).sum ≤ 8) (hR : rm.frames + 1 ≤ R.frames ∧ 8 + (maxL + 11) + rm.locals ≤ R.locals) (hf : cells + rm.cells ≤ R.cells ∧ slots + rm.slots ≤ R.slots) {st0 : List Value} (hst : st0 = As.reverse ++ .ref (ad k0 i0) :: rest) (hdg : decode cc pc = .ok (.invokespecial index, 3))
    (kk : ∀ (v : Option Value) (C' : rC) (ad' : rA) (H1 : Heap) (locs1 : List Loc), Rp v C' ad' → rS G.1 A s.heap C' ad' H1 locs1 → W p l e R s m args below meth c H1 locs1 (cells + rm.cells) (slots + rm.slots) Q (F0 m (pc + 3) ls (v.toList ++ rest))) : W p l e R s m args below meth c H locs cells slots Q (F0 m pc ls st0) :=
  r_call (va_runIN (Ts := []) ⟨hx, hb, hml, hown, fun w h => absurd h List.not_mem_nil⟩ (hM H.size) ⟨r_cn hK.2.1 w1 w4 w5 hd hR, hy1, w2⟩ ⟨rPc_blind, r_pc hK hZ hS hA⟩ rfl hn hsz hst (lv_room hW) hdg hf) hS hA kk
end RCall
section REnd
variable {p : Program} {l : Launch} {e : Env} {R : Room} {s : State} {m : MethodId} {args : Array Value} {below : List Frame} {meth : Method} {c : Code} {H : Heap} {locs : List Loc} {cells slots : Nat}
variable {cc : ByteArray} {pc : Nat} {ls : Array Slot} {rest : List Value} {G : rG} {C0 C : rC} {ad0 ad : rA} {mc ms : Nat} {Rp : Option Value → rC → rA → Prop} {Xp : String → rC → rA → Prop}
theorem r_q (hS : rS G.1 (rF C0 ad0 s.heap.size) s.heap C ad H locs) {v : Option Value} (hR : Rp v C ad) : ∀ t : State, t.heap = H → s.WarmedH t.vm → rQc G C0 ad0 s.heap.size Rp args s (.returned v) t := by
  intro t ht _
  subst ht
  exact ⟨⟨v, C, ad, rfl, hR, hS.1, hS.2.1⟩, hS.2.2.F rfl⟩
theorem r_iret (hexec : p.tables.exec = Jvm.exec) (hb : c.code = cc) (hr : meth.sig.returnType = some .int) (hlocks : meth.locks = false) (hS : rS G.1 (rF C0 ad0 s.heap.size) s.heap C ad H locs) {v : Int32} (hR : Rp (some (.int v)) C ad) (hc : cells ≤ mc) (hs : slots ≤ ms) (hdg : decode cc pc = .ok (.ireturn, 1)) : W p l e R s m args below meth c H locs cells slots (MQ below (rQc G C0 ad0 s.heap.size Rp) args s mc ms (rF C0 ad0 s.heap.size)) (F0 m pc ls [.int v]) :=
  W.widen hc hs (W.iret hexec hb hr (r_q hS hR) hS.2.2.2.2 hdg hlocks)
theorem r_zret (hexec : p.tables.exec = Jvm.exec) (hb : c.code = cc) (hr : meth.sig.returnType = some .boolean) (hlocks : meth.locks = false) (hS : rS G.1 (rF C0 ad0 s.heap.size) s.heap C ad H locs) {v : Int32} (hn : narrow .boolean (.int v) = .int v) (hR : Rp (some (.int v)) C ad) (hc : cells ≤ mc) (hs : slots ≤ ms) (hdg : decode cc pc = .ok (.ireturn, 1)) : W p l e R s m args below meth c H locs cells slots (MQ below (rQc G C0 ad0 s.heap.size Rp) args s mc ms (rF C0 ad0 s.heap.size)) (F0 m pc ls [.int v]) :=
  W.widen hc hs (W.zret hexec hb hr hn (r_q hS hR) hS.2.2.2.2 hdg hlocks)
theorem r_vret (hexec : p.tables.exec = Jvm.exec) (hb : c.code = cc) (hr : meth.sig.returnType = none) (hlocks : meth.locks = false) (hS : rS G.1 (rF C0 ad0 s.heap.size) s.heap C ad H locs) (hR : Rp none C ad) (hc : cells ≤ mc) (hs : slots ≤ ms) (hdg : decode cc pc = .ok (.return_, 1)) : W p l e R s m args below meth c H locs cells slots (MQ below (rQc G C0 ad0 s.heap.size Rp) args s mc ms (rF C0 ad0 s.heap.size)) (F0 m pc ls []) :=
  W.widen hc hs (W.vret hexec hb hr (r_q hS hR) hS.2.2.2.2 hdg hlocks)
theorem r_aret (hexec : p.tables.exec = Jvm.exec) (hb : c.code = cc) {rt : FieldType} (hr : meth.sig.returnType = some rt) (hrt : (∃ n, rt = .object n) ∨ ∃ t, rt = .array t) (hlocks : meth.locks = false) (hS : rS G.1 (rF C0 ad0 s.heap.size) s.heap C ad H locs) {v : Value} (hv : v = .null ∨ ∃ a, v = .ref a) (hR : Rp (some v) C ad) (hc : cells ≤ mc) (hs : slots ≤ ms) (hdg : decode cc pc = .ok (.areturn, 1)) : W p l e R s m args below meth c H locs cells slots (MQ below (rQc G C0 ad0 s.heap.size Rp) args s mc ms (rF C0 ad0 s.heap.size)) (F0 m pc ls [v]) :=
  W.widen hc hs (W.aret hexec hb hr hrt hv (r_q hS hR) hS.2.2.2.2 hdg hlocks)
theorem r_out {E : String} {ce : Cell} {q : Addr} (hout : ∀ x ∈ c.exceptionTable.toList, False) (hlocks : meth.locks = false) (hS : rS G.1 (rF C0 ad0 s.heap.size) s.heap C ad H locs) (hcell : H[q]? = some ce) (hv : ce.vm = .none) (hcl : s.vm.findClass E = some ce.cls) (hX : Xp E C ad) (hc : cells ≤ mc) (hs : slots ≤ ms) {Qc : Array Value → State → Outcome → State → Prop} :
    vx_W p l e R s m args below meth c H locs cells slots (vx_MQ below Qc (rXc G C0 ad0 s.heap.size Xp) args s mc ms (rF C0 ad0 s.heap.size)) (F0 m pc ls rest) q :=
  vx_out (fun x hx => (hout x hx).elim) hlocks hcell hv hcl (fun t ht _ => by subst ht; exact ⟨⟨C, ad, hX, hS.1, hS.2.1⟩, hS.2.2.F rfl⟩) hS.2.2.2.2 hc hs
/-- throw new E("text") -/
theorem r_throw (hexec : p.tables.exec = Jvm.exec) (hb : c.code = cc) (hl : l.stackTraces = false) {own cls text : String} {names : List String} {ik is ic : Nat} (hown : s.vm.findClass own = some m.cls) (hK : rK G s) (hZ : rZ G (rF C0 ad0 s.heap.size) s s.heap) (hcls : Bundle.fit cls = true) (hnames : ∀ n ∈ names, Bundle.fit n = true) (hk : (Cond.classLink own ik cls).before args s = true) (hini : (Cond.initialized cls).before args s = true) (hstr : (own, is, text) ∈ rStr) (hat : ∀ w ∈ vx_atS own ic cls names, w.before args s = true)
    (hgood : ∀ w ∈ Cond.classLink own ik cls :: Cond.initialized cls :: vx_atS own ic cls names, vx_ot w = true) (hS : rS G.1 (rF C0 ad0 s.heap.size) s.heap C ad H locs) (hsize : ls.size = c.maxLocals)
    (d0 : decode cc pc = .ok (.new ik, 3)) (d3 : decode cc (pc + 3) = .ok (.dup, 1)) (d4 : decode cc (pc + 4) = .ok (.ldc is, 2)) (d6 : decode cc (pc + 6) = .ok (.invokespecial ic, 3)) (d9 : decode cc (pc + 9) = .ok (.athrow, 1))
    (hout : ∀ x ∈ c.exceptionTable.toList, False) (hRf : names.length + 3 < R.frames) (hRl : (rest.map fun v => v.category).sum + (13 * (names.length + 1) + 43) ≤ R.locals) (hRc : cells + 1 ≤ R.cells) (hRs : slots + 6 ≤ R.slots) (hlocks : meth.locks = false) (hX : Xp cls C ad) (hc : cells + 1 ≤ mc) (hs : slots + 6 ≤ ms) {Qc : Array Value → State → Outcome → State → Prop} :
    W p l e R s m args below meth c H locs cells slots (vx_MQ below Qc (rXc G C0 ad0 s.heap.size Xp) args s mc ms (rF C0 ad0 s.heap.size)) (F0 m pc ls rest) := by
  obtain ⟨sa, hsa⟩ := hK.2.2.2.2.2.2.1 _ hstr
  refine vx_throwS hexec hb hl hown hcls hnames hk hini hsa hat hgood hZ.2.2.1 hZ.2.2.2 hS.2.2 hsize d0 d3 d4 d6 d9 (fun x hx => (hout x hx).elim) hRf hRl hRc hRs hlocks (fun t hal hz hk => ?_) hS.2.2.2.2 hc hs
  have hP : rP G.1 C ad t.heap := ⟨fun k i e he => (hS.1.1 k i e he).kept (hk _ (hS.1.lt he)), hS.1.2⟩
  exact ⟨⟨C, ad, hX, hP, hS.2.1⟩, ⟨Nat.le_trans hS.2.2.1 hz, fun q h1 h2 => (hk q (Nat.lt_of_lt_of_le h1 hS.2.2.1)).trans (hS.2.2.2.1 q h1 h2)⟩⟩
/-- a contract out of the walk of its body -/
theorem rMet.of {y : MethodName} {bytes : ByteArray} {maxL : Nat} {ret : Option FieldType} {rm : Room} {av : List Value} (hy : plainName y.cls = true)
    (body : ∀ (p : Program) (e : Env) (s : State) (m : MethodId) (below : List Frame) (meth : Method) (c : Code), p.tables.exec = Jvm.exec → c.code = bytes → c.maxLocals = maxL → meth.sig.returnType = ret → meth.locks = false → s.vm.findClass y.cls = some m.cls → meth.name = y.name → rK G s → rZ G (rF C0 ad0 s.heap.size) s s.heap → rS G.1 (rF C0 ad0 s.heap.size) s.heap C0 ad0 s.heap [] →
      W p l e rm s m av.toArray below meth c s.heap [] 0 0 (MQ below (rQc G C0 ad0 s.heap.size Rp) av.toArray s rm.cells rm.slots (rF C0 ad0 s.heap.size)) (entryFrame m av.toArray maxL)) : rMet G l y bytes maxL ret rm av C0 ad0 Rp := by
  intro sz
  refine Met.ofW (cc := bytes) (maxL := maxL) (ret := ret) hy rfl ?_
  intro p e s m args below meth c s₁ B hml hv
  obtain ⟨rfl, hsz, hP, hK, hZ⟩ := hv
  subst hsz
  exact body p e s m below meth c B.exec B.bytes hml B.returns B.notSynchronized (findClass_of_methodNamed B.named) (name_of_methodNamed B.named B.method).1 hK hZ (rS.rf hP)
theorem rMetX.of {y : MethodName} {bytes : ByteArray} {maxL : Nat} {ret : Option FieldType} {rm : Room} {av : List Value} (hy : plainName y.cls = true)
    (body : ∀ (p : Program) (e : Env) (s : State) (m : MethodId) (below : List Frame) (meth : Method) (c : Code), p.tables.exec = Jvm.exec → c.code = bytes → c.maxLocals = maxL → meth.sig.returnType = ret → meth.locks = false → s.vm.findClass y.cls = some m.cls → meth.name = y.name → rK G s → rZ G (rF C0 ad0 s.heap.size) s s.heap → rS G.1 (rF C0 ad0 s.heap.size) s.heap C0 ad0 s.heap [] → (∀ x ∈ c.exceptionTable.toList, False) →
      W p l e rm s m av.toArray below meth c s.heap [] 0 0 (vx_MQ below (rQc G C0 ad0 s.heap.size Rp) (rXc G C0 ad0 s.heap.size Xp) av.toArray s rm.cells rm.slots (rF C0 ad0 s.heap.size)) (entryFrame m av.toArray maxL)) : rMetX G l y bytes maxL ret rm av C0 ad0 Rp Xp := by
  intro sz
  refine vx_ofW (cc := bytes) (maxL := maxL) (ret := ret) hy rfl ?_
  intro p e s m args below meth c s₁ B hml hex hv
  obtain ⟨rfl, hsz, hP, hK, hZ⟩ := hv
  subst hsz
  exact body p e s m below meth c B.exec B.bytes hml B.returns B.notSynchronized (findClass_of_methodNamed B.named) (name_of_methodNamed B.named B.method).1 hK hZ (rS.rf hP) hex
theorem r_entry {H : Heap} {Q : State → Prop} (av : List Value) {nL : Nat} (h : (lg_sl av).length ≤ nL) (k : ∀ ls : Array Slot, lv_has ls nL (lv_args 0 av) → W p l e R s m args below meth c H locs cells slots Q (F0 m 0 ls [])) : W p l e R s m args below meth c H locs cells slots Q (entryFrame m av.toArray nL) := by
  have hl := lv_entry av (n := nL) h
  rw [lg_entry_eq]
  exact k _ hl
end REnd
