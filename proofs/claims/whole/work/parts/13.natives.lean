/-! rows of the JDK's natives over worlds by roles; the shared empty array; what a list may hold -/
theorem ru_ru {α : Type} {f : Nat → Nat → α} {k i : Nat} {v w : α} : ru (ru f k i v) k i w = ru f k i w := by
  funext a b
  by_cases h : a = k ∧ b = i
  · obtain ⟨rfl, rfl⟩ := h
    rw [ru_e, ru_e]
  · rw [ru_n h, ru_n h, ru_n h]
theorem ru_id {α : Type} {f : Nat → Nat → α} {k i : Nat} {v : α} (h : f k i = v) : ru f k i v = f := by
  funext a b
  by_cases q : a = k ∧ b = i
  · obtain ⟨rfl, rfl⟩ := q
    rw [ru_e, h]
  · rw [ru_n q]
theorem ru_cm {α : Type} {f : Nat → Nat → α} {k i a b : Nat} {v w : α} (h : ¬ (k = a ∧ i = b)) : ru (ru f k i v) a b w = ru (ru f a b w) k i v := by
  funext x y
  by_cases h1 : x = a ∧ y = b
  · obtain ⟨rfl, rfl⟩ := h1
    rw [ru_e, ru_n (fun q => h ⟨q.1.symm, q.2.symm⟩), ru_e]
  · by_cases h2 : x = k ∧ y = i
    · obtain ⟨rfl, rfl⟩ := h2
      rw [ru_n h1, ru_e, ru_e]
    · rw [ru_n h1, ru_n h2, ru_n h2, ru_n h1]
def rCa (ci : Nat) : Prop := ∃ (r : vw_C) (i : Nat), vwCl[ci]? = some r ∧ lw_tbl[i]? = some (Cond.castable r.1 "java/lang/Object")
theorem rCa.nw {ci : Nat} {s : State} (h : rCa ci) (hT : rT s) : ∃ r : vw_C, vwCl[ci]? = some r ∧ va_Nw (.castable r.1 "java/lang/Object") s := by
  obtain ⟨r, i, h1, h2⟩ := h
  exact ⟨r, h1, hT _ (List.mem_of_getElem? h2) rfl⟩
theorem rCa_X0 : rCa 1 := ⟨_, 1099, rfl, by decide +kernel⟩
theorem rCa_X1 : rCa 2 := ⟨_, 1090, rfl, by decide +kernel⟩
theorem rCa_X2 : rCa 3 := ⟨_, 1097, rfl, by decide +kernel⟩
theorem rCa_X3 : rCa 4 := ⟨_, 1093, rfl, by decide +kernel⟩
section R2
variable {p : Program} {l : Launch} {e : Env} {R : Room} {s : State} {m : MethodId} {args : Array Value} {below : List Frame} {meth : Method} {c : Code} {H : Heap} {locs : List Loc} {cells slots : Nat} {Q : State → Prop} {cc : ByteArray} {pc : Nat} {ls : Array Slot} {rest : List Value} {G : rG} {A : Nat → Prop} {C : rC} {ad : rA} {k0 i0 nL : Nat} {rm : Room} {As : List Value} {fs : List Value} {Rp : Option Value → rC → rA → Prop} {Xp : String → rC → rA → Prop}
variable {n : Nat} {f : Nat → Option Nat}
theorem r_alenE (hx : p.tables.exec = Jvm.exec) (hb : c.code = cc) (hK : rK G s) (hZ : rZ G A s s.heap) (hS : rS G.1 A s.heap C ad H locs) (hdg : decode cc pc = .ok (.arraylength, 1)) (kk : W p l e R s m args below meth c H locs cells slots Q (F0 m (pc + 1) ls (.int (nI 0) :: rest))) : W p l e R s m args below meth c H locs cells slots Q (F0 m pc ls (.ref G.2.2 :: rest)) := by
  obtain ⟨cE, e1, e2, e3, e4, e5, e6, e7⟩ := hZ.2.1
  exact W.alen (n := nI 0) hx hb (by rw [hS.2.2.2.1 _ (Array.getElem?_eq_some_iff.mp e1).1 e7]; exact e1) e2 (by rw [e5]; rfl) rfl rfl hdg kk
theorem r_getC (hx : p.tables.exec = Jvm.exec) (hb : c.code = cc) (hsz : c.maxLocals = ls.size) (hown : s.vm.findClass RJ7 = some m.cls) (hK : rK G s) (hS : rS G.1 A s.heap C ad H locs) (he : C k0 i0 = some (arO G n f)) {mi : Nat} (hM : va_Mi "[Ljava/lang/Object;" mi s) (hf : 1 ≤ R.frames) (hl : (rest.map fun v => v.category).sum + 14 ≤ R.locals) (hdg : decode cc pc = .ok (.invokevirtual 86, 3)) (kk : W p l e R s m args below meth c H locs cells slots Q (F0 m (pc + 3) ls (.ref mi :: rest))) : W p l e R s m args below meth c H locs cells slots Q (F0 m pc ls (.ref (ad k0 i0) :: rest)) :=
  va_getC (C := "[Ljava/lang/Object;") hx hb hsz hown (hK.2.1.get 250 (by decide +kernel) rfl) (hK.2.1.get 1104 (by decide +kernel) rfl) (hK.2.1.get 1103 (by decide +kernel) rfl) (hK.2.1.get 251 (by decide +kernel) rfl) (hK.2.1.get 263 (by decide +kernel) rfl) hM ⟨_, hS.1.1 k0 i0 _ he, rfl, va_nmO (C := "java/lang/Object") (hK.1.2 2 _ rfl).2 rfl⟩ hf hl hdg kk
theorem r_ldcM (hx : p.tables.exec = Jvm.exec) (hb : c.code = cc) (hown : s.vm.findClass RJ7 = some m.cls) (hK : rK G s) {mi : Nat} (hM : va_Mi "[Ljava/lang/Object;" mi s) (hdg : decode cc pc = .ok (.ldc 110, 2)) (kk : W p l e R s m args below meth c H locs cells slots Q (F0 m (pc + 2) ls (.ref mi :: rest))) : W p l e R s m args below meth c H locs cells slots Q (F0 m pc ls rest) :=
  va_ldcM hx hb hown (hK.2.1.get 267 (by decide +kernel) rfl) hM hdg kk
theorem r_copyq (hx : p.tables.exec = Jvm.exec) (hb : c.code = cc) (hml : c.maxLocals = ls.size) {own : String} {index : Nat} (hown : s.vm.findClass own = some m.cls) (hlink : (Cond.methodLink own index arraycopyName).before args s = true) (hK : rK G s) (hS : rS G.1 A s.heap C ad H locs) {k1 i1 n0 n1 ci : Nat} {f g g' : Nat → Option Nat} (ha0 : C k1 i1 = some (arO G n0 f)) (ha1 : C k0 i0 = some (arO G n1 g)) (hca : rCa ci)
    {sp dp n : Int32} (h1 : ¬ sp < 0) (h2 : ¬ dp < 0) (h3 : ¬ n < 0) (h4 : sp.toNatClampNeg + n.toNatClampNeg ≤ n0) (h5 : dp.toNatClampNeg + n.toNatClampNeg ≤ n1) (hel : ∀ i : Nat, i < n.toNatClampNeg → ∀ y : Nat, f (sp.toNatClampNeg + i) = some y → ∃ (a b : Nat) (fs : List Value), y = ad a b ∧ C a b = some (.inr (ci, fs))) (hg : va_cpy f g sp.toNatClampNeg dp.toNatClampNeg n.toNatClampNeg = g')
    (hframes : 1 ≤ R.frames) (hlocals : (rest.map fun v => v.category).sum + (nativeFrameWords "java/lang/System" "arraycopy" 5 + 11) ≤ R.locals) (hdg : decode cc pc = .ok (.invokestatic index, 3))
    (kk : ∀ (H1 : Heap) (locs1 : List Loc), rS G.1 A s.heap (ru C k0 i0 (some (arO G n1 g'))) ad H1 locs1 → W p l e R s m args below meth c H1 locs1 cells slots Q (F0 m (pc + 3) ls rest)) : W p l e R s m args below meth c H locs cells slots Q (F0 m pc ls (.int n :: .int dp :: .ref (ad k0 i0) :: .int sp :: .ref (ad k1 i1) :: rest)) := by
  subst hg
  obtain ⟨r, hcr, hcw⟩ := hca.nw hK.2.1
  have hP1 := hS.one ha0
  have nn : ∀ z : Int32, ¬ z < 0 → z.toInt = (z.toNatClampNeg : Int) := by
    intro z hz
    have hz0 : (0 : Int) ≤ z.toInt := by
      have := Int32.not_lt.mp hz
      simpa using Int32.le_iff_toInt_le.mp this
    show z.toInt = ((z.toInt.toNat : Nat) : Int)
    omega
  intro T hT X
  have hc0 : H[ad k1 i1]? = some (vp_cell (G.2.1 2) (n0, .inr (.inr (.inr (.inr f))))) := hS.1.1 k1 i1 _ ha0
  have hc1 : H[ad k0 i0]? = some (vp_cell (G.2.1 2) (n1, .inr (.inr (.inr (.inr g))))) := hS.1.1 k0 i0 _ ha1
  obtain ⟨-, k0', hk0, cm0, hkk0⟩ := (hK.1.2 2 _ rfl).1 n0 (fun j => va_rf (f j))
  obtain ⟨-, k1', hk1, cm1, hkk1⟩ := (hK.1.2 2 _ rfl).1 n1 (fun j => va_rf (g j))
  obtain ⟨vm', X', step⟩ := X.arraycopy hx hown hlink (hK.2.1.get 275 (by decide +kernel) rfl) (hK.2.1.get 274 (by decide +kernel) rfl) (hK.2.1.get 69 (by decide +kernel) rfl) (src := ad k1 i1) (dst := ad k0 i0) (cs := vp_cell (G.2.1 2) (n0, .inr (.inr (.inr (.inr f))))) (cd := vp_cell (G.2.1 2) (n1, .inr (.inr (.inr (.inr g))))) (srcPos := sp) (destPos := dp) (n := n) (by rw [hT]; exact hc0) (by rw [hT]; exact hc1)
    (fun _ h => by cases h) (fun _ h => by cases h) (fun h => by cases h) (fun h => by cases h) hk0 hk1 hkk0 hkk1 rfl h1 h2 h3
    (by rw [nn sp h1, nn n h3]; show ¬ _ > ((arrV (G.2.1 2) n0 (fun j => va_rf (f j))).slots.size : Int); rw [arrV_size]; omega)
    (by rw [nn dp h2, nn n h3]; show ¬ _ > ((arrV (G.2.1 2) n1 (fun j => va_rf (g j))).slots.size : Int); rw [arrV_size]; omega)
    (fun vm₁ hal i hi => by
      have e : (vp_cell (G.2.1 2) (n0, .inr (.inr (.inr (.inr f))))).slots.getD (sp.toNatClampNeg + i) .null = va_rf (f (sp.toNatClampNeg + i)) := by
        show (arrV (G.2.1 2) n0 (fun j => va_rf (f j))).slots.getD _ _ = _
        rw [Array.getD_eq_getD_getElem?, arrV_read _ _ (by omega)]
        rfl
      rw [e]
      cases hy : f (sp.toNatClampNeg + i) with
      | none => exact ⟨rfl, trivial⟩
      | some y =>
        obtain ⟨a, b, fs, rfl, hab⟩ := hel i hi y hy
        obtain ⟨r', hr', cellV, g1, g2, g3, -⟩ := hS.1.1 a b _ hab
        have hcls := (hK.1.1 ci r hcr).2
        obtain ⟨kA, comp, r1, r2, r3, -⟩ := (hK.1.2 2 _ rfl).2
        cases hk1.symm.trans r1
        cases hkk1.symm.trans r2
        obtain ⟨c0, t1, f1, f2, f3⟩ := Cond.castable_spec (va_Nw.use (A := args) rfl hcw)
        cases hcls.1.symm.trans f1
        cases r3.symm.trans f2
        obtain ⟨kC, hkC, -⟩ := Vm.findClass_spec f1
        obtain ⟨kE, hkE, -⟩ := Vm.findClass_spec r3
        obtain ⟨kC', hkC', -⟩ := hal.2.2 _ _ hkC
        obtain ⟨kE', hkE', -⟩ := hal.2.2 _ _ hkE
        refine ⟨rfl, cellV, (show T.heap[ad a b]? = some cellV by rw [hT]; exact g1), (fun q h => by rw [g3] at h; cases h), ⟨kC', by rw [g2]; exact hkC'⟩, ?_, ?_⟩
        · exact ⟨kE', hkE'⟩
        · show vm₁.assignable _ _ = true
          rw [hal.assignable, g2]
          exact f3)
    (g := F0 m pc ls (.int n :: .int dp :: .ref (ad k0 i0) :: .int sp :: .ref (ad k1 i1) :: rest)) rfl (by rw [hml]) (rest := rest) rfl (by rw [hb]; exact hdg) hframes (by show 2 * 0 + _ + _ ≤ _; omega)
  have e1 : copied (vp_cell (G.2.1 2) (n0, .inr (.inr (.inr (.inr f))))) (vp_cell (G.2.1 2) (n1, .inr (.inr (.inr (.inr g))))) sp dp n = vp_cell (G.2.1 2) (n1, .inr (.inr (.inr (.inr (va_cpy f g sp.toNatClampNeg dp.toNatClampNeg n.toNatClampNeg))))) := by
    rw [vp_cell_q, vp_cell_q, vp_cell_q]
    exact va_copied (fun z => va_rf z) (G.2.1 2) (G.2.1 2) f g h4
  rw [e1] at X' step
  have hl : ad k0 i0 < H.size := (Array.getElem?_eq_some_iff.mp hc1).1
  have hheap : ((T.setVm vm').setCell (ad k0 i0) (vp_cell (G.2.1 2) (n1, .inr (.inr (.inr (.inr (va_cpy f g sp.toNatClampNeg dp.toNatClampNeg n.toNatClampNeg))))))).heap = H.setIfInBounds (ad k0 i0) (vp_cell (G.2.1 2) (n1, .inr (.inr (.inr (.inr (va_cpy f g sp.toNatClampNeg dp.toNatClampNeg n.toNatClampNeg)))))) := by rw [← hT]; rfl
  have oq : ∀ q : Nat, q ≠ ad k0 i0 → (H.setIfInBounds (ad k0 i0) (vp_cell (G.2.1 2) (n1, .inr (.inr (.inr (.inr (va_cpy f g sp.toNatClampNeg dp.toNatClampNeg n.toNatClampNeg)))))))[q]? = H[q]? := fun q hq => by simp [Array.getElem?_setIfInBounds, Ne.symm hq]
  have hS1 := hS.put (e := arO G n1 (va_cpy f g sp.toNatClampNeg dp.toNatClampNeg n.toNatClampNeg)) (H1 := H.setIfInBounds (ad k0 i0) (vp_cell (G.2.1 2) (n1, .inr (.inr (.inr (.inr (va_cpy f g sp.toNatClampNeg dp.toNatClampNeg n.toNatClampNeg))))))) ha1 (show (H.setIfInBounds (ad k0 i0) _)[ad k0 i0]? = some _ by simp [Array.getElem?_setIfInBounds, hl]) (by simp) oq (n := 0)
  obtain ⟨t, a1, b1⟩ := kk _ _ ⟨hS1.1, hS1.2.1, hS1.2.2.1, hS1.2.2.2.1, fun q hq => by
      rcases List.mem_append.mp hq with h | h
      · exact hS.2.2.2.2 q h
      · obtain ⟨z, -, hz⟩ := List.mem_map.mp h
        rw [← hz]
        exact hS.2.1 k0 i0 _ ha1⟩ _ hheap X'
  exact ⟨t, step t a1, b1⟩
end R2
theorem lk_J7_150 {s : State} {args : Array Value} (h : rT s) : (Cond.methodLink RJ7 150 arraycopyName).before args s = true := h.get 273 (by decide +kernel) rfl
theorem lk_Jx4a65c_112 {s : State} {args : Array Value} (h : rT s) : (Cond.methodLink RJx4a65c 112 arraycopyName).before args s = true := h.get 348 (by decide +kernel) rfl
