/-! ROWS OVER A WORLD BY ROLES. A role is a kind and an index; C says what the cell of a role holds, ad where it lies. -/
abbrev rC : Type := Nat → Nat → Option va_E
abbrev rA : Type := Nat → Nat → Nat
def ru {α : Type} (f : Nat → Nat → α) (k i : Nat) (v : α) : Nat → Nat → α := fun a b => if a = k ∧ b = i then v else f a b
theorem ru_e {α : Type} {f : Nat → Nat → α} {k i : Nat} {v : α} : ru f k i v k i = v := if_pos ⟨rfl, rfl⟩
theorem ru_n {α : Type} {f : Nat → Nat → α} {k i a b : Nat} {v : α} (h : ¬ (a = k ∧ b = i)) : ru f k i v a b = f a b := if_neg h
theorem ru_k {α : Type} {f : Nat → Nat → α} {k i a b : Nat} {v : α} (h : a ≠ k) : ru f k i v a b = f a b := if_neg (fun q => h q.1)
theorem ru_i {α : Type} {f : Nat → Nat → α} {k i a b : Nat} {v : α} (h : b ≠ i) : ru f k i v a b = f a b := if_neg (fun q => h q.2)
def rP (D : va_G) (C : rC) (ad : rA) (H : Heap) : Prop := (∀ k i e, C k i = some e → va_at D vwCl (ad k i, e) H) ∧ ∀ k i k' i' e e', C k i = some e → C k' i' = some e' → ad k i = ad k' i' → k = k' ∧ i = i'
def rS (D : va_G) (A : Nat → Prop) (H0 : Heap) (C : rC) (ad : rA) (H : Heap) (locs : List Loc) : Prop := rP D C ad H ∧ (∀ k i e, C k i = some e → A (ad k i)) ∧ va_S A H0 H locs
def rF (C : rC) (ad : rA) (sz : Nat) : Nat → Prop := fun q => (∃ k i e, C k i = some e ∧ ad k i = q) ∨ sz ≤ q
section RS
variable {D : va_G} {A : Nat → Prop} {H0 H H1 : Heap} {C C' : rC} {ad ad' : rA} {locs : List Loc} {k i : Nat} {e e0 : va_E}
theorem rS.one (h : rS D A H0 C ad H locs) (he : C k i = some e) : va_P D vwCl [(ad k i, e)] H := by
  intro j q hq
  have hz : j < 1 := (List.getElem?_eq_some_iff.mp hq).1
  rw [show j = 0 by omega] at hq
  cases hq
  exact h.1.1 k i e he
theorem rP.lt (h : rP D C ad H) (he : C k i = some e) : ad k i < H.size := (h.1 k i e he).lt
theorem rS.put (h : rS D A H0 C ad H locs) (he : C k i = some e0) (hn : va_at D vwCl (ad k i, e) H1) (z : H1.size = H.size) (oq : ∀ q : Nat, q ≠ ad k i → H1[q]? = H[q]?) {n : Nat} : rS D A H0 (ru C k i (some e)) ad H1 (locs ++ [⟨ad k i, n⟩]) := by
  have live : ∀ a b x, ru C k i (some e) a b = some x → ∃ x', C a b = some x' := by
    intro a b x hx
    by_cases hab : a = k ∧ b = i
    · obtain ⟨rfl, rfl⟩ := hab
      exact ⟨e0, he⟩
    · rw [ru_n hab] at hx
      exact ⟨x, hx⟩
  refine ⟨⟨fun a b x hx => ?_, fun a b a' b' x x' hx hx' hq => ?_⟩, fun a b x hx => ?_, h.2.2.put z oq (h.2.1 k i e0 he)⟩
  · by_cases hab : a = k ∧ b = i
    · obtain ⟨rfl, rfl⟩ := hab
      rw [ru_e] at hx
      cases hx
      exact hn
    · rw [ru_n hab] at hx
      exact (h.1.1 a b x hx).kept (oq _ fun q => hab (h.1.2 a b k i x e0 hx he q))
  · obtain ⟨y, hy⟩ := live a b x hx
    obtain ⟨y', hy'⟩ := live a' b' x' hx'
    exact h.1.2 a b a' b' y y' hy hy' hq
  · obtain ⟨y, hy⟩ := live a b x hx
    exact h.2.1 a b y hy
theorem rS.new (h : rS D A H0 C ad H locs) (hno : C k i = none) (hn : va_at D vwCl (H.size, e) H1) (z : H1.size = H.size + 1) (o1 : ∀ q : Nat, q < H.size → H1[q]? = H[q]?) (hA : ∀ q : Nat, H0.size ≤ q → A q) : rS D A H0 (ru C k i (some e)) (ru ad k i H.size) H1 locs := by
  have old : ∀ a b x, ¬ (a = k ∧ b = i) → ru C k i (some e) a b = some x → C a b = some x ∧ ru ad k i H.size a b = ad a b ∧ ad a b < H.size := by
    intro a b x hab hx
    rw [ru_n hab] at hx
    exact ⟨hx, ru_n hab, h.1.lt hx⟩
  refine ⟨⟨fun a b x hx => ?_, fun a b a' b' x x' hx hx' hq => ?_⟩, fun a b x hx => ?_, ⟨Nat.le_trans h.2.2.1 (by omega), fun x h1 h2 => (o1 x (Nat.lt_of_lt_of_le h1 h.2.2.1)).trans (h.2.2.2.1 x h1 h2), h.2.2.2.2⟩⟩
  · by_cases hab : a = k ∧ b = i
    · obtain ⟨rfl, rfl⟩ := hab
      rw [ru_e] at hx ⊢
      cases hx
      exact hn
    · obtain ⟨h1, h2, h3⟩ := old a b x hab hx
      rw [h2]
      exact (h.1.1 a b x h1).kept (o1 _ h3)
  · by_cases hab : a = k ∧ b = i <;> by_cases hab' : a' = k ∧ b' = i
    · exact ⟨hab.1.trans hab'.1.symm, hab.2.trans hab'.2.symm⟩
    · obtain ⟨h1, h2, h3⟩ := old a' b' x' hab' hx'
      obtain ⟨rfl, rfl⟩ := hab
      rw [ru_e, h2] at hq
      omega
    · obtain ⟨h1, h2, h3⟩ := old a b x hab hx
      obtain ⟨rfl, rfl⟩ := hab'
      rw [ru_e, h2] at hq
      omega
    · obtain ⟨h1, h2, h3⟩ := old a b x hab hx
      obtain ⟨h1', h2', h3'⟩ := old a' b' x' hab' hx'
      rw [h2, h2'] at hq
      exact h.1.2 a b a' b' x x' h1 h1' hq
  · by_cases hab : a = k ∧ b = i
    · obtain ⟨rfl, rfl⟩ := hab
      rw [ru_e]
      exact hA _ h.2.2.1
    · obtain ⟨h1, h2, h3⟩ := old a b x hab hx
      rw [h2]
      exact h.2.1 a b x h1
/-- fewer roles, at the same places -/
theorem rS.sub (h : rS D A H0 C ad H locs) (hs : ∀ k i e, C' k i = some e → C k i = some e ∧ ad' k i = ad k i) : rS D A H0 C' ad' H locs := by
  refine ⟨⟨fun a b x hx => ?_, fun a b a' b' x x' hx hx' hq => ?_⟩, fun a b x hx => ?_, h.2.2⟩
  · obtain ⟨h1, h2⟩ := hs a b x hx
    rw [h2]
    exact h.1.1 a b x h1
  · obtain ⟨h1, h2⟩ := hs a b x hx
    obtain ⟨h1', h2'⟩ := hs a' b' x' hx'
    rw [h2, h2'] at hq
    exact h.1.2 a b a' b' x x' h1 h1' hq
  · obtain ⟨h1, h2⟩ := hs a b x hx
    rw [h2]
    exact h.2.1 a b x h1
/-- the cell of the role (k, i) takes the role (a, b); what was there is dropped -/
theorem rS.ren (h : rS D A H0 C ad H locs) {a b : Nat} (he : C k i = some e) : rS D A H0 (ru (ru C k i none) a b (some e)) (ru ad a b (ad k i)) H locs := by
  have key : ∀ x y z, ru (ru C k i none) a b (some e) x y = some z → (x = a ∧ y = b ∧ z = e ∧ ru ad a b (ad k i) x y = ad k i) ∨ (¬ (x = a ∧ y = b) ∧ ¬ (x = k ∧ y = i) ∧ C x y = some z ∧ ru ad a b (ad k i) x y = ad x y) := by
    intro x y z hz
    by_cases h1 : x = a ∧ y = b
    · obtain ⟨rfl, rfl⟩ := h1
      rw [ru_e] at hz
      cases hz
      exact Or.inl ⟨rfl, rfl, rfl, ru_e⟩
    · rw [ru_n h1] at hz
      by_cases h2 : x = k ∧ y = i
      · obtain ⟨rfl, rfl⟩ := h2
        rw [ru_e] at hz
        cases hz
      · rw [ru_n h2] at hz
        exact Or.inr ⟨h1, h2, hz, ru_n h1⟩
  refine ⟨⟨fun x y z hz => ?_, fun x y x' y' z z' hz hz' hq => ?_⟩, fun x y z hz => ?_, h.2.2⟩
  · rcases key x y z hz with ⟨-, -, rfl, h4⟩ | ⟨-, -, h3, h4⟩
    · rw [h4]; exact h.1.1 k i _ he
    · rw [h4]; exact h.1.1 x y z h3
  · rcases key x y z hz with ⟨g1, g2, rfl, h4⟩ | ⟨g1, g2, h3, h4⟩ <;> rcases key x' y' z' hz' with ⟨g1', g2', rfl, h4'⟩ | ⟨g1', g2', h3', h4'⟩
    · exact ⟨g1.trans g1'.symm, g2.trans g2'.symm⟩
    · rw [h4, h4'] at hq
      have := h.1.2 k i x' y' _ _ he h3' hq
      exact absurd ⟨this.1.symm, this.2.symm⟩ g2'
    · rw [h4, h4'] at hq
      exact absurd (h.1.2 x y k i _ _ h3 he hq) g2
    · rw [h4, h4'] at hq
      exact h.1.2 x y x' y' _ _ h3 h3' hq
  · rcases key x y z hz with ⟨-, -, rfl, h4⟩ | ⟨-, -, h3, h4⟩
    · rw [h4]; exact h.2.1 k i _ he
    · rw [h4]; exact h.2.1 x y z h3
theorem rS.rf (hP : rP D C ad H) : rS D (rF C ad H.size) H C ad H [] := ⟨hP, fun k i e he => Or.inl ⟨k, i, e, he, rfl⟩, va_S.rf⟩
theorem rF.new {sz : Nat} : ∀ q : Nat, sz ≤ q → rF C ad sz q := fun _ h => Or.inr h
theorem rS.free (h : rS D A H0 C ad H locs) (hA : ∀ q : Nat, H0.size ≤ q → A q) : ∀ q, rF C ad H.size q → A q := by
  intro q hq
  rcases hq with ⟨k, i, e, he, rfl⟩ | hq
  · exact h.2.1 k i e he
  · exact hA q (Nat.le_trans h.2.2.1 hq)
end RS
section RW
variable {p : Program} {l : Launch} {e : Env} {R : Room} {s : State} {m : MethodId} {args : Array Value} {below : List Frame} {meth : Method} {c : Code} {H : Heap} {locs : List Loc} {cells slots : Nat} {Q : State → Prop}
variable {cc : ByteArray} {pc : Nat} {ls : Array Slot} {rest : List Value} {D : va_G} {A : Nat → Prop} {tys : List (ClassId × FieldType)} {H0 : Heap} {Cm : rC} {ad : rA} {k0 i0 : Nat}
theorem r_get (hexec : p.tables.exec = Jvm.exec) (hb : c.code = cc) {own ref Cn : String} {T : u_T} {N ci index : Nat} (hL : ∀ w ∈ u_ws Cn T N, w.before args s = true) (hown : s.vm.findClass own = some m.cls) (hK : va_K D vwCl tys s) (hS : rS D A H0 Cm ad H locs) {fs : List Value} (he : Cm k0 i0 = some (.inr (ci, fs))) (hc : vwCl[ci]? = some (Cn, T, N)) (k : Nat) (hk : k < N) (hlink : (Cond.fieldLink own index ref (T k).2.1 (T k).2.2.1).before args s = true) (hsame : ∀ x, s.fieldFound? (T k).1 (T k).2.1 (T k).2.2.1 = some x → s.fieldFound? ref (T k).2.1 (T k).2.2.1 = some x) {v : Value} (hv : fs[k]? = some v) (hdg : decode cc pc = .ok (.getfield index, 3))
    (kk : W p l e R s m args below meth c H locs cells slots Q (F0 m (pc + 3) ls (v :: rest))) : W p l e R s m args below meth c H locs cells slots Q (F0 m pc ls (.ref (ad k0 i0) :: rest)) :=
  va_get hexec hb hL (fun _ h => h) hown hK (hS.one he) 0 rfl hc k hk hlink hsame hv hdg kk
theorem r_getN (hexec : p.tables.exec = Jvm.exec) (hb : c.code = cc) {own ref Cn host : String} {T : u_T} {N ci index : Nat} (hL : ∀ w ∈ u_ws Cn T N, w.before args s = true) (hown : s.vm.findClass own = some m.cls) (hK : va_K D vwCl tys s) (hS : rS D A H0 Cm ad H locs) {fs : List Value} (he : Cm k0 i0 = some (.inr (ci, fs))) (hc : vwCl[ci]? = some (Cn, T, N)) (k : Nat) (hk : k < N) (hlink : (Cond.fieldLinkNest own index ref (T k).2.1 (T k).2.2.1 host).before args s = true) (hsame : ∀ x, s.fieldFound? (T k).1 (T k).2.1 (T k).2.2.1 = some x → s.fieldFound? ref (T k).2.1 (T k).2.2.1 = some x) {v : Value} (hv : fs[k]? = some v) (hdg : decode cc pc = .ok (.getfield index, 3))
    (kk : W p l e R s m args below meth c H locs cells slots Q (F0 m (pc + 3) ls (v :: rest))) : W p l e R s m args below meth c H locs cells slots Q (F0 m pc ls (.ref (ad k0 i0) :: rest)) :=
  va_getN hexec hb hL (fun _ h => h) hown hK (hS.one he) 0 rfl hc k hk hlink hsame hv hdg kk
theorem r_put (hexec : p.tables.exec = Jvm.exec) (hb : c.code = cc) {own ref Cn : String} {T : u_T} {N ci index : Nat} (hL : ∀ w ∈ u_ws Cn T N, w.before args s = true) (ty0 : Nat → FieldType) (hty : ∀ k, k < N → parseFieldDescriptor (T k).2.2.1 = some (ty0 k)) (hnm : ∀ a, a < N → ∀ b, b < N → a ≠ b → (T a).2.1 ≠ (T b).2.1) (hown : s.vm.findClass own = some m.cls) (hK : va_K D vwCl tys s) (hS0 : rS D A H0 Cm ad H locs) {fs : List Value} (he : Cm k0 i0 = some (.inr (ci, fs))) (hc : vwCl[ci]? = some (Cn, T, N)) (k : Nat) (hk : k < N) (hlink : (Cond.fieldLink own index ref (T k).2.1 (T k).2.2.1).before args s = true) (hsame : ∀ x, s.fieldFound? (T k).1 (T k).2.1 (T k).2.2.1 = some x → s.fieldFound? ref (T k).2.1 (T k).2.2.1 = some x) (hfin : (T k).2.2.2 = false) {ty : FieldType} {v : Value} (hd : parseFieldDescriptor (T k).2.2.1 = some ty) (hn : narrow ty v = v) (hfit : fits ty v = true) {fs' : List Value} (hl : k < fs.length) (hfs : fs.set k v = fs')
    (hdg : decode cc pc = .ok (.putfield index, 3)) (kk : ∀ (H1 : Heap) (locs1 : List Loc), rS D A H0 (ru Cm k0 i0 (some (.inr (ci, fs')))) ad H1 locs1 → W p l e R s m args below meth c H1 locs1 cells slots Q (F0 m (pc + 3) ls rest)) : W p l e R s m args below meth c H locs cells slots Q (F0 m pc ls (v :: .ref (ad k0 i0) :: rest)) := by
  subst hfs
  have hts : ∀ w ∈ u_ws Cn T N, w.before args s = true := hL
  have hin : ∀ w ∈ u_ws Cn T N, w ∈ u_ws Cn T N := fun _ h => h
  have hap := va_apart (own := own) hts hin ty0 hty hnm hK hc
  obtain ⟨r, h1, cell, q1, q2, q3, q4⟩ := hS0.1.1 k0 i0 _ he
  have hr : r = (Cn, T, N) := Option.some.inj (h1.symm.trans hc)
  subst hr
  obtain ⟨hS, hfc, kC, hkC, hkind⟩ := hK.1 ci _ hc
  obtain ⟨cf, kf, fi, f, hi, hsl⟩ := hS k hk
  have hlay := hts _ (hin _ (u_in_lay hk))
  unfold u_lay at hlay
  rw [if_neg (by rw [hfin]; decide)] at hlay
  have hst := (u_facts hfc hkC (u_lays hts hin hk) hi).1
  have h6 := u_store hfc hkC hkind hlay hi hd hn hfit
  refine W.putK hexec hb (f := f) ⟨hown, hlink, ⟨_, _, _, hsame _ hi⟩, hst⟩ (by rw [q2]; exact h6) q1 q3 (by rw [hsl]; exact k2_hasslot (q4 k hk)) rfl rfl hdg fun H' e1 e2 e3 => ?_
  rw [hsl] at e1 ⊢
  exact kk H' _ (hS0.put (H1 := H') (e := .inr (ci, fs.set k v)) he ⟨_, hc, t_OB.to (V := updV (vp_V fs) k v) ⟨_, e1, q2, q3, t_set q4 hap hk v⟩ (fun j _ => vp_updV_set hl v j)⟩ e2 e3)
theorem r_putN (hexec : p.tables.exec = Jvm.exec) (hb : c.code = cc) {own ref Cn host : String} {T : u_T} {N ci index : Nat} (hL : ∀ w ∈ u_ws Cn T N, w.before args s = true) (ty0 : Nat → FieldType) (hty : ∀ k, k < N → parseFieldDescriptor (T k).2.2.1 = some (ty0 k)) (hnm : ∀ a, a < N → ∀ b, b < N → a ≠ b → (T a).2.1 ≠ (T b).2.1) (hown : s.vm.findClass own = some m.cls) (hK : va_K D vwCl tys s) (hS0 : rS D A H0 Cm ad H locs) {fs : List Value} (he : Cm k0 i0 = some (.inr (ci, fs))) (hc : vwCl[ci]? = some (Cn, T, N)) (k : Nat) (hk : k < N) (hlink : (Cond.fieldLinkNest own index ref (T k).2.1 (T k).2.2.1 host).before args s = true) (hsame : ∀ x, s.fieldFound? (T k).1 (T k).2.1 (T k).2.2.1 = some x → s.fieldFound? ref (T k).2.1 (T k).2.2.1 = some x) (hfin : (T k).2.2.2 = false) {ty : FieldType} {v : Value} (hd : parseFieldDescriptor (T k).2.2.1 = some ty) (hn : narrow ty v = v) (hfit : fits ty v = true) {fs' : List Value} (hl : k < fs.length) (hfs : fs.set k v = fs')
    (hdg : decode cc pc = .ok (.putfield index, 3)) (kk : ∀ (H1 : Heap) (locs1 : List Loc), rS D A H0 (ru Cm k0 i0 (some (.inr (ci, fs')))) ad H1 locs1 → W p l e R s m args below meth c H1 locs1 cells slots Q (F0 m (pc + 3) ls rest)) : W p l e R s m args below meth c H locs cells slots Q (F0 m pc ls (v :: .ref (ad k0 i0) :: rest)) := by
  subst hfs
  have hts : ∀ w ∈ u_ws Cn T N, w.before args s = true := hL
  have hin : ∀ w ∈ u_ws Cn T N, w ∈ u_ws Cn T N := fun _ h => h
  have hap := va_apart (own := own) hts hin ty0 hty hnm hK hc
  obtain ⟨r, h1, cell, q1, q2, q3, q4⟩ := hS0.1.1 k0 i0 _ he
  have hr : r = (Cn, T, N) := Option.some.inj (h1.symm.trans hc)
  subst hr
  obtain ⟨hS, hfc, kC, hkC, hkind⟩ := hK.1 ci _ hc
  obtain ⟨cf, kf, fi, f, hi, hsl⟩ := hS k hk
  have hlay := hts _ (hin _ (u_in_lay hk))
  unfold u_lay at hlay
  rw [if_neg (by rw [hfin]; decide)] at hlay
  have hst := (u_facts hfc hkC (u_lays hts hin hk) hi).1
  have h6 := u_store hfc hkC hkind hlay hi hd hn hfit
  refine va_WputK hexec hb (f := f) hown hlink (hsame _ hi) hst (by rw [q2]; exact h6) q1 q3 (by rw [hsl]; exact k2_hasslot (q4 k hk)) rfl rfl hdg fun H' e1 e2 e3 => ?_
  rw [hsl] at e1 ⊢
  exact kk H' _ (hS0.put (H1 := H') (e := .inr (ci, fs.set k v)) he ⟨_, hc, t_OB.to (V := updV (vp_V fs) k v) ⟨_, e1, q2, q3, t_set q4 hap hk v⟩ (fun j _ => vp_updV_set hl v j)⟩ e2 e3)
theorem r_putF (hexec : p.tables.exec = Jvm.exec) (hb : c.code = cc) {own ref Cn : String} {T : u_T} {N ci index : Nat} (hL : ∀ w ∈ u_ws Cn T N, w.before args s = true) (ty0 : Nat → FieldType) (hty : ∀ k, k < N → parseFieldDescriptor (T k).2.2.1 = some (ty0 k)) (hnm : ∀ a, a < N → ∀ b, b < N → a ≠ b → (T a).2.1 ≠ (T b).2.1) (hown : s.vm.findClass own = some m.cls) (hK : va_K D vwCl tys s) (hS0 : rS D A H0 Cm ad H locs) {fs : List Value} (he : Cm k0 i0 = some (.inr (ci, fs))) (hc : vwCl[ci]? = some (Cn, T, N)) (k : Nat) (hk : k < N) (hlink : (Cond.fieldLink own index ref (T k).2.1 (T k).2.2.1).before args s = true) (hsame : ∀ x, s.fieldFound? (T k).1 (T k).2.1 (T k).2.2.1 = some x → s.fieldFound? ref (T k).2.1 (T k).2.2.1 = some x) (hfin : (T k).2.2.2 = true) (hin2 : meth.name = "<init>") (hdecl : (T k).1 = own) {ty : FieldType} {v : Value} (hd : parseFieldDescriptor (T k).2.2.1 = some ty) (hn : narrow ty v = v) (hfit : fits ty v = true) {fs' : List Value} (hl : k < fs.length) (hfs : fs.set k v = fs')
    (hdg : decode cc pc = .ok (.putfield index, 3)) (kk : ∀ (H1 : Heap) (locs1 : List Loc), rS D A H0 (ru Cm k0 i0 (some (.inr (ci, fs')))) ad H1 locs1 → W p l e R s m args below meth c H1 locs1 cells slots Q (F0 m (pc + 3) ls rest)) : W p l e R s m args below meth c H locs cells slots Q (F0 m pc ls (v :: .ref (ad k0 i0) :: rest)) := by
  subst hfs
  have hts : ∀ w ∈ u_ws Cn T N, w.before args s = true := hL
  have hin : ∀ w ∈ u_ws Cn T N, w ∈ u_ws Cn T N := fun _ h => h
  have hap := va_apart (own := own) hts hin ty0 hty hnm hK hc
  obtain ⟨r, h1, cell, q1, q2, q3, q4⟩ := hS0.1.1 k0 i0 _ he
  have hr : r = (Cn, T, N) := Option.some.inj (h1.symm.trans hc)
  subst hr
  obtain ⟨hS, hfc, kC, hkC, hkind⟩ := hK.1 ci _ hc
  obtain ⟨cf, kf, fi, f, hi, hsl⟩ := hS k hk
  have hlay := hts _ (hin _ (u_in_lay hk))
  unfold u_lay at hlay
  rw [if_pos hfin] at hlay
  have hst := (u_facts hfc hkC (u_lays hts hin hk) hi).1
  have hcf : m.cls = cf := by
    obtain ⟨_, _, c', _, _, _, -, -, hf', -, -, -, hown2, -⟩ := Cond.laysFinal_spec hlay
    have e1 : c' = cf := by have := hi.symm.trans hf'; simp at this; exact this.1.symm
    rw [hdecl] at hown2
    rw [← e1]; exact Option.some.inj (hown.symm.trans hown2)
  have h6 := u_fits hfc hkC hkind (Or.inr hlay) hi hd hn hfit
  refine W.putFinK hexec hb hown hlink (hsame _ hi) hst hcf hin2 (by rw [q2]; exact h6) q1 q3 (by rw [hsl]; exact k2_hasslot (q4 k hk)) rfl rfl hdg fun H' e1 e2 e3 => ?_
  rw [hsl] at e1 ⊢
  exact kk H' _ (hS0.put (H1 := H') (e := .inr (ci, fs.set k v)) he ⟨_, hc, t_OB.to (V := updV (vp_V fs) k v) ⟨_, e1, q2, q3, t_set q4 hap hk v⟩ (fun j _ => vp_updV_set hl v j)⟩ e2 e3)
theorem r_new (hexec : p.tables.exec = Jvm.exec) (hb : c.code = cc) {own Cn : String} {T : u_T} {N ci index : Nat} (hL : ∀ w ∈ u_ws Cn T N, w.before args s = true) (ty : Nat → FieldType) (hty : ∀ k, k < N → parseFieldDescriptor (T k).2.2.1 = some (ty k)) (hown : s.vm.findClass own = some m.cls) (hcl : (Cond.classLink own index Cn).before args s = true) (hinst : (Cond.instantiable Cn N).before args s = true) (hini : (Cond.initialized Cn).before args s = true)
    (hK : va_K D vwCl tys s) (hS : rS D A H0 Cm ad H locs) (hA : ∀ q : Nat, H0.size ≤ q → A q) (hc : vwCl[ci]? = some (Cn, T, N)) {fs : List Value} (hfs : ∀ j, j < N → defaultValue (ty j) = vp_V fs j) (k0 i0 : Nat) (hno : Cm k0 i0 = none) (hcells : cells + 1 ≤ R.cells) (hslots : slots + N ≤ R.slots) (hdg : decode cc pc = .ok (.new index, 3))
    (kk : ∀ (q : Nat) (H1 : Heap), rS D A H0 (ru Cm k0 i0 (some (.inr (ci, fs)))) (ru ad k0 i0 q) H1 locs →
      W p l e R s m args below meth c H1 locs (cells + 1) (slots + N) Q (F0 m (pc + 3) ls (.ref q :: rest))) : W p l e R s m args below meth c H locs cells slots Q (F0 m pc ls rest) := by
  have hKn := hK.1 ci _ hc
  refine W.newcK hexec hb hown hcl hinst hini rfl hdg hcells hslots hKn.2.1 rfl fun H1 kC hkC e1 z1 o1 => ?_
  exact kk H.size H1 (hS.new hno ⟨_, hc, (u_born ty hL (fun _ h => h) hKn hkC e1 hty).to hfs⟩ z1 o1 hA)
theorem r_iald (hexec : p.tables.exec = Jvm.exec) (hb : c.code = cc) (hK : va_K D vwCl tys s) (hS : rS D A H0 Cm ad H locs) (t0 : Nat) {cA : ClassId} {n : Nat} {f : Nat → Int32} (he : Cm k0 i0 = some (.inl (cA, n, .inl f))) (ht : tys[t0]? = some (cA, .int)) {i : Int32} (hin : vp_in i n) {v : Int32} (hv : f i.toNatClampNeg = v) (hdg : decode cc pc = .ok (.iaload, 1))
    (kk : W p l e R s m args below meth c H locs cells slots Q (F0 m (pc + 1) ls (.int v :: rest))) : W p l e R s m args below meth c H locs cells slots Q (F0 m pc ls (.int i :: .ref (ad k0 i0) :: rest)) := by
  subst hv
  exact va_iald hexec hb hK (hS.one he) 0 t0 rfl ht hin hdg kk
theorem r_iast (hexec : p.tables.exec = Jvm.exec) (hb : c.code = cc) (hK : va_K D vwCl tys s) (hS : rS D A H0 Cm ad H locs) (t0 : Nat) {cA : ClassId} {n : Nat} {f f' : Nat → Int32} (he : Cm k0 i0 = some (.inl (cA, n, .inl f))) (ht : tys[t0]? = some (cA, .int)) {i x : Int32} (hin : vp_in i n) (hf : upd f i.toNatClampNeg x = f') (hdg : decode cc pc = .ok (.iastore, 1))
    (kk : ∀ (H1 : Heap) (locs1 : List Loc), rS D A H0 (ru Cm k0 i0 (some (.inl (cA, n, .inl f')))) ad H1 locs1 → W p l e R s m args below meth c H1 locs1 cells slots Q (F0 m (pc + 1) ls rest)) : W p l e R s m args below meth c H locs cells slots Q (F0 m pc ls (.int x :: .int i :: .ref (ad k0 i0) :: rest)) := by
  subst hf
  refine W.iast hexec hb (hS.1.1 k0 i0 _ he) ((hK.2 t0 _ ht).1 n (fun j => .int (f j))) (fun q => by cases q) (by show ¬ (i < 0 ∨ (arrV _ _ _).slots.size ≤ _); rw [arrV_size]; exact hin) rfl rfl hdg fun H1 e z oq => ?_
  refine kk H1 _ (hS.put he ?_ z oq)
  show H1[ad k0 i0]? = some (vp_cell _ _)
  rw [e]
  rw [vp_cell_i, vp_cell_i, arrV_store]
  congr 2
  funext q
  by_cases hq : q = i.toNatClampNeg
  · subst hq
    simp [updV, upd]
  · simp [updV, upd, hq]
theorem r_lald (hexec : p.tables.exec = Jvm.exec) (hb : c.code = cc) (hK : va_K D vwCl tys s) (hS : rS D A H0 Cm ad H locs) (t0 : Nat) {cA : ClassId} {n : Nat} {f : Nat → Int64} (he : Cm k0 i0 = some (.inl (cA, n, .inr (.inl f)))) (ht : tys[t0]? = some (cA, .long)) {i : Int32} (hin : vp_in i n) {v : Int64} (hv : f i.toNatClampNeg = v) (hdg : decode cc pc = .ok (.laload, 1))
    (kk : W p l e R s m args below meth c H locs cells slots Q (F0 m (pc + 1) ls (.long v :: rest))) : W p l e R s m args below meth c H locs cells slots Q (F0 m pc ls (.int i :: .ref (ad k0 i0) :: rest)) := by
  subst hv
  exact va_lald hexec hb hK (hS.one he) 0 t0 rfl ht hin hdg kk
theorem r_last (hexec : p.tables.exec = Jvm.exec) (hb : c.code = cc) (hK : va_K D vwCl tys s) (hS : rS D A H0 Cm ad H locs) (t0 : Nat) {cA : ClassId} {n : Nat} {f f' : Nat → Int64} (he : Cm k0 i0 = some (.inl (cA, n, .inr (.inl f)))) (ht : tys[t0]? = some (cA, .long)) {i : Int32} {x : Int64} (hin : vp_in i n) (hf : vp_updL f i.toNatClampNeg x = f') (hdg : decode cc pc = .ok (.lastore, 1))
    (kk : ∀ (H1 : Heap) (locs1 : List Loc), rS D A H0 (ru Cm k0 i0 (some (.inl (cA, n, .inr (.inl f'))))) ad H1 locs1 → W p l e R s m args below meth c H1 locs1 cells slots Q (F0 m (pc + 1) ls rest)) : W p l e R s m args below meth c H locs cells slots Q (F0 m pc ls (.long x :: .int i :: .ref (ad k0 i0) :: rest)) := by
  subst hf
  refine W.last hexec hb (hS.1.1 k0 i0 _ he) ((hK.2 t0 _ ht).1 n (fun j => .long (f j))) (fun q => by cases q) (by show ¬ (i < 0 ∨ (arrV _ _ _).slots.size ≤ _); rw [arrV_size]; exact hin) rfl rfl hdg fun H1 e z oq => ?_
  refine kk H1 _ (hS.put he ?_ z oq)
  show H1[ad k0 i0]? = some (vp_cell _ _)
  rw [e]
  rw [vp_cell_l, vp_cell_l, arrV_store]
  congr 2
  funext q
  by_cases hq : q = i.toNatClampNeg
  · subst hq
    simp [updV, vp_updL]
  · simp [updV, vp_updL, hq]
theorem r_alen (hexec : p.tables.exec = Jvm.exec) (hb : c.code = cc) (hK : va_K D vwCl tys s) (hS : rS D A H0 Cm ad H locs) (t0 : Nat) {cA : ClassId} {x : vp_A} (he : Cm k0 i0 = some (.inl (cA, x))) {ty : FieldType} (ht : tys[t0]? = some (cA, ty)) {v : Int32} (hv : Int32.ofNat x.1 = v) (hdg : decode cc pc = .ok (.arraylength, 1))
    (kk : W p l e R s m args below meth c H locs cells slots Q (F0 m (pc + 1) ls (.int v :: rest))) : W p l e R s m args below meth c H locs cells slots Q (F0 m pc ls (.ref (ad k0 i0) :: rest)) :=
  va_alen hexec hb hK (hS.one he) 0 t0 rfl ht hv hdg kk
theorem r_aald (hexec : p.tables.exec = Jvm.exec) (hb : c.code = cc) (hK : va_K D vwCl tys s) (hS : rS D A H0 Cm ad H locs) (t0 : Nat) {cA : ClassId} {Cn : String} {n : Nat} {f : Nat → Option Nat} (he : Cm k0 i0 = some (.inl (cA, n, .inr (.inr (.inr (.inr f)))))) (ht : tys[t0]? = some (cA, .object Cn)) {i : Int32} (hin : vp_in i n) {v : Value} (hv : va_rf (f i.toNatClampNeg) = v) (hdg : decode cc pc = .ok (.aaload, 1))
    (kk : W p l e R s m args below meth c H locs cells slots Q (F0 m (pc + 1) ls (v :: rest))) : W p l e R s m args below meth c H locs cells slots Q (F0 m pc ls (.int i :: .ref (ad k0 i0) :: rest)) := by
  subst hv
  exact va_aldq hexec hb hK (hS.one he) 0 t0 rfl ht hin hdg kk
theorem r_aast (hexec : p.tables.exec = Jvm.exec) (hb : c.code = cc) (hK : va_K D vwCl tys s) (hS : rS D A H0 Cm ad H locs) (t0 : Nat) {E : String} {cA : ClassId} {r : vw_C} {n k1 i1 ci : Nat} {vs : List Value} {f f' : Nat → Option Nat} (he : Cm k0 i0 = some (.inl (cA, n, .inr (.inr (.inr (.inr f)))))) (ht : tys[t0]? = some (cA, .object E)) (hca : va_Nw (.castable r.1 E) s) (hv : Cm k1 i1 = some (.inr (ci, vs))) (hc : vwCl[ci]? = some r) {i : Int32} (hin : vp_in i n) (hf : va_up f i.toNatClampNeg (some (ad k1 i1)) = f') (hdg : decode cc pc = .ok (.aastore, 1))
    (kk : ∀ (H1 : Heap) (locs1 : List Loc), rS D A H0 (ru Cm k0 i0 (some (.inl (cA, n, .inr (.inr (.inr (.inr f'))))))) ad H1 locs1 → W p l e R s m args below meth c H1 locs1 cells slots Q (F0 m (pc + 1) ls rest)) : W p l e R s m args below meth c H locs cells slots Q (F0 m pc ls (.ref (ad k1 i1) :: .int i :: .ref (ad k0 i0) :: rest)) := by
  subst hf
  have hlt : i.toNatClampNeg < n := Nat.not_le.mp fun q => hin (Or.inr q)
  have h0 : ¬ i < 0 := fun q => hin (Or.inl q)
  obtain ⟨r', hr', cellV, g1, g2, g3, -⟩ := hS.1.1 k1 i1 _ hv
  have hcls := (hK.1 ci r hc).2
  obtain ⟨kA, comp, k1, k2, k3, -⟩ := (hK.2 t0 _ ht).2
  obtain ⟨kE, hkE, -⟩ := Vm.findClass_spec k3
  obtain ⟨c0, t1, f1, f2, f3⟩ := Cond.castable_spec (va_Nw.use (A := args) rfl hca)
  cases hcls.1.symm.trans f1
  cases k3.symm.trans f2
  obtain ⟨kC, hkC, -⟩ := hcls.2
  refine W.aast hexec hb (hS.1.1 k0 i0 _ he) (fun q h => by cases h) (fun h => by cases h) k1 k2 rfl hkE ⟨h0, by show _ < (arrV _ _ _).slots.size; rw [arrV_size]; exact hlt⟩ g1 (fun q h => by rw [g3] at h; cases h) (by rw [g2]; exact hkC) (by rw [g2]; exact f3) rfl rfl hdg fun H1 e z oq => ?_
  refine kk H1 _ (hS.put he ?_ z oq)
  show H1[ad k0 i0]? = some (vp_cell _ _)
  rw [e]
  rw [vp_cell_q, vp_cell_q, arrV_store]
  congr 2
  funext q
  by_cases hq : q = i.toNatClampNeg
  · subst hq
    simp [updV, va_up, va_rf]
  · simp [updV, va_up, hq]
/-- a store into an array of the very class -/
theorem r_aastS (hexec : p.tables.exec = Jvm.exec) (hb : c.code = cc) (hK : va_K D vwCl tys s) (hS : rS D A H0 Cm ad H locs) (t0 : Nat) {cA : ClassId} {r : vw_C} {n k1 i1 ci : Nat} {vs : List Value} {f f' : Nat → Option Nat} (he : Cm k0 i0 = some (.inl (cA, n, .inr (.inr (.inr (.inr f)))))) (ht : tys[t0]? = some (cA, .object r.1)) (hv : Cm k1 i1 = some (.inr (ci, vs))) (hc : vwCl[ci]? = some r) {i : Int32} (hin : vp_in i n) (hf : va_up f i.toNatClampNeg (some (ad k1 i1)) = f') (hdg : decode cc pc = .ok (.aastore, 1))
    (kk : ∀ (H1 : Heap) (locs1 : List Loc), rS D A H0 (ru Cm k0 i0 (some (.inl (cA, n, .inr (.inr (.inr (.inr f'))))))) ad H1 locs1 → W p l e R s m args below meth c H1 locs1 cells slots Q (F0 m (pc + 1) ls rest)) : W p l e R s m args below meth c H locs cells slots Q (F0 m pc ls (.ref (ad k1 i1) :: .int i :: .ref (ad k0 i0) :: rest)) := by
  subst hf
  have hlt : i.toNatClampNeg < n := Nat.not_le.mp fun q => hin (Or.inr q)
  have h0 : ¬ i < 0 := fun q => hin (Or.inl q)
  obtain ⟨r', hr', cellV, g1, g2, g3, -⟩ := hS.1.1 k1 i1 _ hv
  have hcls := (hK.1 ci r hc).2
  obtain ⟨kA, comp, k1, k2, k3, -⟩ := (hK.2 t0 _ ht).2
  have hcomp : comp = D.1 ci := Option.some.inj (k3.symm.trans hcls.1)
  subst hcomp
  obtain ⟨kC, hkC, -⟩ := hcls.2
  refine W.aast hexec hb (hS.1.1 k0 i0 _ he) (fun q h => by cases h) (fun h => by cases h) k1 k2 rfl hkC ⟨h0, by show _ < (arrV _ _ _).slots.size; rw [arrV_size]; exact hlt⟩ g1 (fun q h => by rw [g3] at h; cases h) (by rw [g2]; exact hkC) (by rw [g2]; exact va_assign hcls) rfl rfl hdg fun H1 e z oq => ?_
  refine kk H1 _ (hS.put he ?_ z oq)
  show H1[ad k0 i0]? = some (vp_cell _ _)
  rw [e]
  rw [vp_cell_q, vp_cell_q, arrV_store]
  congr 2
  funext q
  by_cases hq : q = i.toNatClampNeg
  · subst hq
    simp [updV, va_up, va_rf]
  · simp [updV, va_up, hq]
theorem r_aastN (hexec : p.tables.exec = Jvm.exec) (hb : c.code = cc) (hK : va_K D vwCl tys s) (hS : rS D A H0 Cm ad H locs) (t0 : Nat) {cA : ClassId} {Cn : String} {n : Nat} {f f' : Nat → Option Nat} (he : Cm k0 i0 = some (.inl (cA, n, .inr (.inr (.inr (.inr f)))))) (ht : tys[t0]? = some (cA, .object Cn)) {i : Int32} (hin : vp_in i n) (hf : va_up f i.toNatClampNeg none = f') (hdg : decode cc pc = .ok (.aastore, 1))
    (kk : ∀ (H1 : Heap) (locs1 : List Loc), rS D A H0 (ru Cm k0 i0 (some (.inl (cA, n, .inr (.inr (.inr (.inr f'))))))) ad H1 locs1 → W p l e R s m args below meth c H1 locs1 cells slots Q (F0 m (pc + 1) ls rest)) : W p l e R s m args below meth c H locs cells slots Q (F0 m pc ls (.null :: .int i :: .ref (ad k0 i0) :: rest)) := by
  subst hf
  refine va_WaastN (C := Cn) hexec hb (hS.1.1 k0 i0 _ he) ((hK.2 t0 _ ht).1 n (fun j => va_rf (f j))) (fun h => by cases h) (by show ¬ (i < 0 ∨ (arrV _ _ _).slots.size ≤ _); rw [arrV_size]; exact hin) rfl rfl hdg fun H1 e z oq => ?_
  refine kk H1 _ (hS.put he ?_ z oq)
  show H1[ad k0 i0]? = some (vp_cell _ _)
  rw [e]
  rw [vp_cell_q, vp_cell_q, arrV_store]
  congr 2
  funext q
  by_cases hq : q = i.toNatClampNeg
  · subst hq
    simp [updV, va_up, va_rf]
  · simp [updV, va_up, hq]
theorem r_newq (hexec : p.tables.exec = Jvm.exec) (hb : c.code = cc) {own Cn : String} {index t0 : Nat} {cA : ClassId} (hown : s.vm.findClass own = some m.cls) (hclink : (Cond.classLink own index Cn).before args s = true) (hover : va_AO Cn s) (hK : va_K D vwCl tys s) (ht : tys[t0]? = some (cA, .object Cn)) (hS : rS D A H0 Cm ad H locs) (hA : ∀ q : Nat, H0.size ≤ q → A q) (k0 i0 : Nat) (hno : Cm k0 i0 = none)
    {n : Int32} {N' : Nat} (hn : ¬ n < 0) (hN : n.toNatClampNeg = N') (hbytes : N' * 4 ≤ 536870912) (hcells : cells + 1 ≤ R.cells) (hslots : slots + N' ≤ R.slots) (hdg : decode cc pc = .ok (.anewarray index, 3))
    (kk : ∀ (q : Nat) (H1 : Heap), rS D A H0 (ru Cm k0 i0 (some (.inl (cA, N', .inr (.inr (.inr (.inr (fun _ => none)))))))) (ru ad k0 i0 q) H1 locs →
      W p l e R s m args below meth c H1 locs (cells + 1) (slots + N') Q (F0 m (pc + 3) ls (.ref q :: rest))) : W p l e R s m args below meth c H locs cells slots Q (F0 m pc ls (.int n :: rest)) := by
  subst hN
  refine W.anew hexec hb hown hclink (va_AO.use hover) rfl hdg rfl hn hbytes hcells hslots fun cA1 kA comp f1 f2 f3 f4 => ?_
  obtain ⟨kA', comp', -, -, -, k4⟩ := (hK.2 t0 _ ht).2
  cases Option.some.inj (f1.symm.trans k4)
  generalize hH1 : H.push ({ cls := cA, slots := Array.replicate n.toNatClampNeg .null, vm := .none } : Cell) = H1
  have z1 : H1.size = H.size + 1 := by rw [← hH1, Array.size_push]
  have e1 : H1[H.size]? = some (arrV cA n.toNatClampNeg (fun _ => .null)) := by rw [← hH1, Array.getElem?_push_size, ← arrV_new]
  have o1 : ∀ q : Nat, q < H.size → H1[q]? = H[q]? := fun q hq => by rw [← hH1, Array.getElem?_push, if_neg (Nat.ne_of_lt hq)]
  exact kk H.size H1 (hS.new hno (show H1[H.size]? = some (vp_cell _ _) by rw [vp_cell_q]; exact e1) z1 o1 hA)
theorem r_newa (hexec : p.tables.exec = Jvm.exec) (hb : c.code = cc) {atype : ArrayType} {t0 : Nat} {cA : ClassId} {ty : FieldType} (harr : (Cond.arrayClass (newarray.typeOf atype)).before args s = true) (hty : newarray.typeOf atype = ty) (hK : va_K D vwCl tys s) (ht : tys[t0]? = some (cA, ty)) (hS : rS D A H0 Cm ad H locs) (hA : ∀ q : Nat, H0.size ≤ q → A q) (k0 i0 : Nat) (hno : Cm k0 i0 = none)
    {n : Int32} {N' : Nat} {a0 : vp_A} (ha : ∀ cA : ClassId, vp_cell cA a0 = arrV cA N' (fun _ => defaultValue ty)) (hn : ¬ n < 0) (hN : n.toNatClampNeg = N') (hbytes : N' * componentBytes ty ≤ 536870912) (hcells : cells + 1 ≤ R.cells) (hslots : slots + N' ≤ R.slots) (hdg : decode cc pc = .ok (.newarray atype, 2))
    (kk : ∀ (q : Nat) (H1 : Heap), rS D A H0 (ru Cm k0 i0 (some (.inl (cA, a0)))) (ru ad k0 i0 q) H1 locs →
      W p l e R s m args below meth c H1 locs (cells + 1) (slots + N') Q (F0 m (pc + 2) ls (.ref q :: rest))) : W p l e R s m args below meth c H locs cells slots Q (F0 m pc ls (.int n :: rest)) := by
  subst hty
  refine va_newaK hexec hb harr rfl hdg rfl hn hN hbytes hcells hslots rfl fun H1 cA1 e1 z1 o1 hAr hNm => ?_
  have h4 := (hK.2 t0 _ ht).2
  have h5 : s.vm.findClass ("[" ++ (newarray.typeOf atype).toString) = some cA := by cases atype <;> exact h4
  cases Option.some.inj (hNm.symm.trans h5)
  exact kk H.size H1 (hS.new hno (show H1[H.size]? = some (vp_cell _ _) by rw [ha]; exact e1) z1 o1 hA)
end RW
