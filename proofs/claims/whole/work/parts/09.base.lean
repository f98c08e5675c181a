/-! rows that the walks share: pure calls, loops, a top that is renamed; rooms by depth -/
def rmP (n : Nat) : Room := { frames := n, cells := 0, slots := 0, locals := 64 * n }
def rmM (n c s : Nat) : Room := { frames := n, cells := c, slots := s, locals := 64 * n }
def rPure (C : rC) (ad : rA) (r : Value) : Option Value → rC → rA → Prop := fun v C' ad' => v = some r ∧ C = C' ∧ ad = ad'
def rVoid (P : rC → rA → Prop) : Option Value → rC → rA → Prop := fun v C' ad' => v = none ∧ P C' ad'
def rRet (P : Value → rC → rA → Prop) : Option Value → rC → rA → Prop := fun v C' ad' => ∃ r, v = some r ∧ P r C' ad'
section RB
variable {p : Program} {l : Launch} {e : Env} {R : Room} {s : State} {m : MethodId} {args : Array Value} {below : List Frame} {meth : Method} {c : Code} {H : Heap} {locs : List Loc} {cells slots : Nat} {Q : State → Prop}
variable {pc : Nat} {ls : Array Slot} {rest : List Value} {G : rG} {A : Nat → Prop} {C : rC} {ad : rA}
theorem r_kp {r : Value} (kk : ∀ (H1 : Heap) (locs1 : List Loc), rS G.1 A s.heap C ad H1 locs1 → W p l e R s m args below meth c H1 locs1 cells slots Q (F0 m pc ls (r :: rest))) : ∀ (v : Option Value) (C' : rC) (ad' : rA) (H1 : Heap) (locs1 : List Loc), rPure C ad r v C' ad' → rS G.1 A s.heap C' ad' H1 locs1 → W p l e R s m args below meth c H1 locs1 (cells + 0) (slots + 0) Q (F0 m pc ls (v.toList ++ rest)) := by
  intro v C' ad' H1 locs1 h hS
  obtain ⟨rfl, rfl, rfl⟩ := h
  exact kk H1 locs1 hS
theorem r_kv {P : rC → rA → Prop} {mc ms : Nat} (kk : ∀ (C' : rC) (ad' : rA) (H1 : Heap) (locs1 : List Loc), P C' ad' → rS G.1 A s.heap C' ad' H1 locs1 → W p l e R s m args below meth c H1 locs1 (cells + mc) (slots + ms) Q (F0 m pc ls rest)) : ∀ (v : Option Value) (C' : rC) (ad' : rA) (H1 : Heap) (locs1 : List Loc), rVoid P v C' ad' → rS G.1 A s.heap C' ad' H1 locs1 → W p l e R s m args below meth c H1 locs1 (cells + mc) (slots + ms) Q (F0 m pc ls (v.toList ++ rest)) := by
  intro v C' ad' H1 locs1 h hS
  obtain ⟨rfl, hP⟩ := h
  exact kk C' ad' H1 locs1 hP hS
theorem r_kr {P : Value → rC → rA → Prop} {mc ms : Nat} (kk : ∀ (r : Value) (C' : rC) (ad' : rA) (H1 : Heap) (locs1 : List Loc), P r C' ad' → rS G.1 A s.heap C' ad' H1 locs1 → W p l e R s m args below meth c H1 locs1 (cells + mc) (slots + ms) Q (F0 m pc ls (r :: rest))) : ∀ (v : Option Value) (C' : rC) (ad' : rA) (H1 : Heap) (locs1 : List Loc), rRet P v C' ad' → rS G.1 A s.heap C' ad' H1 locs1 → W p l e R s m args below meth c H1 locs1 (cells + mc) (slots + ms) Q (F0 m pc ls (v.toList ++ rest)) := by
  intro v C' ad' H1 locs1 h hS
  obtain ⟨r, rfl, hP⟩ := h
  exact kk r C' ad' H1 locs1 hP hS
theorem r_top {x y : Int32} (h : x = y) (k : W p l e R s m args below meth c H locs cells slots Q (F0 m pc ls (.int y :: rest))) : W p l e R s m args below meth c H locs cells slots Q (F0 m pc ls (.int x :: rest)) := by
  subst h
  exact k
theorem r_topv {x y : Value} (h : x = y) (k : W p l e R s m args below meth c H locs cells slots Q (F0 m pc ls (y :: rest))) : W p l e R s m args below meth c H locs cells slots Q (F0 m pc ls (x :: rest)) := by
  subst h
  exact k
theorem r_loop {σ : Type} (μ : σ → Nat) (I : σ → Heap → List Loc → Array Slot → Prop) (cs sl : σ → Nat) (body : ∀ x, (∀ y, μ y < μ x → ∀ (H : Heap) (locs : List Loc) (ls : Array Slot), I y H locs ls → W p l e R s m args below meth c H locs (cs y) (sl y) Q (F0 m pc ls [])) → ∀ (H : Heap) (locs : List Loc) (ls : Array Slot), I x H locs ls → W p l e R s m args below meth c H locs (cs x) (sl x) Q (F0 m pc ls [])) (x0 : σ) (hc : cells ≤ cs x0) (hs : slots ≤ sl x0) (h0 : I x0 H locs ls) : W p l e R s m args below meth c H locs cells slots Q (F0 m pc ls []) := by
  have key : ∀ (n : Nat) (x : σ), μ x < n → ∀ (H : Heap) (locs : List Loc) (ls : Array Slot), I x H locs ls → W p l e R s m args below meth c H locs (cs x) (sl x) Q (F0 m pc ls []) := by
    intro n
    induction n with
    | zero => intro x hx; exact absurd hx (Nat.not_lt_zero _)
    | succ n ih => intro x hx H locs ls hI; exact body x (fun y hy => ih y (by omega)) H locs ls hI
  exact W.widen hc hs (key (μ x0 + 1) x0 (Nat.lt_succ_self _) H locs ls h0)
end RB
