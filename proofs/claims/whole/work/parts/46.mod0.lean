/-! THE MODEL'S WORLD (printed by wip/whole/gen/mod0.py): its object and its arrays, as the tables T say; th: thrown, rg: its ring -/
abbrev tA (T : rTab) (a : Nat) : Nat → Int32 := fun i => nI (T a i)
abbrev mA (G : rG) (n : Nat) (f : Nat → Int32) : Option va_E := some (.inl (G.2.1 0, n, .inl f))
def mO (T : rTab) (th : Int32) (ad : rA) : va_E := .inr (6, [.int (nI (T 0 0)), .ref (ad 31 0), .ref (ad 32 0), .ref (ad 33 0), .ref (ad 34 0), .int (nI (T 0 1)), .ref (ad 35 0), .ref (ad 36 0), .ref (ad 37 0), .ref (ad 38 0), .ref (ad 39 0), .ref (ad 40 0), .ref (ad 41 0), .int (nI (T 0 2)), .ref (ad 42 0), .ref (ad 43 0), .ref (ad 44 0), .int th])
def mC (G : rG) (T : rTab) (th : Int32) (rg : Nat → Int32) (C : rC) (ad : rA) : rC := fun k i => if i = 0 then (if k = 30 then some (mO T th ad) else if k = 31 then mA G 16 (tA T 1) else if k = 32 then mA G 16 (tA T 2) else if k = 33 then mA G 16 (tA T 3) else if k = 34 then mA G 16 (tA T 4) else if k = 35 then mA G 150 (tA T 5) else if k = 36 then mA G 150 (tA T 6) else if k = 37 then mA G 150 (tA T 7) else if k = 38 then mA G 150 (tA T 8) else if k = 39 then mA G 150 (tA T 9) else if k = 40 then mA G 8 (tA T 10) else if k = 41 then mA G 8 (tA T 11) else if k = 42 then mA G 60 (tA T 12) else if k = 43 then mA G 240 (tA T 13) else if k = 44 then mA G 4 rg else C k i) else C k i
section MC
variable {G : rG} {T T' : rTab} {th th' : Int32} {rg rg' : Nat → Int32} {C C' : rC} {ad ad' : rA}
theorem mC_30 : mC G T th rg C ad 30 0 = some (mO T th ad) := by
  unfold mC
  rw [if_pos rfl, if_pos rfl]
theorem mC_31 : mC G T th rg C ad 31 0 = mA G 16 (tA T 1) := by
  unfold mC
  rw [if_pos rfl, if_neg (by decide), if_pos rfl]
theorem mC_32 : mC G T th rg C ad 32 0 = mA G 16 (tA T 2) := by
  unfold mC
  rw [if_pos rfl, if_neg (by decide), if_neg (by decide), if_pos rfl]
theorem mC_33 : mC G T th rg C ad 33 0 = mA G 16 (tA T 3) := by
  unfold mC
  rw [if_pos rfl, if_neg (by decide), if_neg (by decide), if_neg (by decide), if_pos rfl]
theorem mC_34 : mC G T th rg C ad 34 0 = mA G 16 (tA T 4) := by
  unfold mC
  rw [if_pos rfl, if_neg (by decide), if_neg (by decide), if_neg (by decide), if_neg (by decide), if_pos rfl]
theorem mC_35 : mC G T th rg C ad 35 0 = mA G 150 (tA T 5) := by
  unfold mC
  rw [if_pos rfl, if_neg (by decide), if_neg (by decide), if_neg (by decide), if_neg (by decide), if_neg (by decide), if_pos rfl]
theorem mC_36 : mC G T th rg C ad 36 0 = mA G 150 (tA T 6) := by
  unfold mC
  rw [if_pos rfl, if_neg (by decide), if_neg (by decide), if_neg (by decide), if_neg (by decide), if_neg (by decide), if_neg (by decide), if_pos rfl]
theorem mC_37 : mC G T th rg C ad 37 0 = mA G 150 (tA T 7) := by
  unfold mC
  rw [if_pos rfl, if_neg (by decide), if_neg (by decide), if_neg (by decide), if_neg (by decide), if_neg (by decide), if_neg (by decide), if_neg (by decide), if_pos rfl]
theorem mC_38 : mC G T th rg C ad 38 0 = mA G 150 (tA T 8) := by
  unfold mC
  rw [if_pos rfl, if_neg (by decide), if_neg (by decide), if_neg (by decide), if_neg (by decide), if_neg (by decide), if_neg (by decide), if_neg (by decide), if_neg (by decide), if_pos rfl]
theorem mC_39 : mC G T th rg C ad 39 0 = mA G 150 (tA T 9) := by
  unfold mC
  rw [if_pos rfl, if_neg (by decide), if_neg (by decide), if_neg (by decide), if_neg (by decide), if_neg (by decide), if_neg (by decide), if_neg (by decide), if_neg (by decide), if_neg (by decide), if_pos rfl]
theorem mC_40 : mC G T th rg C ad 40 0 = mA G 8 (tA T 10) := by
  unfold mC
  rw [if_pos rfl, if_neg (by decide), if_neg (by decide), if_neg (by decide), if_neg (by decide), if_neg (by decide), if_neg (by decide), if_neg (by decide), if_neg (by decide), if_neg (by decide), if_neg (by decide), if_pos rfl]
theorem mC_41 : mC G T th rg C ad 41 0 = mA G 8 (tA T 11) := by
  unfold mC
  rw [if_pos rfl, if_neg (by decide), if_neg (by decide), if_neg (by decide), if_neg (by decide), if_neg (by decide), if_neg (by decide), if_neg (by decide), if_neg (by decide), if_neg (by decide), if_neg (by decide), if_neg (by decide), if_pos rfl]
theorem mC_42 : mC G T th rg C ad 42 0 = mA G 60 (tA T 12) := by
  unfold mC
  rw [if_pos rfl, if_neg (by decide), if_neg (by decide), if_neg (by decide), if_neg (by decide), if_neg (by decide), if_neg (by decide), if_neg (by decide), if_neg (by decide), if_neg (by decide), if_neg (by decide), if_neg (by decide), if_neg (by decide), if_pos rfl]
theorem mC_43 : mC G T th rg C ad 43 0 = mA G 240 (tA T 13) := by
  unfold mC
  rw [if_pos rfl, if_neg (by decide), if_neg (by decide), if_neg (by decide), if_neg (by decide), if_neg (by decide), if_neg (by decide), if_neg (by decide), if_neg (by decide), if_neg (by decide), if_neg (by decide), if_neg (by decide), if_neg (by decide), if_neg (by decide), if_pos rfl]
theorem mC_44 : mC G T th rg C ad 44 0 = mA G 4 rg := by
  unfold mC
  rw [if_pos rfl, if_neg (by decide), if_neg (by decide), if_neg (by decide), if_neg (by decide), if_neg (by decide), if_neg (by decide), if_neg (by decide), if_neg (by decide), if_neg (by decide), if_neg (by decide), if_neg (by decide), if_neg (by decide), if_neg (by decide), if_neg (by decide), if_pos rfl]
theorem mC_n {k i : Nat} (h : k < 30 ∨ 45 ≤ k ∨ i ≠ 0) : mC G T th rg C ad k i = C k i := by
  unfold mC
  by_cases e : i = 0
  · rw [if_pos e, if_neg (by omega), if_neg (by omega), if_neg (by omega), if_neg (by omega), if_neg (by omega), if_neg (by omega), if_neg (by omega), if_neg (by omega), if_neg (by omega), if_neg (by omega), if_neg (by omega), if_neg (by omega), if_neg (by omega), if_neg (by omega), if_neg (by omega)]
  · rw [if_neg e]
theorem mC_ext {D : rC} (h30 : D 30 0 = some (mO T th ad)) (h31 : D 31 0 = mA G 16 (tA T 1)) (h32 : D 32 0 = mA G 16 (tA T 2)) (h33 : D 33 0 = mA G 16 (tA T 3)) (h34 : D 34 0 = mA G 16 (tA T 4)) (h35 : D 35 0 = mA G 150 (tA T 5)) (h36 : D 36 0 = mA G 150 (tA T 6)) (h37 : D 37 0 = mA G 150 (tA T 7)) (h38 : D 38 0 = mA G 150 (tA T 8)) (h39 : D 39 0 = mA G 150 (tA T 9)) (h40 : D 40 0 = mA G 8 (tA T 10)) (h41 : D 41 0 = mA G 8 (tA T 11)) (h42 : D 42 0 = mA G 60 (tA T 12)) (h43 : D 43 0 = mA G 240 (tA T 13)) (h44 : D 44 0 = mA G 4 rg) (hN : ∀ k i, k < 30 ∨ 45 ≤ k ∨ i ≠ 0 → D k i = C k i) : D = mC G T th rg C ad := by
  funext k i
  by_cases h : k < 30 ∨ 45 ≤ k ∨ i ≠ 0
  · rw [hN k i h, mC_n h]
  · obtain rfl : i = 0 := by omega
    rcases (show k = 30 ∨ k = 31 ∨ k = 32 ∨ k = 33 ∨ k = 34 ∨ k = 35 ∨ k = 36 ∨ k = 37 ∨ k = 38 ∨ k = 39 ∨ k = 40 ∨ k = 41 ∨ k = 42 ∨ k = 43 ∨ k = 44 by omega) with rfl | rfl | rfl | rfl | rfl | rfl | rfl | rfl | rfl | rfl | rfl | rfl | rfl | rfl | rfl
    · rw [h30, mC_30]
    · rw [h31, mC_31]
    · rw [h32, mC_32]
    · rw [h33, mC_33]
    · rw [h34, mC_34]
    · rw [h35, mC_35]
    · rw [h36, mC_36]
    · rw [h37, mC_37]
    · rw [h38, mC_38]
    · rw [h39, mC_39]
    · rw [h40, mC_40]
    · rw [h41, mC_41]
    · rw [h42, mC_42]
    · rw [h43, mC_43]
    · rw [h44, mC_44]
/-- the tables that the model looks at -/
def mEq (T T' : rTab) : Prop := ∀ a b, a ≠ 20 → a ≠ 21 → T' a b = T a b
theorem mEq.rf : mEq T T := fun _ _ _ _ => rfl
theorem mEq.tr {T1 T2 T3 : rTab} (h : mEq T1 T2) (h2 : mEq T2 T3) : mEq T1 T3 := fun a b h20 h21 => (h2 a b h20 h21).trans (h a b h20 h21)
theorem mEq.sy {T1 T2 : rTab} (h : mEq T1 T2) : mEq T2 T1 := fun a b h20 h21 => (h a b h20 h21).symm
theorem mC_eq (h : mEq T T') : mC G T th rg C ad = mC G T' th rg C ad := by
  have k : ∀ a, a ≠ 20 → a ≠ 21 → T' a = T a := fun a h1 h2 => funext fun b => h a b h1 h2
  have ka : ∀ a, a ≠ 20 → a ≠ 21 → tA T' a = tA T a := fun a h1 h2 => funext fun b => congrArg nI (h a b h1 h2)
  unfold mC mO
  rw [k 0 (by decide) (by decide), ka 1 (by decide) (by decide), ka 2 (by decide) (by decide), ka 3 (by decide) (by decide), ka 4 (by decide) (by decide), ka 5 (by decide) (by decide), ka 6 (by decide) (by decide), ka 7 (by decide) (by decide), ka 8 (by decide) (by decide), ka 9 (by decide) (by decide), ka 10 (by decide) (by decide), ka 11 (by decide) (by decide), ka 12 (by decide) (by decide), ka 13 (by decide) (by decide)]
theorem mC_tr {C2 : rC} (h : ∀ k i, k < 30 ∨ 45 ≤ k ∨ i ≠ 0 → C2 k i = C k i) : mC G T th rg C2 ad = mC G T th rg C ad := mC_ext mC_30 mC_31 mC_32 mC_33 mC_34 mC_35 mC_36 mC_37 mC_38 mC_39 mC_40 mC_41 mC_42 mC_43 mC_44 (fun k i hk => (mC_n hk).trans (h k i hk))
theorem mC_id : mC G T th rg (mC G T' th' rg' C ad') ad = mC G T th rg C ad := mC_tr fun k i hk => mC_n hk
theorem tA_at {a i : Nat} (h : i < 2 ^ 31) : tA T a (nI i).toNatClampNeg = nI (T a i) := by rw [nI_clamp h]
theorem tA_put {a i v : Nat} (h : i < 2 ^ 31) : upd (tA T a) (nI i).toNatClampNeg (nI v) = tA (ru T a i v) a := by
  rw [nI_clamp h]
  funext j
  by_cases e : j = i
  · rw [e, pk_us]
    show _ = nI (ru T a i v a i)
    rw [ru_e]
  · rw [pk_un e]
    show _ = nI (ru T a i v a j)
    rw [ru_i e]
theorem tA_k {a k i v : Nat} (h : a ≠ k) : tA (ru T k i v) a = tA T a := by
  funext j
  show nI (ru T k i v a j) = _
  rw [ru_k h]
theorem mC_p31 {i v : Nat} : ru (mC G T th rg C ad) 31 0 (mA G 16 (tA (ru T 1 i v) 1)) = mC G (ru T 1 i v) th rg C ad := mC_ext ((ru_k (by decide)).trans (mC_30.trans (by unfold mO; rw [ru_k (k := 1) (by decide), ru_k (k := 1) (by decide), ru_k (k := 1) (by decide)]))) ru_e ((ru_k (by decide)).trans (mC_32.trans (by rw [tA_k (by decide)]))) ((ru_k (by decide)).trans (mC_33.trans (by rw [tA_k (by decide)]))) ((ru_k (by decide)).trans (mC_34.trans (by rw [tA_k (by decide)]))) ((ru_k (by decide)).trans (mC_35.trans (by rw [tA_k (by decide)]))) ((ru_k (by decide)).trans (mC_36.trans (by rw [tA_k (by decide)]))) ((ru_k (by decide)).trans (mC_37.trans (by rw [tA_k (by decide)]))) ((ru_k (by decide)).trans (mC_38.trans (by rw [tA_k (by decide)]))) ((ru_k (by decide)).trans (mC_39.trans (by rw [tA_k (by decide)]))) ((ru_k (by decide)).trans (mC_40.trans (by rw [tA_k (by decide)]))) ((ru_k (by decide)).trans (mC_41.trans (by rw [tA_k (by decide)]))) ((ru_k (by decide)).trans (mC_42.trans (by rw [tA_k (by decide)]))) ((ru_k (by decide)).trans (mC_43.trans (by rw [tA_k (by decide)]))) ((ru_k (by decide)).trans mC_44) (fun a b h => (ru_n (fun z => by omega)).trans (mC_n h))
theorem mC_p32 {i v : Nat} : ru (mC G T th rg C ad) 32 0 (mA G 16 (tA (ru T 2 i v) 2)) = mC G (ru T 2 i v) th rg C ad := mC_ext ((ru_k (by decide)).trans (mC_30.trans (by unfold mO; rw [ru_k (k := 2) (by decide), ru_k (k := 2) (by decide), ru_k (k := 2) (by decide)]))) ((ru_k (by decide)).trans (mC_31.trans (by rw [tA_k (by decide)]))) ru_e ((ru_k (by decide)).trans (mC_33.trans (by rw [tA_k (by decide)]))) ((ru_k (by decide)).trans (mC_34.trans (by rw [tA_k (by decide)]))) ((ru_k (by decide)).trans (mC_35.trans (by rw [tA_k (by decide)]))) ((ru_k (by decide)).trans (mC_36.trans (by rw [tA_k (by decide)]))) ((ru_k (by decide)).trans (mC_37.trans (by rw [tA_k (by decide)]))) ((ru_k (by decide)).trans (mC_38.trans (by rw [tA_k (by decide)]))) ((ru_k (by decide)).trans (mC_39.trans (by rw [tA_k (by decide)]))) ((ru_k (by decide)).trans (mC_40.trans (by rw [tA_k (by decide)]))) ((ru_k (by decide)).trans (mC_41.trans (by rw [tA_k (by decide)]))) ((ru_k (by decide)).trans (mC_42.trans (by rw [tA_k (by decide)]))) ((ru_k (by decide)).trans (mC_43.trans (by rw [tA_k (by decide)]))) ((ru_k (by decide)).trans mC_44) (fun a b h => (ru_n (fun z => by omega)).trans (mC_n h))
theorem mC_p33 {i v : Nat} : ru (mC G T th rg C ad) 33 0 (mA G 16 (tA (ru T 3 i v) 3)) = mC G (ru T 3 i v) th rg C ad := mC_ext ((ru_k (by decide)).trans (mC_30.trans (by unfold mO; rw [ru_k (k := 3) (by decide), ru_k (k := 3) (by decide), ru_k (k := 3) (by decide)]))) ((ru_k (by decide)).trans (mC_31.trans (by rw [tA_k (by decide)]))) ((ru_k (by decide)).trans (mC_32.trans (by rw [tA_k (by decide)]))) ru_e ((ru_k (by decide)).trans (mC_34.trans (by rw [tA_k (by decide)]))) ((ru_k (by decide)).trans (mC_35.trans (by rw [tA_k (by decide)]))) ((ru_k (by decide)).trans (mC_36.trans (by rw [tA_k (by decide)]))) ((ru_k (by decide)).trans (mC_37.trans (by rw [tA_k (by decide)]))) ((ru_k (by decide)).trans (mC_38.trans (by rw [tA_k (by decide)]))) ((ru_k (by decide)).trans (mC_39.trans (by rw [tA_k (by decide)]))) ((ru_k (by decide)).trans (mC_40.trans (by rw [tA_k (by decide)]))) ((ru_k (by decide)).trans (mC_41.trans (by rw [tA_k (by decide)]))) ((ru_k (by decide)).trans (mC_42.trans (by rw [tA_k (by decide)]))) ((ru_k (by decide)).trans (mC_43.trans (by rw [tA_k (by decide)]))) ((ru_k (by decide)).trans mC_44) (fun a b h => (ru_n (fun z => by omega)).trans (mC_n h))
theorem mC_p34 {i v : Nat} : ru (mC G T th rg C ad) 34 0 (mA G 16 (tA (ru T 4 i v) 4)) = mC G (ru T 4 i v) th rg C ad := mC_ext ((ru_k (by decide)).trans (mC_30.trans (by unfold mO; rw [ru_k (k := 4) (by decide), ru_k (k := 4) (by decide), ru_k (k := 4) (by decide)]))) ((ru_k (by decide)).trans (mC_31.trans (by rw [tA_k (by decide)]))) ((ru_k (by decide)).trans (mC_32.trans (by rw [tA_k (by decide)]))) ((ru_k (by decide)).trans (mC_33.trans (by rw [tA_k (by decide)]))) ru_e ((ru_k (by decide)).trans (mC_35.trans (by rw [tA_k (by decide)]))) ((ru_k (by decide)).trans (mC_36.trans (by rw [tA_k (by decide)]))) ((ru_k (by decide)).trans (mC_37.trans (by rw [tA_k (by decide)]))) ((ru_k (by decide)).trans (mC_38.trans (by rw [tA_k (by decide)]))) ((ru_k (by decide)).trans (mC_39.trans (by rw [tA_k (by decide)]))) ((ru_k (by decide)).trans (mC_40.trans (by rw [tA_k (by decide)]))) ((ru_k (by decide)).trans (mC_41.trans (by rw [tA_k (by decide)]))) ((ru_k (by decide)).trans (mC_42.trans (by rw [tA_k (by decide)]))) ((ru_k (by decide)).trans (mC_43.trans (by rw [tA_k (by decide)]))) ((ru_k (by decide)).trans mC_44) (fun a b h => (ru_n (fun z => by omega)).trans (mC_n h))
theorem mC_p35 {i v : Nat} : ru (mC G T th rg C ad) 35 0 (mA G 150 (tA (ru T 5 i v) 5)) = mC G (ru T 5 i v) th rg C ad := mC_ext ((ru_k (by decide)).trans (mC_30.trans (by unfold mO; rw [ru_k (k := 5) (by decide), ru_k (k := 5) (by decide), ru_k (k := 5) (by decide)]))) ((ru_k (by decide)).trans (mC_31.trans (by rw [tA_k (by decide)]))) ((ru_k (by decide)).trans (mC_32.trans (by rw [tA_k (by decide)]))) ((ru_k (by decide)).trans (mC_33.trans (by rw [tA_k (by decide)]))) ((ru_k (by decide)).trans (mC_34.trans (by rw [tA_k (by decide)]))) ru_e ((ru_k (by decide)).trans (mC_36.trans (by rw [tA_k (by decide)]))) ((ru_k (by decide)).trans (mC_37.trans (by rw [tA_k (by decide)]))) ((ru_k (by decide)).trans (mC_38.trans (by rw [tA_k (by decide)]))) ((ru_k (by decide)).trans (mC_39.trans (by rw [tA_k (by decide)]))) ((ru_k (by decide)).trans (mC_40.trans (by rw [tA_k (by decide)]))) ((ru_k (by decide)).trans (mC_41.trans (by rw [tA_k (by decide)]))) ((ru_k (by decide)).trans (mC_42.trans (by rw [tA_k (by decide)]))) ((ru_k (by decide)).trans (mC_43.trans (by rw [tA_k (by decide)]))) ((ru_k (by decide)).trans mC_44) (fun a b h => (ru_n (fun z => by omega)).trans (mC_n h))
theorem mC_p36 {i v : Nat} : ru (mC G T th rg C ad) 36 0 (mA G 150 (tA (ru T 6 i v) 6)) = mC G (ru T 6 i v) th rg C ad := mC_ext ((ru_k (by decide)).trans (mC_30.trans (by unfold mO; rw [ru_k (k := 6) (by decide), ru_k (k := 6) (by decide), ru_k (k := 6) (by decide)]))) ((ru_k (by decide)).trans (mC_31.trans (by rw [tA_k (by decide)]))) ((ru_k (by decide)).trans (mC_32.trans (by rw [tA_k (by decide)]))) ((ru_k (by decide)).trans (mC_33.trans (by rw [tA_k (by decide)]))) ((ru_k (by decide)).trans (mC_34.trans (by rw [tA_k (by decide)]))) ((ru_k (by decide)).trans (mC_35.trans (by rw [tA_k (by decide)]))) ru_e ((ru_k (by decide)).trans (mC_37.trans (by rw [tA_k (by decide)]))) ((ru_k (by decide)).trans (mC_38.trans (by rw [tA_k (by decide)]))) ((ru_k (by decide)).trans (mC_39.trans (by rw [tA_k (by decide)]))) ((ru_k (by decide)).trans (mC_40.trans (by rw [tA_k (by decide)]))) ((ru_k (by decide)).trans (mC_41.trans (by rw [tA_k (by decide)]))) ((ru_k (by decide)).trans (mC_42.trans (by rw [tA_k (by decide)]))) ((ru_k (by decide)).trans (mC_43.trans (by rw [tA_k (by decide)]))) ((ru_k (by decide)).trans mC_44) (fun a b h => (ru_n (fun z => by omega)).trans (mC_n h))
theorem mC_p37 {i v : Nat} : ru (mC G T th rg C ad) 37 0 (mA G 150 (tA (ru T 7 i v) 7)) = mC G (ru T 7 i v) th rg C ad := mC_ext ((ru_k (by decide)).trans (mC_30.trans (by unfold mO; rw [ru_k (k := 7) (by decide), ru_k (k := 7) (by decide), ru_k (k := 7) (by decide)]))) ((ru_k (by decide)).trans (mC_31.trans (by rw [tA_k (by decide)]))) ((ru_k (by decide)).trans (mC_32.trans (by rw [tA_k (by decide)]))) ((ru_k (by decide)).trans (mC_33.trans (by rw [tA_k (by decide)]))) ((ru_k (by decide)).trans (mC_34.trans (by rw [tA_k (by decide)]))) ((ru_k (by decide)).trans (mC_35.trans (by rw [tA_k (by decide)]))) ((ru_k (by decide)).trans (mC_36.trans (by rw [tA_k (by decide)]))) ru_e ((ru_k (by decide)).trans (mC_38.trans (by rw [tA_k (by decide)]))) ((ru_k (by decide)).trans (mC_39.trans (by rw [tA_k (by decide)]))) ((ru_k (by decide)).trans (mC_40.trans (by rw [tA_k (by decide)]))) ((ru_k (by decide)).trans (mC_41.trans (by rw [tA_k (by decide)]))) ((ru_k (by decide)).trans (mC_42.trans (by rw [tA_k (by decide)]))) ((ru_k (by decide)).trans (mC_43.trans (by rw [tA_k (by decide)]))) ((ru_k (by decide)).trans mC_44) (fun a b h => (ru_n (fun z => by omega)).trans (mC_n h))
theorem mC_p38 {i v : Nat} : ru (mC G T th rg C ad) 38 0 (mA G 150 (tA (ru T 8 i v) 8)) = mC G (ru T 8 i v) th rg C ad := mC_ext ((ru_k (by decide)).trans (mC_30.trans (by unfold mO; rw [ru_k (k := 8) (by decide), ru_k (k := 8) (by decide), ru_k (k := 8) (by decide)]))) ((ru_k (by decide)).trans (mC_31.trans (by rw [tA_k (by decide)]))) ((ru_k (by decide)).trans (mC_32.trans (by rw [tA_k (by decide)]))) ((ru_k (by decide)).trans (mC_33.trans (by rw [tA_k (by decide)]))) ((ru_k (by decide)).trans (mC_34.trans (by rw [tA_k (by decide)]))) ((ru_k (by decide)).trans (mC_35.trans (by rw [tA_k (by decide)]))) ((ru_k (by decide)).trans (mC_36.trans (by rw [tA_k (by decide)]))) ((ru_k (by decide)).trans (mC_37.trans (by rw [tA_k (by decide)]))) ru_e ((ru_k (by decide)).trans (mC_39.trans (by rw [tA_k (by decide)]))) ((ru_k (by decide)).trans (mC_40.trans (by rw [tA_k (by decide)]))) ((ru_k (by decide)).trans (mC_41.trans (by rw [tA_k (by decide)]))) ((ru_k (by decide)).trans (mC_42.trans (by rw [tA_k (by decide)]))) ((ru_k (by decide)).trans (mC_43.trans (by rw [tA_k (by decide)]))) ((ru_k (by decide)).trans mC_44) (fun a b h => (ru_n (fun z => by omega)).trans (mC_n h))
theorem mC_p39 {i v : Nat} : ru (mC G T th rg C ad) 39 0 (mA G 150 (tA (ru T 9 i v) 9)) = mC G (ru T 9 i v) th rg C ad := mC_ext ((ru_k (by decide)).trans (mC_30.trans (by unfold mO; rw [ru_k (k := 9) (by decide), ru_k (k := 9) (by decide), ru_k (k := 9) (by decide)]))) ((ru_k (by decide)).trans (mC_31.trans (by rw [tA_k (by decide)]))) ((ru_k (by decide)).trans (mC_32.trans (by rw [tA_k (by decide)]))) ((ru_k (by decide)).trans (mC_33.trans (by rw [tA_k (by decide)]))) ((ru_k (by decide)).trans (mC_34.trans (by rw [tA_k (by decide)]))) ((ru_k (by decide)).trans (mC_35.trans (by rw [tA_k (by decide)]))) ((ru_k (by decide)).trans (mC_36.trans (by rw [tA_k (by decide)]))) ((ru_k (by decide)).trans (mC_37.trans (by rw [tA_k (by decide)]))) ((ru_k (by decide)).trans (mC_38.trans (by rw [tA_k (by decide)]))) ru_e ((ru_k (by decide)).trans (mC_40.trans (by rw [tA_k (by decide)]))) ((ru_k (by decide)).trans (mC_41.trans (by rw [tA_k (by decide)]))) ((ru_k (by decide)).trans (mC_42.trans (by rw [tA_k (by decide)]))) ((ru_k (by decide)).trans (mC_43.trans (by rw [tA_k (by decide)]))) ((ru_k (by decide)).trans mC_44) (fun a b h => (ru_n (fun z => by omega)).trans (mC_n h))
theorem mC_p40 {i v : Nat} : ru (mC G T th rg C ad) 40 0 (mA G 8 (tA (ru T 10 i v) 10)) = mC G (ru T 10 i v) th rg C ad := mC_ext ((ru_k (by decide)).trans (mC_30.trans (by unfold mO; rw [ru_k (k := 10) (by decide), ru_k (k := 10) (by decide), ru_k (k := 10) (by decide)]))) ((ru_k (by decide)).trans (mC_31.trans (by rw [tA_k (by decide)]))) ((ru_k (by decide)).trans (mC_32.trans (by rw [tA_k (by decide)]))) ((ru_k (by decide)).trans (mC_33.trans (by rw [tA_k (by decide)]))) ((ru_k (by decide)).trans (mC_34.trans (by rw [tA_k (by decide)]))) ((ru_k (by decide)).trans (mC_35.trans (by rw [tA_k (by decide)]))) ((ru_k (by decide)).trans (mC_36.trans (by rw [tA_k (by decide)]))) ((ru_k (by decide)).trans (mC_37.trans (by rw [tA_k (by decide)]))) ((ru_k (by decide)).trans (mC_38.trans (by rw [tA_k (by decide)]))) ((ru_k (by decide)).trans (mC_39.trans (by rw [tA_k (by decide)]))) ru_e ((ru_k (by decide)).trans (mC_41.trans (by rw [tA_k (by decide)]))) ((ru_k (by decide)).trans (mC_42.trans (by rw [tA_k (by decide)]))) ((ru_k (by decide)).trans (mC_43.trans (by rw [tA_k (by decide)]))) ((ru_k (by decide)).trans mC_44) (fun a b h => (ru_n (fun z => by omega)).trans (mC_n h))
theorem mC_p41 {i v : Nat} : ru (mC G T th rg C ad) 41 0 (mA G 8 (tA (ru T 11 i v) 11)) = mC G (ru T 11 i v) th rg C ad := mC_ext ((ru_k (by decide)).trans (mC_30.trans (by unfold mO; rw [ru_k (k := 11) (by decide), ru_k (k := 11) (by decide), ru_k (k := 11) (by decide)]))) ((ru_k (by decide)).trans (mC_31.trans (by rw [tA_k (by decide)]))) ((ru_k (by decide)).trans (mC_32.trans (by rw [tA_k (by decide)]))) ((ru_k (by decide)).trans (mC_33.trans (by rw [tA_k (by decide)]))) ((ru_k (by decide)).trans (mC_34.trans (by rw [tA_k (by decide)]))) ((ru_k (by decide)).trans (mC_35.trans (by rw [tA_k (by decide)]))) ((ru_k (by decide)).trans (mC_36.trans (by rw [tA_k (by decide)]))) ((ru_k (by decide)).trans (mC_37.trans (by rw [tA_k (by decide)]))) ((ru_k (by decide)).trans (mC_38.trans (by rw [tA_k (by decide)]))) ((ru_k (by decide)).trans (mC_39.trans (by rw [tA_k (by decide)]))) ((ru_k (by decide)).trans (mC_40.trans (by rw [tA_k (by decide)]))) ru_e ((ru_k (by decide)).trans (mC_42.trans (by rw [tA_k (by decide)]))) ((ru_k (by decide)).trans (mC_43.trans (by rw [tA_k (by decide)]))) ((ru_k (by decide)).trans mC_44) (fun a b h => (ru_n (fun z => by omega)).trans (mC_n h))
theorem mC_p42 {i v : Nat} : ru (mC G T th rg C ad) 42 0 (mA G 60 (tA (ru T 12 i v) 12)) = mC G (ru T 12 i v) th rg C ad := mC_ext ((ru_k (by decide)).trans (mC_30.trans (by unfold mO; rw [ru_k (k := 12) (by decide), ru_k (k := 12) (by decide), ru_k (k := 12) (by decide)]))) ((ru_k (by decide)).trans (mC_31.trans (by rw [tA_k (by decide)]))) ((ru_k (by decide)).trans (mC_32.trans (by rw [tA_k (by decide)]))) ((ru_k (by decide)).trans (mC_33.trans (by rw [tA_k (by decide)]))) ((ru_k (by decide)).trans (mC_34.trans (by rw [tA_k (by decide)]))) ((ru_k (by decide)).trans (mC_35.trans (by rw [tA_k (by decide)]))) ((ru_k (by decide)).trans (mC_36.trans (by rw [tA_k (by decide)]))) ((ru_k (by decide)).trans (mC_37.trans (by rw [tA_k (by decide)]))) ((ru_k (by decide)).trans (mC_38.trans (by rw [tA_k (by decide)]))) ((ru_k (by decide)).trans (mC_39.trans (by rw [tA_k (by decide)]))) ((ru_k (by decide)).trans (mC_40.trans (by rw [tA_k (by decide)]))) ((ru_k (by decide)).trans (mC_41.trans (by rw [tA_k (by decide)]))) ru_e ((ru_k (by decide)).trans (mC_43.trans (by rw [tA_k (by decide)]))) ((ru_k (by decide)).trans mC_44) (fun a b h => (ru_n (fun z => by omega)).trans (mC_n h))
theorem mC_p43 {i v : Nat} : ru (mC G T th rg C ad) 43 0 (mA G 240 (tA (ru T 13 i v) 13)) = mC G (ru T 13 i v) th rg C ad := mC_ext ((ru_k (by decide)).trans (mC_30.trans (by unfold mO; rw [ru_k (k := 13) (by decide), ru_k (k := 13) (by decide), ru_k (k := 13) (by decide)]))) ((ru_k (by decide)).trans (mC_31.trans (by rw [tA_k (by decide)]))) ((ru_k (by decide)).trans (mC_32.trans (by rw [tA_k (by decide)]))) ((ru_k (by decide)).trans (mC_33.trans (by rw [tA_k (by decide)]))) ((ru_k (by decide)).trans (mC_34.trans (by rw [tA_k (by decide)]))) ((ru_k (by decide)).trans (mC_35.trans (by rw [tA_k (by decide)]))) ((ru_k (by decide)).trans (mC_36.trans (by rw [tA_k (by decide)]))) ((ru_k (by decide)).trans (mC_37.trans (by rw [tA_k (by decide)]))) ((ru_k (by decide)).trans (mC_38.trans (by rw [tA_k (by decide)]))) ((ru_k (by decide)).trans (mC_39.trans (by rw [tA_k (by decide)]))) ((ru_k (by decide)).trans (mC_40.trans (by rw [tA_k (by decide)]))) ((ru_k (by decide)).trans (mC_41.trans (by rw [tA_k (by decide)]))) ((ru_k (by decide)).trans (mC_42.trans (by rw [tA_k (by decide)]))) ru_e ((ru_k (by decide)).trans mC_44) (fun a b h => (ru_n (fun z => by omega)).trans (mC_n h))
theorem mC_p44 {f : Nat → Int32} : ru (mC G T th rg C ad) 44 0 (mA G 4 f) = mC G T th f C ad := mC_ext ((ru_k (by decide)).trans mC_30) ((ru_k (by decide)).trans mC_31) ((ru_k (by decide)).trans mC_32) ((ru_k (by decide)).trans mC_33) ((ru_k (by decide)).trans mC_34) ((ru_k (by decide)).trans mC_35) ((ru_k (by decide)).trans mC_36) ((ru_k (by decide)).trans mC_37) ((ru_k (by decide)).trans mC_38) ((ru_k (by decide)).trans mC_39) ((ru_k (by decide)).trans mC_40) ((ru_k (by decide)).trans mC_41) ((ru_k (by decide)).trans mC_42) ((ru_k (by decide)).trans mC_43) ru_e (fun a b h => (ru_n (fun z => by omega)).trans (mC_n h))
theorem mC_pth {x : Int32} : ru (mC G T th rg C ad) 30 0 (some (.inr (6, [.int (nI (T 0 0)), .ref (ad 31 0), .ref (ad 32 0), .ref (ad 33 0), .ref (ad 34 0), .int (nI (T 0 1)), .ref (ad 35 0), .ref (ad 36 0), .ref (ad 37 0), .ref (ad 38 0), .ref (ad 39 0), .ref (ad 40 0), .ref (ad 41 0), .int (nI (T 0 2)), .ref (ad 42 0), .ref (ad 43 0), .ref (ad 44 0), .int x]))) = mC G T x rg C ad := mC_ext ru_e ((ru_k (by decide)).trans mC_31) ((ru_k (by decide)).trans mC_32) ((ru_k (by decide)).trans mC_33) ((ru_k (by decide)).trans mC_34) ((ru_k (by decide)).trans mC_35) ((ru_k (by decide)).trans mC_36) ((ru_k (by decide)).trans mC_37) ((ru_k (by decide)).trans mC_38) ((ru_k (by decide)).trans mC_39) ((ru_k (by decide)).trans mC_40) ((ru_k (by decide)).trans mC_41) ((ru_k (by decide)).trans mC_42) ((ru_k (by decide)).trans mC_43) ((ru_k (by decide)).trans mC_44) (fun a b h => (ru_n (fun z => by omega)).trans (mC_n h))
theorem mC_pn0 {v : Nat} : ru (mC G T th rg C ad) 30 0 (some (.inr (6, [.int (nI v), .ref (ad 31 0), .ref (ad 32 0), .ref (ad 33 0), .ref (ad 34 0), .int (nI (T 0 1)), .ref (ad 35 0), .ref (ad 36 0), .ref (ad 37 0), .ref (ad 38 0), .ref (ad 39 0), .ref (ad 40 0), .ref (ad 41 0), .int (nI (T 0 2)), .ref (ad 42 0), .ref (ad 43 0), .ref (ad 44 0), .int th]))) = mC G (ru T 0 0 v) th rg C ad := mC_ext (ru_e.trans (by unfold mO; rw [ru_e, ru_i (by decide), ru_i (by decide)])) ((ru_k (by decide)).trans (mC_31.trans (by rw [tA_k (by decide)]))) ((ru_k (by decide)).trans (mC_32.trans (by rw [tA_k (by decide)]))) ((ru_k (by decide)).trans (mC_33.trans (by rw [tA_k (by decide)]))) ((ru_k (by decide)).trans (mC_34.trans (by rw [tA_k (by decide)]))) ((ru_k (by decide)).trans (mC_35.trans (by rw [tA_k (by decide)]))) ((ru_k (by decide)).trans (mC_36.trans (by rw [tA_k (by decide)]))) ((ru_k (by decide)).trans (mC_37.trans (by rw [tA_k (by decide)]))) ((ru_k (by decide)).trans (mC_38.trans (by rw [tA_k (by decide)]))) ((ru_k (by decide)).trans (mC_39.trans (by rw [tA_k (by decide)]))) ((ru_k (by decide)).trans (mC_40.trans (by rw [tA_k (by decide)]))) ((ru_k (by decide)).trans (mC_41.trans (by rw [tA_k (by decide)]))) ((ru_k (by decide)).trans (mC_42.trans (by rw [tA_k (by decide)]))) ((ru_k (by decide)).trans (mC_43.trans (by rw [tA_k (by decide)]))) ((ru_k (by decide)).trans mC_44) (fun a b h => (ru_n (fun z => by omega)).trans (mC_n h))
theorem mC_pn1 {v : Nat} : ru (mC G T th rg C ad) 30 0 (some (.inr (6, [.int (nI (T 0 0)), .ref (ad 31 0), .ref (ad 32 0), .ref (ad 33 0), .ref (ad 34 0), .int (nI v), .ref (ad 35 0), .ref (ad 36 0), .ref (ad 37 0), .ref (ad 38 0), .ref (ad 39 0), .ref (ad 40 0), .ref (ad 41 0), .int (nI (T 0 2)), .ref (ad 42 0), .ref (ad 43 0), .ref (ad 44 0), .int th]))) = mC G (ru T 0 1 v) th rg C ad := mC_ext (ru_e.trans (by unfold mO; rw [ru_e, ru_i (by decide), ru_i (by decide)])) ((ru_k (by decide)).trans (mC_31.trans (by rw [tA_k (by decide)]))) ((ru_k (by decide)).trans (mC_32.trans (by rw [tA_k (by decide)]))) ((ru_k (by decide)).trans (mC_33.trans (by rw [tA_k (by decide)]))) ((ru_k (by decide)).trans (mC_34.trans (by rw [tA_k (by decide)]))) ((ru_k (by decide)).trans (mC_35.trans (by rw [tA_k (by decide)]))) ((ru_k (by decide)).trans (mC_36.trans (by rw [tA_k (by decide)]))) ((ru_k (by decide)).trans (mC_37.trans (by rw [tA_k (by decide)]))) ((ru_k (by decide)).trans (mC_38.trans (by rw [tA_k (by decide)]))) ((ru_k (by decide)).trans (mC_39.trans (by rw [tA_k (by decide)]))) ((ru_k (by decide)).trans (mC_40.trans (by rw [tA_k (by decide)]))) ((ru_k (by decide)).trans (mC_41.trans (by rw [tA_k (by decide)]))) ((ru_k (by decide)).trans (mC_42.trans (by rw [tA_k (by decide)]))) ((ru_k (by decide)).trans (mC_43.trans (by rw [tA_k (by decide)]))) ((ru_k (by decide)).trans mC_44) (fun a b h => (ru_n (fun z => by omega)).trans (mC_n h))
theorem mC_pn2 {v : Nat} : ru (mC G T th rg C ad) 30 0 (some (.inr (6, [.int (nI (T 0 0)), .ref (ad 31 0), .ref (ad 32 0), .ref (ad 33 0), .ref (ad 34 0), .int (nI (T 0 1)), .ref (ad 35 0), .ref (ad 36 0), .ref (ad 37 0), .ref (ad 38 0), .ref (ad 39 0), .ref (ad 40 0), .ref (ad 41 0), .int (nI v), .ref (ad 42 0), .ref (ad 43 0), .ref (ad 44 0), .int th]))) = mC G (ru T 0 2 v) th rg C ad := mC_ext (ru_e.trans (by unfold mO; rw [ru_e, ru_i (by decide), ru_i (by decide)])) ((ru_k (by decide)).trans (mC_31.trans (by rw [tA_k (by decide)]))) ((ru_k (by decide)).trans (mC_32.trans (by rw [tA_k (by decide)]))) ((ru_k (by decide)).trans (mC_33.trans (by rw [tA_k (by decide)]))) ((ru_k (by decide)).trans (mC_34.trans (by rw [tA_k (by decide)]))) ((ru_k (by decide)).trans (mC_35.trans (by rw [tA_k (by decide)]))) ((ru_k (by decide)).trans (mC_36.trans (by rw [tA_k (by decide)]))) ((ru_k (by decide)).trans (mC_37.trans (by rw [tA_k (by decide)]))) ((ru_k (by decide)).trans (mC_38.trans (by rw [tA_k (by decide)]))) ((ru_k (by decide)).trans (mC_39.trans (by rw [tA_k (by decide)]))) ((ru_k (by decide)).trans (mC_40.trans (by rw [tA_k (by decide)]))) ((ru_k (by decide)).trans (mC_41.trans (by rw [tA_k (by decide)]))) ((ru_k (by decide)).trans (mC_42.trans (by rw [tA_k (by decide)]))) ((ru_k (by decide)).trans (mC_43.trans (by rw [tA_k (by decide)]))) ((ru_k (by decide)).trans mC_44) (fun a b h => (ru_n (fun z => by omega)).trans (mC_n h))
end MC
/-! what the tables are between two calls, as the model needs it -/
def mZ (T : rTab) : Prop := (∀ i, nD T ≤ i → T 2 i = 0 ∧ T 3 i = 0 ∧ T 4 i = 0) ∧ (∀ j, nC T ≤ j → T 7 j = 0 ∧ T 8 j = 0 ∧ T 9 j = 0) ∧ ∀ k, 8 ≤ k → T 10 k = 0
def mK (T : rTab) : Prop := ∀ d, d < nD T → T 3 d = dcN T d
def mW (T : rTab) : Prop := ∀ q, q < nS T → T 12 q ≤ 4 ∧ ∀ x, x < T 12 q → T 13 (4 * q + x) % 1000 < nC T ∧ T 13 (4 * q + x) < 8000
def mNu (T : rTab) : Prop := cNu T ∧ mW T ∧ mZ T ∧ mK T ∧ tOK T
section MN
variable {T : rTab}
theorem mNu.hD (h : mNu T) : nD T ≤ 16 := h.1.1
theorem mNu.hC (h : mNu T) : nC T ≤ 150 := h.1.2.1
theorem mNu.hS (h : mNu T) : nS T ≤ 60 := h.1.2.2.1
theorem mNu.dn (h : mNu T) {i : Nat} (hi : i < nD T) : T 1 i < 4 ∧ T 2 i < 65536 ∧ T 4 i ≤ 1 := h.1.2.2.2.1 i hi
theorem mNu.cn (h : mNu T) {j : Nat} (hj : j < nC T) : T 5 j < nD T ∧ T 6 j < 65536 ∧ T 7 j ≤ 1 ∧ T 8 j ≤ 8 ∧ (T 8 j ≠ 0 → T 9 j ≤ 1) := by
  have := h.1.2.2.2.2.1 j hj
  exact ⟨this.1, this.2.1, this.2.2.1, this.2.2.2.1, fun z => by have h1 := this.2.2.2.2.2.2 z; have h2 := this.2.2.2.2.1; omega⟩
theorem mNu.kn (h : mNu T) {k : Nat} (hk : k < 8) : T 10 k < 65536 ∧ T 11 k ≤ 100 := h.1.2.2.2.2.2 k hk
theorem mNu.sn (h : mNu T) {q : Nat} (hq : q < nS T) : T 12 q ≤ 4 := (h.2.1 q hq).1
theorem mNu.gn (h : mNu T) {q x : Nat} (hq : q < nS T) (hx : x < T 12 q) : T 13 (4 * q + x) % 1000 < nC T ∧ T 13 (4 * q + x) < 8000 := (h.2.1 q hq).2 x hx
theorem mNu.z (h : mNu T) : mZ T := h.2.2.1
theorem mNu.k3 (h : mNu T) {d : Nat} (hd : d < nD T) : T 3 d = dcN T d := h.2.2.2.1 d hd
theorem mNu.ow (h : mNu T) {k : Nat} (hk : k < 8) : ownedN T k ≤ 10 := h.2.2.2.2 k hk
end MN
/-! what a call of the model answers: S is what the class does there -/
def mP (G : rG) (S : sR) (rg : Nat → Int32) (C : rC) (ad : rA) : Option Value → rC → rA → Prop := rRet fun r C' ad' => r = .int (if S.1 = 0 then S.2.1 else nI 0) ∧ mC G S.2.2 (nI S.1) rg C ad = C' ∧ ad = ad'
theorem mP.mk0 {G : rG} {S : sR} {rg : Nat → Int32} {C : rC} {ad : rA} {v w : Int32} {T' T2 : rTab} (h : S = (0, w, T')) (hv : w = v) (hT : mEq T' T2) : mP G S rg C ad (some (.int v)) (mC G T2 (nI 0) rg C ad) ad := by
  subst h
  subst hv
  exact ⟨_, rfl, rfl, mC_eq hT, rfl⟩
theorem mP.mkE {G : rG} {S : sR} {rg : Nat → Int32} {C : rC} {ad : rA} {n : Nat} {w : Int32} {T' : rTab} (h : S = (n + 1, w, T')) : mP G S rg C ad (some (.int (nI 0))) (mC G T' (nI (n + 1)) rg C ad) ad := by
  subst h
  exact ⟨_, rfl, rfl, rfl, rfl⟩
def qS (T : rTab) (q : rQu) : sR := (q.1, q.2, T)
/-! numbers that may be none -/
def oI : Option Nat → Int32
  | none => -1
  | some i => nI i
theorem prI_o {T : rTab} {d : Nat} : prI T d = oI (proofO T d) := by
  unfold prI oI
  cases proofO T d <;> rfl
theorem nI_m1 {n : Nat} (h : n < 2 ^ 31) : ¬ nI n = -1 := fun e => by
  have h1 := congrArg Int32.toInt e
  rw [nI_toInt h] at h1
  have h2 : (-1 : Int32).toInt = -1 := by decide
  omega
section RO
variable {p : Program} {l : Launch} {e : Env} {R : Room} {s : State} {m : MethodId} {args : Array Value} {below : List Frame} {meth : Method} {c : Code} {H : Heap} {locs : List Loc} {cells slots : Nat} {Q : State → Prop}
variable {cc : ByteArray} {pc : Nat} {ls : Array Slot} {rest : List Value} {off : Int} {tgt : Nat}
theorem r_oeq (hx : p.tables.exec = Jvm.exec) (hc : c.code = cc) {o : Option Nat} (ho : ∀ i, o = some i → i < 2 ^ 31) (hdg : decode cc pc = .ok (.if_icmp .eq off, 3)) (ht : (pc : Int) + off = (tgt : Int)) (kt : o = none → W p l e R s m args below meth c H locs cells slots Q (F0 m tgt ls rest)) (kf : ∀ i, o = some i → W p l e R s m args below meth c H locs cells slots Q (F0 m (pc + 3) ls rest)) : W p l e R s m args below meth c H locs cells slots Q (F0 m pc ls (.int (-1) :: .int (oI o) :: rest)) :=
  lv_icmp_eq hx hc hdg ht (fun q => kt (by cases o with | none => rfl | some i => exact absurd q (nI_m1 (ho i rfl)))) (fun q => by cases o with | none => exact absurd rfl q | some i => exact kf i rfl)
theorem r_one (hx : p.tables.exec = Jvm.exec) (hc : c.code = cc) {o : Option Nat} (ho : ∀ i, o = some i → i < 2 ^ 31) (hdg : decode cc pc = .ok (.if_icmp .ne off, 3)) (ht : (pc : Int) + off = (tgt : Int)) (kt : ∀ i, o = some i → W p l e R s m args below meth c H locs cells slots Q (F0 m tgt ls rest)) (kf : o = none → W p l e R s m args below meth c H locs cells slots Q (F0 m (pc + 3) ls rest)) : W p l e R s m args below meth c H locs cells slots Q (F0 m pc ls (.int (-1) :: .int (oI o) :: rest)) :=
  lv_icmp_ne hx hc hdg ht (fun q => by cases o with | none => exact absurd rfl q | some i => exact kt i rfl) (fun q => kf (by cases o with | none => rfl | some i => exact absurd q (nI_m1 (ho i rfl))))
end RO
/-! numbers in their bounds -/
def inB (a b c : Int32) : Bool := decide (b ≤ a) && decide (a ≤ c)
theorem in_ix {a : Int32} {n : Nat} (hn : n < 2 ^ 30) : inB a (nI 0) (nI n - nI 1) = (ixO a n).isSome := by
  have h1 : (nI n - nI 1).toInt = (n : Int) - 1 := pk_sub_toInt hn (by decide)
  have h0 : (nI 0).toInt = 0 := by decide
  unfold inB ixO
  by_cases e : 0 ≤ a.toInt ∧ a.toInt < (n : Int)
  · rw [if_pos e, decide_eq_true (Int32.le_iff_toInt_le.mpr (by omega)), decide_eq_true (Int32.le_iff_toInt_le.mpr (by omega))]
    rfl
  · rw [if_neg e]
    show _ = false
    by_cases g : nI 0 ≤ a
    · have g2 := Int32.le_iff_toInt_le.mp g
      rw [decide_eq_false (p := a ≤ nI n - nI 1) (fun z => by have := Int32.le_iff_toInt_le.mp z; omega), Bool.and_false]
    · rw [decide_eq_false g, Bool.false_and]
theorem in_ixk {a : Int32} {n : Nat} (hn : n + 1 < 2 ^ 30) : inB a (nI 0) (nI n) = (ixO a (n + 1)).isSome := by
  rw [← in_ix (n := n + 1) hn, show nI (n + 1) - nI 1 = nI n from pk_sub (a := n + 1) (b := 1) (by omega)]
theorem ixO_val {a : Int32} {n j : Nat} (h : ixO a n = some j) : a = nI j := by
  unfold ixO at h
  by_cases e : 0 ≤ a.toInt ∧ a.toInt < (n : Int)
  · rw [if_pos e] at h
    have h3 : a.toInt.toNat = j := Option.some.inj h
    have h1 := Int32.toInt_lt a
    rw [← Int32.toInt_inj, nI_toInt (by omega)]
    omega
  · rw [if_neg e] at h
    cases h
theorem ix_get {a : Int32} {n : Nat} (h : (ixO a n).isSome = true) : ∃ j, j < n ∧ ixO a n = some j ∧ a = nI j := by
  obtain ⟨j, hj⟩ := Option.isSome_iff_exists.mp h
  exact ⟨j, ixO_lt hj, hj, ixO_val hj⟩
theorem ix_no {a : Int32} {n : Nat} (h : (ixO a n).isSome = false) : ixO a n = none := by
  cases hx : ixO a n with
  | none => rfl
  | some j =>
    rw [hx] at h
    cases h

