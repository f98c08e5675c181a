/-! WHAT THE REGISTER IS: tables T of numbers (kind, index), and what is read off them.
T 0: 0 dies, 1 coins, 2 swaps; by dies: 1 type, 2 defects, 3 strikes, 4 condemned, 20 true coins as the class counts them; by coins: 5 die, 6 defects, 7 melted, 8 owner (0: none, k + 1: the collector k), 9 marked, 21 the class's own mark; by collectors: 10 wanted, 11 fairness; 12 a swap's size, 13 what was given (4 places a swap) -/
def cntB (p : Nat → Bool) : Nat → Nat
  | 0 => 0
  | n + 1 => cntB p n + (if p n = true then 1 else 0)
def fstB (p : Nat → Bool) : Nat → Option Nat
  | 0 => none
  | n + 1 => match fstB p n with
    | some i => some i
    | none => if p n = true then some n else none
theorem cntB_t {p : Nat → Bool} {n : Nat} (h : p n = true) : cntB p (n + 1) = cntB p n + 1 := by
  show cntB p n + (if p n = true then 1 else 0) = _
  rw [if_pos h]
theorem cntB_f {p : Nat → Bool} {n : Nat} (h : p n = false) : cntB p (n + 1) = cntB p n := by
  show cntB p n + (if p n = true then 1 else 0) = _
  rw [if_neg (by rw [h]; exact Bool.false_ne_true)]
  rfl
theorem cntB_le (p : Nat → Bool) (n : Nat) : cntB p n ≤ n := by
  induction n with
  | zero => exact Nat.le_refl _
  | succ n ih =>
    show cntB p n + (if p n = true then 1 else 0) ≤ n + 1
    split <;> omega
theorem cntB_congr {p q : Nat → Bool} {n : Nat} (h : ∀ i, i < n → p i = q i) : cntB p n = cntB q n := by
  induction n with
  | zero => rfl
  | succ n ih =>
    show cntB p n + _ = cntB q n + _
    rw [ih (fun i hi => h i (by omega)), h n (by omega)]
theorem cntB_0 {p : Nat → Bool} {n : Nat} (h : ∀ i, i < n → p i = false) : cntB p n = 0 := by
  induction n with
  | zero => rfl
  | succ n ih =>
    rw [cntB_f (h n (by omega))]
    exact ih (fun i hi => h i (by omega))
theorem fstB_some {p : Nat → Bool} {n i : Nat} : fstB p n = some i ↔ i < n ∧ p i = true ∧ ∀ j, j < i → p j = false := by
  induction n generalizing i with
  | zero => exact ⟨fun h => (nomatch h), fun h => absurd h.1 (Nat.not_lt_zero _)⟩
  | succ n ih =>
    show (match fstB p n with | some i => some i | none => if p n = true then some n else none) = some i ↔ _
    cases hq : fstB p n with
    | some k =>
      have hk := ih.mp hq
      constructor
      · intro h
        cases h
        exact ⟨by omega, hk.2⟩
      · intro ⟨h1, h2, h3⟩
        by_cases e : i = k
        · rw [e]
        · rcases Nat.lt_or_gt_of_ne e with g | g
          · have := hk.2.2 i g
            rw [h2] at this
            cases this
          · have := h3 k g
            rw [hk.2.1] at this
            cases this
    | none =>
      by_cases hp : p n = true
      · show (if p n = true then some n else none) = some i ↔ _
        rw [if_pos hp]
        constructor
        · intro h
          cases h
          refine ⟨by omega, hp, fun j hj => ?_⟩
          cases hpj : p j with
          | false => rfl
          | true =>
            exfalso
            obtain ⟨k, hk⟩ := pk_least (fun k => p k = true) ⟨j, hpj⟩
            have hkj : k ≤ j := Nat.not_lt.mp fun g => hk.2 j g hpj
            have : fstB p n = some k := ih.mpr ⟨by omega, hk.1, fun a ha => by
              cases hpa : p a with
              | false => rfl
              | true => exact absurd hpa (hk.2 a ha)⟩
            rw [hq] at this
            cases this
        · intro ⟨h1, h2, h3⟩
          by_cases e : i = n
          · rw [e]
          · have : fstB p n = some i := ih.mpr ⟨by omega, h2, h3⟩
            rw [hq] at this
            cases this
      · show (if p n = true then some n else none) = some i ↔ _
        rw [if_neg hp]
        constructor
        · intro h
          cases h
        · intro ⟨h1, h2, h3⟩
          by_cases e : i = n
          · rw [e] at h2
            exact absurd h2 hp
          · have : fstB p n = some i := ih.mpr ⟨by omega, h2, h3⟩
            rw [hq] at this
            cases this
theorem fstB_none {p : Nat → Bool} {n : Nat} : fstB p n = none ↔ ∀ j, j < n → p j = false := by
  constructor
  · intro h j hj
    cases hpj : p j with
    | false => rfl
    | true =>
      exfalso
      obtain ⟨k, hk⟩ := pk_least (fun k => p k = true) ⟨j, hpj⟩
      have hkj : k ≤ j := Nat.not_lt.mp fun g => hk.2 j g hpj
      have : fstB p n = some k := fstB_some.mpr ⟨by omega, hk.1, fun a ha => by
        cases hpa : p a with
        | false => rfl
        | true => exact absurd hpa (hk.2 a ha)⟩
      rw [h] at this
      cases this
  · intro h
    cases hq : fstB p n with
    | none => rfl
    | some i =>
      have := fstB_some.mp hq
      have h2 := h i this.1
      rw [this.2.1] at h2
      cases h2
theorem fstB_congr {p q : Nat → Bool} {n : Nat} (h : ∀ i, i < n → p i = q i) : fstB p n = fstB q n := by
  induction n with
  | zero => rfl
  | succ n ih =>
    show (match fstB p n with | some i => some i | none => if p n = true then some n else none) = (match fstB q n with | some i => some i | none => if q n = true then some n else none)
    rw [ih (fun i hi => h i (by omega)), h n (by omega)]
theorem cntB_pos {p : Nat → Bool} {n i : Nat} (hi : i < n) (h : p i = true) : 0 < cntB p n := by
  induction n with
  | zero => omega
  | succ n ih =>
    by_cases e : i = n
    · subst e
      rw [cntB_t h]
      omega
    · show 0 < cntB p n + (if p n = true then 1 else 0)
      have := ih (by omega)
      omega
abbrev rTab : Type := Nat → Nat → Nat
abbrev nD (T : rTab) : Nat := T 0 0
abbrev nC (T : rTab) : Nat := T 0 1
abbrev nS (T : rTab) : Nat := T 0 2
def tru (T : rTab) (j : Nat) : Bool := decide (T 7 j = 0) && decide (T 4 (T 5 j) = 0)
def bitsN (x : Nat) : Nat := cntB (fun k => x.testBit k) 16
def isFirst (T : rTab) (d st : Nat) (j : Nat) : Bool := decide (T 5 j = d) && decide (T 6 j = st)
def firstOf (T : rTab) (d st : Nat) : Option Nat := fstB (isFirst T d st) (nC T)
def stageAt (T : rTab) (d : Nat) (j : Nat) : Bool := decide (T 5 j = d) && decide (firstOf T d (T 6 j) = some j)
def stagesN (T : rTab) (d : Nat) : Nat := cntB (stageAt T d) (nC T)
def firstCoin (T : rTab) (d : Nat) : Option Nat := fstB (fun j => decide (T 5 j = d)) (nC T)
def provesBy (T : rTab) (d f : Nat) (o : Nat) : Bool := decide (o ≠ d) && (decide (T 1 o = T 1 d) && (match firstOf T o (T 6 f) with | none => false | some i => decide (i < f)))
def proofO (T : rTab) (d : Nat) : Option Nat := match firstCoin T d with
  | none => none
  | some f => if bitsN (T 6 f) < 2 then none else fstB (provesBy T d f) (nD T)
def rarAt (T : rTab) (d : Nat) (j : Nat) : Bool := decide (T 5 j = d) && tru T j
def rar (T : rTab) (d : Nat) : Nat := cntB (rarAt T d) (nC T)
def valOf (t : Nat) : Nat := if t = 0 then 100 else if t = 1 then 200 else if t = 2 then 500 else 1000
def priceBy (T : rTab) (d : Nat) : Nat := 20 * valOf (T 1 d) / (rar T d + 1)
def priceN (T : rTab) (j : Nat) : Nat := if tru T j = true then priceBy T (T 5 j) else 0
def ownAt (T : rTab) (k : Nat) (j : Nat) : Bool := decide (T 8 j = k + 1)
def ownedN (T : rTab) (k : Nat) : Nat := cntB (ownAt T k) (nC T)
def offAt (T : rTab) (k d : Nat) (j : Nat) : Bool := decide (T 5 j = d) && (decide (T 8 j = k + 1) && tru T j)
def offer (T : rTab) (k d : Nat) : Option Nat := match fstB (offAt T k d) (nC T) with
  | none => none
  | some j => if 1 < cntB (offAt T k d) (nC T) ∨ T 9 j = 1 then some j else none
def sumN (f : Nat → Nat) : Nat → Nat
  | 0 => 0
  | n + 1 => sumN f n + f n
def worthN (T : rTab) (k : Nat) : Nat := sumN (fun j => if ownAt T k j = true then priceN T j else 0) (nC T)
def aheadOf (T : rTab) (k j : Nat) (o : Nat) : Bool := ownAt T k o && (decide (priceN T j < priceN T o) || (decide (priceN T o = priceN T j) && decide (o < j)))
def aheadN (T : rTab) (k j : Nat) : Nat := cntB (aheadOf T k j) (nC T)
/-- the index that a number is, below n -/
def ixO (a : Int32) (n : Nat) : Option Nat := if 0 ≤ a.toInt ∧ a.toInt < (n : Int) then some a.toInt.toNat else none
theorem ixO_some {a : Int32} {n : Nat} (hn : n < 2 ^ 31) (h1 : ¬ a < 0) (h2 : ¬ nI n ≤ a) : ∃ j, j < n ∧ a = nI j ∧ ixO a n = some j := by
  obtain ⟨j, hj, rfl⟩ := nI_of h1
  have h3 : j < n := Nat.not_le.mp fun q => h2 ((nI_leI hn hj).mpr q)
  refine ⟨j, h3, rfl, ?_⟩
  unfold ixO
  rw [nI_toInt hj, if_pos (by omega)]
  rfl
theorem ixO_neg {a : Int32} {n : Nat} (h : a < 0) : ixO a n = none := by
  have h0 : a.toInt < 0 := by
    have := Int32.lt_iff_toInt_lt.mp h
    simpa using this
  unfold ixO
  rw [if_neg (by omega)]
theorem ixO_big {a : Int32} {n : Nat} (hn : n < 2 ^ 31) (h : nI n ≤ a) : ixO a n = none := by
  have h0 : (n : Int) ≤ a.toInt := by
    have := Int32.le_iff_toInt_le.mp h
    rwa [nI_toInt hn] at this
  unfold ixO
  rw [if_neg (by omega)]
theorem ixO_nI {j n : Nat} (hj : j < 2 ^ 31) (h : j < n) : ixO (nI j) n = some j := by
  unfold ixO
  rw [nI_toInt hj, if_pos (by omega)]
  rfl
/-! ===== the class's world ===== -/
def coO (T : rTab) (ad : rA) (j : Nat) : va_E := .inr (1, [.int (nI j), .ref (ad 1 (T 5 j)), .int (nI (T 6 j)), va_rf (if T 8 j = 0 then none else some (ad 5 (T 8 j - 1))), .int (nI (T 7 j)), .int (nI (T 21 j))])
def clO (T : rTab) (ad : rA) (k : Nat) : va_E := .inr (2, [.int (nI k), .int (nI (T 10 k)), .int (nI (T 11 k)), .ref (ad 14 k), .ref (ad 15 k)])
def diO (T : rTab) (ad : rA) (i : Nat) : va_E := .inr (3, [.int (nI i), .int (nI (T 1 i)), .int (nI (valOf (T 1 i))), .int (nI (T 2 i)), .int (nI (T 4 i)), .int (nI (T 20 i)), .ref (ad 11 i)])
def rgO (ad : rA) (q : Nat) : va_E := .inr (4, [.ref (ad 16 q), .ref (ad 17 q)])
def reO (T : rTab) (ad : rA) : va_E := .inr (5, [.ref (ad 10 0), .ref (ad 12 0), .ref (ad 7 0), .ref (ad 13 0), .ref (ad 6 (nS T))])
def caO (G : rG) (ad : rA) : va_E := .inl (G.2.1 3, 8, .inr (.inr (.inr (.inr (fun k => if k < 8 then some (ad 5 k) else none)))))
/-- the objects -/
def cOb (G : rG) (T : rTab) (C : rC) (ad : rA) : Prop :=
  C 0 0 = some (reO T ad) ∧ C 7 0 = some (caO G ad) ∧ C 9 0 = none ∧ (∀ i, C 1 i = if i < nD T then some (diO T ad i) else none) ∧ (∀ j, C 4 j = if j < nC T then some (coO T ad j) else none) ∧ (∀ k, k < 8 → C 5 k = some (clO T ad k)) ∧ ∀ q, C 6 q = if q ≤ nS T then some (rgO ad q) else none
/-- the lists -/
def cLs (G : rG) (T : rTab) (L : rL) (C : rC) (ad : rA) : Prop :=
  lSh G L C ad 10 0 1 ∧ lSh G L C ad 12 0 4 ∧ lSh G L C ad 13 0 6 ∧ (∀ i, i < nD T → lSh G L C ad 11 i 4) ∧ (∀ k, k < 8 → lSh G L C ad 14 k 4 ∧ lSh G L C ad 15 k 4) ∧ (∀ q, q ≤ nS T → lSh G L C ad 16 q 5 ∧ lSh G L C ad 17 q 4) ∧ (∀ i, nD T ≤ i → C 11 i = none ∧ C 21 i = none) ∧ ∀ q, nS T < q → C 16 q = none ∧ C 26 q = none ∧ C 17 q = none ∧ C 27 q = none
def capB (M c : Nat) : Prop := c = 0 ∨ (10 ≤ c ∧ 2 * c ≤ 20 + 3 * M)
/-- the numbers -/
def cNu (T : rTab) : Prop :=
  nD T ≤ 16 ∧ nC T ≤ 150 ∧ nS T ≤ 60 ∧ (∀ i, i < nD T → T 1 i < 4 ∧ T 2 i < 65536 ∧ T 4 i ≤ 1) ∧ (∀ j, j < nC T → T 5 j < nD T ∧ T 6 j < 65536 ∧ T 7 j ≤ 1 ∧ T 8 j ≤ 8 ∧ T 21 j ≤ 1 ∧ (T 7 j = 1 → T 8 j = 0) ∧ (T 8 j ≠ 0 → T 21 j = T 9 j)) ∧ ∀ k, k < 8 → T 10 k < 65536 ∧ T 11 k ≤ 100
/-- what the lists hold -/
def cHo (T : rTab) (L : rL) : Prop :=
  (L.1 10 0 = List.range (nD T) ∧ capB 16 (L.2.1 10 0)) ∧ (L.1 12 0 = List.range (nC T) ∧ capB 150 (L.2.1 12 0)) ∧ (L.1 13 0 = List.range (nS T) ∧ capB 60 (L.2.1 13 0)) ∧ (∀ i, i < nD T → L.1 11 i = (List.range (nC T)).filter (fun j => decide (T 5 j = i)) ∧ (L.1 11 i).length ≤ 40 ∧ capB 40 (L.2.1 11 i)) ∧ (∀ k, k < 8 → (L.1 14 k).Nodup ∧ (∀ j, j ∈ L.1 14 k ↔ j < nC T ∧ T 8 j = k + 1) ∧ (L.1 14 k).length ≤ 11 ∧ capB 11 (L.2.1 14 k)) ∧ (∀ k, k < 8 → (∀ j, j ∈ L.1 15 k → j < nC T) ∧ (L.1 15 k).length ≤ 16 ∧ capB 16 (L.2.1 15 k)) ∧ (∀ q, q ≤ nS T → (∀ x, x ∈ L.1 16 q → x < 8) ∧ (∀ j, j ∈ L.1 17 q → j < nC T) ∧ (L.1 16 q).length = (L.1 17 q).length ∧ (L.1 16 q).length ≤ 4 ∧ capB 4 (L.2.1 16 q) ∧ capB 4 (L.2.1 17 q)) ∧ ∀ q, q < nS T → (L.1 16 q).length = T 12 q ∧ ∀ x, x < T 12 q → (L.1 16 q)[x]? = some (T 13 (4 * q + x) / 1000) ∧ (L.1 17 q)[x]? = some (T 13 (4 * q + x) % 1000)
/-- the true coins that the dies keep -/
def cRr (T : rTab) : Prop := ∀ i, i < nD T → T 20 i = rar T i
def cInvW (G : rG) (T : rTab) (L : rL) (C : rC) (ad : rA) : Prop := cOb G T C ad ∧ cLs G T L C ad ∧ cNu T ∧ cHo T L
def cInv (G : rG) (T : rTab) (L : rL) (C : rC) (ad : rA) : Prop := cInvW G T L C ad ∧ cRr T
/-- what is not the class's stays -/
def cFr (C : rC) (ad : rA) (C' : rC) (ad' : rA) : Prop := (∀ k i, 30 ≤ k → C' k i = C k i ∧ ad' k i = ad k i) ∧ ad' 0 0 = ad 0 0
section CIW
variable {G : rG} {T : rTab} {L : rL} {C : rC} {ad : rA}
theorem cInvW.reg (h : cInvW G T L C ad) : C 0 0 = some (reO T ad) := h.1.1
theorem cInvW.arr (h : cInvW G T L C ad) : C 7 0 = some (caO G ad) := h.1.2.1
theorem cInvW.tmp (h : cInvW G T L C ad) : C 9 0 = none := h.1.2.2.1
theorem cInvW.die (h : cInvW G T L C ad) {i : Nat} (hi : i < nD T) : C 1 i = some (diO T ad i) := by rw [h.1.2.2.2.1, if_pos hi]
theorem cInvW.coin (h : cInvW G T L C ad) {j : Nat} (hj : j < nC T) : C 4 j = some (coO T ad j) := by rw [h.1.2.2.2.2.1, if_pos hj]
theorem cInvW.col (h : cInvW G T L C ad) {k : Nat} (hk : k < 8) : C 5 k = some (clO T ad k) := h.1.2.2.2.2.2.1 k hk
theorem cInvW.ring (h : cInvW G T L C ad) {q : Nat} (hq : q ≤ nS T) : C 6 q = some (rgO ad q) := by rw [h.1.2.2.2.2.2.2, if_pos hq]
theorem cInvW.dies (h : cInvW G T L C ad) : lSh G L C ad 10 0 1 := h.2.1.1
theorem cInvW.coins (h : cInvW G T L C ad) : lSh G L C ad 12 0 4 := h.2.1.2.1
theorem cInvW.swapped (h : cInvW G T L C ad) : lSh G L C ad 13 0 6 := h.2.1.2.2.1
theorem cInvW.dcoins (h : cInvW G T L C ad) {i : Nat} (hi : i < nD T) : lSh G L C ad 11 i 4 := h.2.1.2.2.2.1 i hi
theorem cInvW.owned (h : cInvW G T L C ad) {k : Nat} (hk : k < 8) : lSh G L C ad 14 k 4 := (h.2.1.2.2.2.2.1 k hk).1
theorem cInvW.offered (h : cInvW G T L C ad) {k : Nat} (hk : k < 8) : lSh G L C ad 15 k 4 := (h.2.1.2.2.2.2.1 k hk).2
theorem cInvW.givers (h : cInvW G T L C ad) {q : Nat} (hq : q ≤ nS T) : lSh G L C ad 16 q 5 := (h.2.1.2.2.2.2.2.1 q hq).1
theorem cInvW.gifts (h : cInvW G T L C ad) {q : Nat} (hq : q ≤ nS T) : lSh G L C ad 17 q 4 := (h.2.1.2.2.2.2.2.1 q hq).2
theorem cInvW.hD (h : cInvW G T L C ad) : nD T ≤ 16 := h.2.2.1.1
theorem cInvW.hC (h : cInvW G T L C ad) : nC T ≤ 150 := h.2.2.1.2.1
theorem cInvW.hS (h : cInvW G T L C ad) : nS T ≤ 60 := h.2.2.1.2.2.1
end CIW
section CJW
variable {G : rG} {T : rTab} {L : rL} {C : rC} {ad : rA}
theorem cInvW.dn (h : cInvW G T L C ad) {i : Nat} (hi : i < nD T) : T 1 i < 4 ∧ T 2 i < 65536 ∧ T 4 i ≤ 1 := h.2.2.1.2.2.2.1 i hi
theorem cInvW.cn (h : cInvW G T L C ad) {j : Nat} (hj : j < nC T) : T 5 j < nD T ∧ T 6 j < 65536 ∧ T 7 j ≤ 1 ∧ T 8 j ≤ 8 ∧ T 21 j ≤ 1 ∧ (T 7 j = 1 → T 8 j = 0) ∧ (T 8 j ≠ 0 → T 21 j = T 9 j) := h.2.2.1.2.2.2.2.1 j hj
theorem cInvW.kn (h : cInvW G T L C ad) {k : Nat} (hk : k < 8) : T 10 k < 65536 ∧ T 11 k ≤ 100 := h.2.2.1.2.2.2.2.2 k hk
theorem cInvW.hdies (h : cInvW G T L C ad) : L.1 10 0 = List.range (nD T) := h.2.2.2.1.1
theorem cInvW.hcoins (h : cInvW G T L C ad) : L.1 12 0 = List.range (nC T) := h.2.2.2.2.1.1
theorem cInvW.hswapped (h : cInvW G T L C ad) : L.1 13 0 = List.range (nS T) := h.2.2.2.2.2.1.1
theorem cInvW.hdc (h : cInvW G T L C ad) {i : Nat} (hi : i < nD T) : L.1 11 i = (List.range (nC T)).filter (fun j => decide (T 5 j = i)) ∧ (L.1 11 i).length ≤ 40 ∧ capB 40 (L.2.1 11 i) := h.2.2.2.2.2.2.1 i hi
theorem cInvW.how (h : cInvW G T L C ad) {k : Nat} (hk : k < 8) : (L.1 14 k).Nodup ∧ (∀ j, j ∈ L.1 14 k ↔ j < nC T ∧ T 8 j = k + 1) ∧ (L.1 14 k).length ≤ 11 ∧ capB 11 (L.2.1 14 k) := h.2.2.2.2.2.2.2.1 k hk
theorem cInvW.hof (h : cInvW G T L C ad) {k : Nat} (hk : k < 8) : (∀ j, j ∈ L.1 15 k → j < nC T) ∧ (L.1 15 k).length ≤ 16 ∧ capB 16 (L.2.1 15 k) := h.2.2.2.2.2.2.2.2.1 k hk
theorem cInvW.hrg (h : cInvW G T L C ad) {q : Nat} (hq : q ≤ nS T) : (∀ x, x ∈ L.1 16 q → x < 8) ∧ (∀ j, j ∈ L.1 17 q → j < nC T) ∧ (L.1 16 q).length = (L.1 17 q).length ∧ (L.1 16 q).length ≤ 4 ∧ capB 4 (L.2.1 16 q) ∧ capB 4 (L.2.1 17 q) := h.2.2.2.2.2.2.2.2.2.1 q hq
theorem cInvW.hsw (h : cInvW G T L C ad) {q : Nat} (hq : q < nS T) : (L.1 16 q).length = T 12 q ∧ ∀ x, x < T 12 q → (L.1 16 q)[x]? = some (T 13 (4 * q + x) / 1000) ∧ (L.1 17 q)[x]? = some (T 13 (4 * q + x) % 1000) := h.2.2.2.2.2.2.2.2.2.2 q hq
theorem cInvW.dieAt (h : cInvW G T L C ad) {i : Nat} (hi : i < nD T) : (L.1 10 0)[i]? = some i := by rw [h.hdies, List.getElem?_range hi]
theorem cInvW.coinAt (h : cInvW G T L C ad) {j : Nat} (hj : j < nC T) : (L.1 12 0)[j]? = some j := by rw [h.hcoins, List.getElem?_range hj]
theorem cInvW.swapAt (h : cInvW G T L C ad) {q : Nat} (hq : q < nS T) : (L.1 13 0)[q]? = some q := by rw [h.hswapped, List.getElem?_range hq]
theorem cInvW.ldies (h : cInvW G T L C ad) : (L.1 10 0).length = nD T := by rw [h.hdies, List.length_range]
theorem cInvW.lcoins (h : cInvW G T L C ad) : (L.1 12 0).length = nC T := by rw [h.hcoins, List.length_range]
theorem cInvW.lswapped (h : cInvW G T L C ad) : (L.1 13 0).length = nS T := by rw [h.hswapped, List.length_range]
theorem cInvW.odie (h : cInvW G T L C ad) {j : Nat} (hj : j < nC T) : T 5 j < nD T := (h.cn hj).1
end CJW
section CI
variable {G : rG} {T : rTab} {L : rL} {C : rC} {ad : rA}
theorem cInv.reg (h : cInv G T L C ad) : C 0 0 = some (reO T ad) := h.1.reg
theorem cInv.arr (h : cInv G T L C ad) : C 7 0 = some (caO G ad) := h.1.arr
theorem cInv.tmp (h : cInv G T L C ad) : C 9 0 = none := h.1.tmp
theorem cInv.die (h : cInv G T L C ad) {i : Nat} (hi : i < nD T) : C 1 i = some (diO T ad i) := h.1.die hi
theorem cInv.coin (h : cInv G T L C ad) {j : Nat} (hj : j < nC T) : C 4 j = some (coO T ad j) := h.1.coin hj
theorem cInv.col (h : cInv G T L C ad) {k : Nat} (hk : k < 8) : C 5 k = some (clO T ad k) := h.1.col hk
theorem cInv.ring (h : cInv G T L C ad) {q : Nat} (hq : q ≤ nS T) : C 6 q = some (rgO ad q) := h.1.ring hq
theorem cInv.dies (h : cInv G T L C ad) : lSh G L C ad 10 0 1 := h.1.dies
theorem cInv.coins (h : cInv G T L C ad) : lSh G L C ad 12 0 4 := h.1.coins
theorem cInv.swapped (h : cInv G T L C ad) : lSh G L C ad 13 0 6 := h.1.swapped
theorem cInv.dcoins (h : cInv G T L C ad) {i : Nat} (hi : i < nD T) : lSh G L C ad 11 i 4 := h.1.dcoins hi
theorem cInv.owned (h : cInv G T L C ad) {k : Nat} (hk : k < 8) : lSh G L C ad 14 k 4 := h.1.owned hk
theorem cInv.offered (h : cInv G T L C ad) {k : Nat} (hk : k < 8) : lSh G L C ad 15 k 4 := h.1.offered hk
theorem cInv.givers (h : cInv G T L C ad) {q : Nat} (hq : q ≤ nS T) : lSh G L C ad 16 q 5 := h.1.givers hq
theorem cInv.gifts (h : cInv G T L C ad) {q : Nat} (hq : q ≤ nS T) : lSh G L C ad 17 q 4 := h.1.gifts hq
theorem cInv.hD (h : cInv G T L C ad) : nD T ≤ 16 := h.1.hD
theorem cInv.hC (h : cInv G T L C ad) : nC T ≤ 150 := h.1.hC
theorem cInv.hS (h : cInv G T L C ad) : nS T ≤ 60 := h.1.hS
end CI
section CJ
variable {G : rG} {T : rTab} {L : rL} {C : rC} {ad : rA}
theorem cInv.dn (h : cInv G T L C ad) {i : Nat} (hi : i < nD T) : T 1 i < 4 ∧ T 2 i < 65536 ∧ T 4 i ≤ 1 ∧ T 20 i = rar T i := ⟨(h.1.dn hi).1, (h.1.dn hi).2.1, (h.1.dn hi).2.2, h.2 i hi⟩
theorem cInv.cn (h : cInv G T L C ad) {j : Nat} (hj : j < nC T) : T 5 j < nD T ∧ T 6 j < 65536 ∧ T 7 j ≤ 1 ∧ T 8 j ≤ 8 ∧ T 21 j ≤ 1 ∧ (T 7 j = 1 → T 8 j = 0) ∧ (T 8 j ≠ 0 → T 21 j = T 9 j) := h.1.cn hj
theorem cInv.kn (h : cInv G T L C ad) {k : Nat} (hk : k < 8) : T 10 k < 65536 ∧ T 11 k ≤ 100 := h.1.kn hk
theorem cInv.hdies (h : cInv G T L C ad) : L.1 10 0 = List.range (nD T) := h.1.hdies
theorem cInv.hcoins (h : cInv G T L C ad) : L.1 12 0 = List.range (nC T) := h.1.hcoins
theorem cInv.hswapped (h : cInv G T L C ad) : L.1 13 0 = List.range (nS T) := h.1.hswapped
theorem cInv.hdc (h : cInv G T L C ad) {i : Nat} (hi : i < nD T) : L.1 11 i = (List.range (nC T)).filter (fun j => decide (T 5 j = i)) ∧ (L.1 11 i).length ≤ 40 ∧ capB 40 (L.2.1 11 i) := h.1.hdc hi
theorem cInv.how (h : cInv G T L C ad) {k : Nat} (hk : k < 8) : (L.1 14 k).Nodup ∧ (∀ j, j ∈ L.1 14 k ↔ j < nC T ∧ T 8 j = k + 1) ∧ (L.1 14 k).length ≤ 11 ∧ capB 11 (L.2.1 14 k) := h.1.how hk
theorem cInv.hof (h : cInv G T L C ad) {k : Nat} (hk : k < 8) : (∀ j, j ∈ L.1 15 k → j < nC T) ∧ (L.1 15 k).length ≤ 16 ∧ capB 16 (L.2.1 15 k) := h.1.hof hk
theorem cInv.hrg (h : cInv G T L C ad) {q : Nat} (hq : q ≤ nS T) : (∀ x, x ∈ L.1 16 q → x < 8) ∧ (∀ j, j ∈ L.1 17 q → j < nC T) ∧ (L.1 16 q).length = (L.1 17 q).length ∧ (L.1 16 q).length ≤ 4 ∧ capB 4 (L.2.1 16 q) ∧ capB 4 (L.2.1 17 q) := h.1.hrg hq
theorem cInv.hsw (h : cInv G T L C ad) {q : Nat} (hq : q < nS T) : (L.1 16 q).length = T 12 q ∧ ∀ x, x < T 12 q → (L.1 16 q)[x]? = some (T 13 (4 * q + x) / 1000) ∧ (L.1 17 q)[x]? = some (T 13 (4 * q + x) % 1000) := h.1.hsw hq
theorem cInv.dieAt (h : cInv G T L C ad) {i : Nat} (hi : i < nD T) : (L.1 10 0)[i]? = some i := h.1.dieAt hi
theorem cInv.coinAt (h : cInv G T L C ad) {j : Nat} (hj : j < nC T) : (L.1 12 0)[j]? = some j := h.1.coinAt hj
theorem cInv.swapAt (h : cInv G T L C ad) {q : Nat} (hq : q < nS T) : (L.1 13 0)[q]? = some q := h.1.swapAt hq
theorem cInv.ldies (h : cInv G T L C ad) : (L.1 10 0).length = nD T := h.1.ldies
theorem cInv.lcoins (h : cInv G T L C ad) : (L.1 12 0).length = nC T := h.1.lcoins
theorem cInv.lswapped (h : cInv G T L C ad) : (L.1 13 0).length = nS T := h.1.lswapped
theorem cInv.odie (h : cInv G T L C ad) {j : Nat} (hj : j < nC T) : T 5 j < nD T := h.1.odie hj
theorem cFr.rf : cFr C ad C ad := ⟨fun _ _ _ => ⟨rfl, rfl⟩, rfl⟩
theorem cFr.tr {C1 C2 : rC} {ad1 ad2 : rA} (h1 : cFr C ad C1 ad1) (h2 : cFr C1 ad1 C2 ad2) : cFr C ad C2 ad2 := ⟨fun k i hk => ⟨(h2.1 k i hk).1.trans (h1.1 k i hk).1, (h2.1 k i hk).2.trans (h1.1 k i hk).2⟩, h2.2.trans h1.2⟩
end CJ
