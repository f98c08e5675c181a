/-! how the invariant goes on when objects are written -/
abbrev sR : Type := Nat × Int32 × rTab
section UP
variable {G : rG} {T T' : rTab} {L : rL} {C C' : rC} {ad : rA}
theorem diO_eq {i : Nat} (h1 : T' 1 i = T 1 i) (h2 : T' 2 i = T 2 i) (h4 : T' 4 i = T 4 i) (h20 : T' 20 i = T 20 i) : diO T' ad i = diO T ad i := by
  unfold diO
  rw [h1, h2, h4, h20]
theorem coO_eq {j : Nat} (h5 : T' 5 j = T 5 j) (h6 : T' 6 j = T 6 j) (h7 : T' 7 j = T 7 j) (h8 : T' 8 j = T 8 j) (h21 : T' 21 j = T 21 j) : coO T' ad j = coO T ad j := by
  unfold coO
  rw [h5, h6, h7, h8, h21]
theorem clO_eq {k : Nat} (h10 : T' 10 k = T 10 k) (h11 : T' 11 k = T 11 k) : clO T' ad k = clO T ad k := by
  unfold clO
  rw [h10, h11]
theorem lSh.at {k i ek : Nat} (h : lSh G L C ad k i ek) (h1 : C' k i = C k i) (h2 : C' (k + 10) i = C (k + 10) i) : lSh G L C' ad k i ek := by
  unfold lSh
  rw [h1, h2]
  exact h
theorem cLs.up (h : cLs G T L C ad) (h0 : T' 0 = T 0) (hC : ∀ a b, 10 ≤ a → C' a b = C a b) : cLs G T' L C' ad := by
  obtain ⟨a1, a2, a3, a4, a5, a6, a7, a8⟩ := h
  have l : ∀ {k i ek : Nat}, 10 ≤ k → lSh G L C ad k i ek → lSh G L C' ad k i ek := fun hk h => h.at (hC _ _ hk) (hC _ _ (by omega))
  unfold cLs nD nS
  rw [h0]
  refine ⟨l (by omega) a1, l (by omega) a2, l (by omega) a3, fun i hi => l (by omega) (a4 i hi), fun k hk => ⟨l (by omega) (a5 k hk).1, l (by omega) (a5 k hk).2⟩, fun q hq => ⟨l (by omega) (a6 q hq).1, l (by omega) (a6 q hq).2⟩, fun i hi => ?_, fun q hq => ?_⟩
  · rw [hC 11 i (by omega), hC 21 i (by omega)]
    exact a7 i hi
  · rw [hC 16 q (by omega), hC 26 q (by omega), hC 17 q (by omega), hC 27 q (by omega)]
    exact a8 q hq
theorem cHo.up (h : cHo T L) (h0 : T' 0 = T 0) (h5 : T' 5 = T 5) (h8 : T' 8 = T 8) (h12 : T' 12 = T 12) (h13 : T' 13 = T 13) : cHo T' L := by
  unfold cHo nD nC nS at h ⊢
  rw [h0, h5, h8, h12, h13]
  exact h
theorem cOb.up (h : cOb G T C ad) (h0 : T' 0 = T 0) (hC : ∀ a b, a ≠ 1 → a ≠ 4 → a ≠ 5 → a < 10 → C' a b = C a b) (h1 : ∀ i, i < nD T → C' 1 i = some (diO T' ad i)) (h1n : ∀ i, nD T ≤ i → C' 1 i = C 1 i) (h4 : ∀ j, j < nC T → C' 4 j = some (coO T' ad j)) (h4n : ∀ j, nC T ≤ j → C' 4 j = C 4 j) (h5 : ∀ k, k < 8 → C' 5 k = some (clO T' ad k)) : cOb G T' C' ad := by
  obtain ⟨a1, a2, a3, a4, a5, a6, a7⟩ := h
  unfold cOb reO nD nC nS
  rw [h0]
  refine ⟨by rw [hC 0 0 (by decide) (by decide) (by decide) (by decide)]; exact a1, by rw [hC 7 0 (by decide) (by decide) (by decide) (by decide)]; exact a2, by rw [hC 9 0 (by decide) (by decide) (by decide) (by decide)]; exact a3, fun i => ?_, fun j => ?_, h5, fun q => by rw [hC 6 q (by decide) (by decide) (by decide) (by decide)]; exact a7 q⟩
  · by_cases e : i < nD T
    · rw [h1 i e, if_pos e]
    · rw [h1n i (by omega), a4, if_neg e, if_neg e]
  · by_cases e : j < nC T
    · rw [h4 j e, if_pos e]
    · rw [h4n j (by omega), a5, if_neg e, if_neg e]
theorem cInvW.up (h : cInvW G T L C ad) (h0 : T' 0 = T 0) (h5 : T' 5 = T 5) (h8 : T' 8 = T 8) (h12 : T' 12 = T 12) (h13 : T' 13 = T 13) (hC : ∀ a b, 10 ≤ a → C' a b = C a b) (hob : cOb G T' C' ad) (hnu : cNu T') : cInvW G T' L C' ad :=
  ⟨hob, h.2.1.up h0 hC, hnu, h.2.2.2.up h0 h5 h8 h12 h13⟩
/-- one die is written -/
theorem cOb.die1 (h : cOb G T C ad) (h0 : T' 0 = T 0) {d : Nat} {e : va_E} (hd : d < nD T) (he : e = diO T' ad d) (hde : ∀ i, i ≠ d → diO T' ad i = diO T ad i) (hce : ∀ j, coO T' ad j = coO T ad j) (hke : ∀ k, clO T' ad k = clO T ad k) : cOb G T' (ru C 1 d (some e)) ad := by
  have hn : ∀ a b, a ≠ 1 → ru C 1 d (some e) a b = C a b := fun a b ha => ru_n (fun z => ha z.1)
  refine h.up h0 (fun a b ha _ _ _ => hn a b ha) (fun i hi => ?_) (fun i hi => ru_n (fun z => by omega)) (fun j hj => ?_) (fun j hj => hn 4 j (by decide)) (fun k hk => ?_)
  · by_cases q : i = d
    · rw [q, ru_e, he]
    · rw [ru_n (fun z => q z.2), hde i q, h.2.2.2.1, if_pos hi]
  · rw [hn 4 j (by decide), hce, h.2.2.2.2.1, if_pos hj]
  · rw [hn 5 k (by decide), hke, h.2.2.2.2.2.1 k hk]
/-- one coin is written -/
theorem cOb.coin1 (h : cOb G T C ad) (h0 : T' 0 = T 0) {j0 : Nat} {e : va_E} (hd : j0 < nC T) (he : e = coO T' ad j0) (hde : ∀ i, diO T' ad i = diO T ad i) (hce : ∀ j, j ≠ j0 → coO T' ad j = coO T ad j) (hke : ∀ k, clO T' ad k = clO T ad k) : cOb G T' (ru C 4 j0 (some e)) ad := by
  have hn : ∀ a b, a ≠ 4 → ru C 4 j0 (some e) a b = C a b := fun a b ha => ru_n (fun z => ha z.1)
  refine h.up h0 (fun a b _ ha _ _ => hn a b ha) (fun i hi => ?_) (fun i hi => hn 1 i (by decide)) (fun j hj => ?_) (fun j hj => ru_n (fun z => by omega)) (fun k hk => ?_)
  · rw [hn 1 i (by decide), hde, h.2.2.2.1, if_pos hi]
  · by_cases q : j = j0
    · rw [q, ru_e, he]
    · rw [ru_n (fun z => q z.2), hce j q, h.2.2.2.2.1, if_pos hj]
  · rw [hn 5 k (by decide), hke, h.2.2.2.2.2.1 k hk]
/-- one collector is written -/
theorem cOb.col1 (h : cOb G T C ad) (h0 : T' 0 = T 0) {k0 : Nat} {e : va_E} (hd : k0 < 8) (he : e = clO T' ad k0) (hde : ∀ i, diO T' ad i = diO T ad i) (hce : ∀ j, coO T' ad j = coO T ad j) (hke : ∀ k, k ≠ k0 → clO T' ad k = clO T ad k) : cOb G T' (ru C 5 k0 (some e)) ad := by
  have hn : ∀ a b, a ≠ 5 → ru C 5 k0 (some e) a b = C a b := fun a b ha => ru_n (fun z => ha z.1)
  refine h.up h0 (fun a b _ _ ha _ => hn a b ha) (fun i hi => ?_) (fun i hi => hn 1 i (by decide)) (fun j hj => ?_) (fun j hj => hn 4 j (by decide)) (fun k hk => ?_)
  · rw [hn 1 i (by decide), hde, h.2.2.2.1, if_pos hi]
  · rw [hn 4 j (by decide), hce, h.2.2.2.2.1, if_pos hj]
  · by_cases q : k = k0
    · rw [q, ru_e, he]
    · rw [ru_n (fun z => q z.2), hke k q, h.2.2.2.2.2.1 k hk]
theorem ru_ge {a0 b0 : Nat} {e : Option va_E} (h : a0 < 10) : ∀ a b, 10 ≤ a → ru C a0 b0 e a b = C a b := fun a b ha => ru_n (fun z => by omega)
theorem cFr.ru1 {a0 b0 : Nat} {e : Option va_E} (h : a0 < 30) : cFr C ad (ru C a0 b0 e) ad := ⟨fun a b ha => ⟨ru_n (fun z => by omega), rfl⟩, rfl⟩
end UP
theorem wS {f : rTab} {k i v b : Nat} (h : b ≠ i) (a : Nat) : ru f k i v a b = f a b := ru_n (fun z => h z.2)
theorem tru_congr {T T' : rTab} {j : Nat} (h7 : T' 7 j = T 7 j) (h5 : T' 5 j = T 5 j) (h4 : T' 4 (T 5 j) = T 4 (T 5 j)) : tru T' j = tru T j := by
  unfold tru
  rw [h7, h5, h4]
def ec2 (n : Nat) : String := if n = 1 then eIOB else eISE
def ec3 (n : Nat) : String := if n = 1 then eIOB else if n = 2 then eIAE else eISE
def pM (G : rG) (C : rC) (ad : rA) (S : sR) : Option Value → rC → rA → Prop := rRet fun r C' ad' => (S.1 = 0 ∧ r = .int S.2.1) ∧ ∃ L', cInv G S.2.2 L' C' ad' ∧ cFr C ad C' ad'
def xM (G : rG) (C : rC) (ad : rA) (S : sR) (ec : Nat → String) : String → rC → rA → Prop := fun E C' ad' => (S.1 ≠ 0 ∧ E = ec S.1) ∧ ∃ L', cInv G S.2.2 L' C' ad' ∧ cFr C ad C' ad'
theorem pM.mk {G : rG} {C C' : rC} {ad ad' : rA} {S : sR} {v : Int32} {T' : rTab} {L' : rL} (h : S = (0, v, T')) (hI : cInv G T' L' C' ad') (hF : cFr C ad C' ad') : pM G C ad S (some (.int v)) C' ad' := by
  subst h
  exact ⟨_, rfl, ⟨rfl, rfl⟩, L', hI, hF⟩
theorem xM.mk {G : rG} {C : rC} {ad : rA} {S : sR} {ec : Nat → String} {n : Nat} {T : rTab} {L : rL} {v : Int32} (h : S = (n, v, T)) (hn : n ≠ 0) (hI : cInv G T L C ad) : xM G C ad S ec (ec n) C ad := by
  subst h
  exact ⟨⟨hn, rfl⟩, L, hI, cFr.rf⟩
