/-! the count of bits, as the library reckons it: 65,536 numbers, by the kernel -/
def bc1 (x : Nat) : Nat := Nat.sub x (Nat.land (Nat.div x 2) 1431655765)
def bc2 (a : Nat) : Nat := Nat.add (Nat.land a 858993459) (Nat.land (Nat.div a 4) 858993459)
def bc3 (b : Nat) : Nat := Nat.land (Nat.add b (Nat.div b 16)) 252645135
def bc4 (c : Nat) : Nat := Nat.add c (Nat.div c 256)
def bc5 (d : Nat) : Nat := Nat.land (Nat.add d (Nat.div d 65536)) 63
def bcN (x : Nat) : Nat := bc5 (bc4 (bc3 (bc2 (bc1 x))))
def bt2 (x k : Nat) : Nat := Nat.mod (Nat.div x k) 2
def bitsF (x : Nat) : Nat := Nat.add (Nat.add (Nat.add (Nat.add (Nat.add (Nat.add (Nat.add (Nat.add (Nat.add (Nat.add (Nat.add (Nat.add (Nat.add (Nat.add (Nat.add (Nat.add (0) (bt2 x 1)) (bt2 x 2)) (bt2 x 4)) (bt2 x 8)) (bt2 x 16)) (bt2 x 32)) (bt2 x 64)) (bt2 x 128)) (bt2 x 256)) (bt2 x 512)) (bt2 x 1024)) (bt2 x 2048)) (bt2 x 4096)) (bt2 x 8192)) (bt2 x 16384)) (bt2 x 32768)
noncomputable def bcT (base n : Nat) : Bool := Nat.rec (motive := fun _ => Bool) true (fun k ih => Bool.and (Nat.beq (bcN (Nat.add base k)) (bitsF (Nat.add base k))) ih) n
theorem bcT_all {base : Nat} : ∀ {n : Nat}, bcT base n = true → ∀ k, k < n → bcN (base + k) = bitsF (base + k) := by
  intro n
  induction n with
  | zero => intro _ k hk; exact absurd hk (Nat.not_lt_zero _)
  | succ n ih =>
    intro h k hk
    have h2 : Bool.and (Nat.beq (bcN (Nat.add base n)) (bitsF (Nat.add base n))) (bcT base n) = true := h
    have h3 := (Bool.and_eq_true _ _).mp h2
    by_cases e : k = n
    · rw [e]
      exact Nat.eq_of_beq_eq_true h3.1
    · exact ih h3.2 k (by omega)
theorem bcT_0 : bcT 0 4096 = true := by decide +kernel
theorem bcT_1 : bcT 4096 4096 = true := by decide +kernel
theorem bcT_2 : bcT 8192 4096 = true := by decide +kernel
theorem bcT_3 : bcT 12288 4096 = true := by decide +kernel
theorem bcT_4 : bcT 16384 4096 = true := by decide +kernel
theorem bcT_5 : bcT 20480 4096 = true := by decide +kernel
theorem bcT_6 : bcT 24576 4096 = true := by decide +kernel
theorem bcT_7 : bcT 28672 4096 = true := by decide +kernel
theorem bcT_8 : bcT 32768 4096 = true := by decide +kernel
theorem bcT_9 : bcT 36864 4096 = true := by decide +kernel
theorem bcT_10 : bcT 40960 4096 = true := by decide +kernel
theorem bcT_11 : bcT 45056 4096 = true := by decide +kernel
theorem bcT_12 : bcT 49152 4096 = true := by decide +kernel
theorem bcT_13 : bcT 53248 4096 = true := by decide +kernel
theorem bcT_14 : bcT 57344 4096 = true := by decide +kernel
theorem bcT_15 : bcT 61440 4096 = true := by decide +kernel
theorem bit_mod (x k : Nat) : (if x.testBit k = true then 1 else 0) = bt2 x (2 ^ k) := by
  show _ = x / 2 ^ k % 2
  rw [Nat.testBit_eq_decide_div_mod_eq]
  have h3 : x / 2 ^ k % 2 < 2 := Nat.mod_lt _ (by decide)
  by_cases h : x / 2 ^ k % 2 = 1
  · rw [h, decide_eq_true rfl, if_pos rfl]
  · rw [decide_eq_false h, if_neg Bool.false_ne_true]
    omega
theorem bitsF_eq (x : Nat) : bitsN x = bitsF x := by
  have h : bitsN x = ((((((((((((((((0 + (if x.testBit 0 = true then 1 else 0)) + (if x.testBit 1 = true then 1 else 0)) + (if x.testBit 2 = true then 1 else 0)) + (if x.testBit 3 = true then 1 else 0)) + (if x.testBit 4 = true then 1 else 0)) + (if x.testBit 5 = true then 1 else 0)) + (if x.testBit 6 = true then 1 else 0)) + (if x.testBit 7 = true then 1 else 0)) + (if x.testBit 8 = true then 1 else 0)) + (if x.testBit 9 = true then 1 else 0)) + (if x.testBit 10 = true then 1 else 0)) + (if x.testBit 11 = true then 1 else 0)) + (if x.testBit 12 = true then 1 else 0)) + (if x.testBit 13 = true then 1 else 0)) + (if x.testBit 14 = true then 1 else 0)) + (if x.testBit 15 = true then 1 else 0)) := rfl
  rw [h, bit_mod x 0, bit_mod x 1, bit_mod x 2, bit_mod x 3, bit_mod x 4, bit_mod x 5, bit_mod x 6, bit_mod x 7, bit_mod x 8, bit_mod x 9, bit_mod x 10, bit_mod x 11, bit_mod x 12, bit_mod x 13, bit_mod x 14, bit_mod x 15]
  rfl
theorem bc_bits {x : Nat} (h : x < 65536) : bcN x = bitsN x := by
  rw [bitsF_eq]
  rcases (show x / 4096 = 0 ∨ x / 4096 = 1 ∨ x / 4096 = 2 ∨ x / 4096 = 3 ∨ x / 4096 = 4 ∨ x / 4096 = 5 ∨ x / 4096 = 6 ∨ x / 4096 = 7 ∨ x / 4096 = 8 ∨ x / 4096 = 9 ∨ x / 4096 = 10 ∨ x / 4096 = 11 ∨ x / 4096 = 12 ∨ x / 4096 = 13 ∨ x / 4096 = 14 ∨ x / 4096 = 15 by omega) with q | q | q | q | q | q | q | q | q | q | q | q | q | q | q | q
  · have h2 := bcT_all bcT_0 (x - 0) (by omega)
    rwa [show 0 + (x - 0) = x by omega] at h2
  · have h2 := bcT_all bcT_1 (x - 4096) (by omega)
    rwa [show 4096 + (x - 4096) = x by omega] at h2
  · have h2 := bcT_all bcT_2 (x - 8192) (by omega)
    rwa [show 8192 + (x - 8192) = x by omega] at h2
  · have h2 := bcT_all bcT_3 (x - 12288) (by omega)
    rwa [show 12288 + (x - 12288) = x by omega] at h2
  · have h2 := bcT_all bcT_4 (x - 16384) (by omega)
    rwa [show 16384 + (x - 16384) = x by omega] at h2
  · have h2 := bcT_all bcT_5 (x - 20480) (by omega)
    rwa [show 20480 + (x - 20480) = x by omega] at h2
  · have h2 := bcT_all bcT_6 (x - 24576) (by omega)
    rwa [show 24576 + (x - 24576) = x by omega] at h2
  · have h2 := bcT_all bcT_7 (x - 28672) (by omega)
    rwa [show 28672 + (x - 28672) = x by omega] at h2
  · have h2 := bcT_all bcT_8 (x - 32768) (by omega)
    rwa [show 32768 + (x - 32768) = x by omega] at h2
  · have h2 := bcT_all bcT_9 (x - 36864) (by omega)
    rwa [show 36864 + (x - 36864) = x by omega] at h2
  · have h2 := bcT_all bcT_10 (x - 40960) (by omega)
    rwa [show 40960 + (x - 40960) = x by omega] at h2
  · have h2 := bcT_all bcT_11 (x - 45056) (by omega)
    rwa [show 45056 + (x - 45056) = x by omega] at h2
  · have h2 := bcT_all bcT_12 (x - 49152) (by omega)
    rwa [show 49152 + (x - 49152) = x by omega] at h2
  · have h2 := bcT_all bcT_13 (x - 53248) (by omega)
    rwa [show 53248 + (x - 53248) = x by omega] at h2
  · have h2 := bcT_all bcT_14 (x - 57344) (by omega)
    rwa [show 57344 + (x - 57344) = x by omega] at h2
  · have h2 := bcT_all bcT_15 (x - 61440) (by omega)
    rwa [show 61440 + (x - 61440) = x by omega] at h2
