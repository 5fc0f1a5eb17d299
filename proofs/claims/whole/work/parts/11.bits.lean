/-! bits of a long, and how many: pure rows -/
def bitt (x : Int64) (i : Nat) : Bool := x.toBitVec.getLsbD i
theorem bt_or (x y : Int64) (i : Nat) : bitt (x ||| y) i = (bitt x i || bitt y i) := by
  unfold bitt; rw [Int64.toBitVec_or, BitVec.getLsbD_or]
theorem bt_and (x y : Int64) (i : Nat) : bitt (x &&& y) i = (bitt x i && bitt y i) := by
  unfold bitt; rw [Int64.toBitVec_and, BitVec.getLsbD_and]
theorem bt_m1 {i : Nat} (h : i < 64) : bitt (-1) i = true := by
  have e : (-1 : Int64).toBitVec = BitVec.allOnes 64 := by decide
  unfold bitt; rw [e, BitVec.getLsbD_allOnes]; simp [h]
theorem bt_not (x : Int64) {i : Nat} (h : i < 64) : bitt (x ^^^ (-1)) i = !bitt x i := by
  have e : (-1 : Int64).toBitVec = BitVec.allOnes 64 := by decide
  unfold bitt; rw [Int64.toBitVec_xor, e, BitVec.getLsbD_xor, BitVec.getLsbD_allOnes]; simp [h]
theorem bt_zero (i : Nat) : bitt 0 i = false := by
  have e : (0 : Int64).toBitVec = 0#64 := by decide
  unfold bitt; rw [e]; simp
theorem bt_big (x : Int64) {i : Nat} (h : 64 ≤ i) : bitt x i = false := by
  unfold bitt; exact BitVec.getLsbD_of_ge _ _ h
theorem bt_ext {x y : Int64} (h : ∀ i, i < 64 → bitt x i = bitt y i) : x = y := by
  apply Int64.toBitVec_inj.mp
  exact BitVec.eq_of_getLsbD_eq (fun i hi => h i hi)
/-- the bit of a block -/
def bit1 (b : Nat) : Int64 := (1 : Int64) <<< ((nI b).toInt64 &&& 63)
theorem bit1_bv : ∀ b, b < 64 → (bit1 b).toBitVec = BitVec.twoPow 64 b := by decide +kernel
theorem bt_bit1 {b : Nat} (h : b < 64) (i : Nat) : bitt (bit1 b) i = decide (i = b) := by
  unfold bitt; rw [bit1_bv b h, BitVec.getLsbD_twoPow]
  by_cases e : b = i
  · subst e; simp [h]
  · simp [e, Ne.symm e]
theorem bit1_mask : ∀ b, b < 64 → (bit1 b - 1).toBitVec = BitVec.ofNat 64 (2 ^ b - 1) := by decide +kernel
theorem bt_mask {b : Nat} (h : b < 64) (i : Nat) : bitt (bit1 b - 1) i = decide (i < b) := by
  unfold bitt; rw [bit1_mask b h, BitVec.getLsbD_ofNat, Nat.testBit_two_pow_sub_one]
  by_cases e : i < b
  · simp [e, Nat.lt_trans e h]
  · simp [e]
theorem bt_holds (x : Int64) {b : Nat} (h : b < 64) : (x &&& bit1 b = 0) ↔ bitt x b = false := by
  constructor
  · intro e
    have q := bt_and x (bit1 b) b
    rw [e, bt_zero, bt_bit1 h] at q
    simpa using q.symm
  · intro e
    apply bt_ext
    intro i hi
    rw [bt_and, bt_bit1 h, bt_zero]
    by_cases q : i = b
    · subst q; simp [e]
    · simp [q]
/-- how many of the first n -/
def cntB (f : Nat → Bool) : Nat → Nat
  | 0 => 0
  | n + 1 => cntB f n + (if f n then 1 else 0)
def cnt (x : Int64) : Nat := cntB (bitt x) 64
theorem cntB_le (f : Nat → Bool) (n : Nat) : cntB f n ≤ n := by
  induction n with
  | zero => exact Nat.le_refl 0
  | succ n ih => unfold cntB; split <;> omega
theorem cntB_congr {f g : Nat → Bool} (n : Nat) (h : ∀ i, i < n → f i = g i) : cntB f n = cntB g n := by
  induction n with
  | zero => rfl
  | succ n ih => unfold cntB; rw [ih (fun i hi => h i (Nat.lt_succ_of_lt hi)), h n (Nat.lt_succ_self n)]
theorem cntB_mono {f : Nat → Bool} {a b : Nat} (h : a ≤ b) : cntB f a ≤ cntB f b := by
  induction b with
  | zero => rw [Nat.le_zero.mp h]; exact Nat.le_refl _
  | succ b ih =>
    rcases Nat.lt_or_ge a (b + 1) with q | q
    · have := ih (by omega); show cntB f a ≤ cntB f b + _; split <;> omega
    · rw [show a = b + 1 by omega]; exact Nat.le_refl _
theorem cntB_lt {f : Nat → Bool} {a b : Nat} (h : a < b) (ha : f a = true) : cntB f a < cntB f b := by
  have h1 : cntB f (a + 1) ≤ cntB f b := cntB_mono h
  have h2 : cntB f (a + 1) = cntB f a + 1 := by show cntB f a + _ = _; rw [ha]; rfl
  omega
theorem cntB_zero {f : Nat → Bool} {n : Nat} : cntB f n = 0 ↔ ∀ i, i < n → f i = false := by
  induction n with
  | zero => exact ⟨fun _ i hi => absurd hi (Nat.not_lt_zero i), fun _ => rfl⟩
  | succ n ih =>
    show cntB f n + (if f n = true then 1 else 0) = 0 ↔ _
    constructor
    · intro h i hi
      by_cases q : i = n
      · subst q
        cases e : f i
        · rfl
        · rw [e] at h; simp at h
      · exact ih.mp (by omega) i (by omega)
    · intro h
      rw [ih.mpr (fun i hi => h i (by omega)), h n (Nat.lt_succ_self n)]; rfl
theorem cntB_pt {f g : Nat → Bool} {b : Nat} (h : ∀ i, i ≠ b → f i = g i) (n : Nat) : cntB f n ≤ cntB g n + 1 ∧ (n ≤ b → cntB f n = cntB g n) := by
  induction n with
  | zero => exact ⟨by simp [cntB], fun _ => rfl⟩
  | succ n ih =>
    have e1 : cntB f (n + 1) = cntB f n + (if f n = true then 1 else 0) := rfl
    have e2 : cntB g (n + 1) = cntB g n + (if g n = true then 1 else 0) := rfl
    rw [e1, e2]
    by_cases q : n = b
    · subst q
      have := ih.2 (Nat.le_refl _)
      refine ⟨?_, fun z => absurd z (by omega)⟩
      split <;> split <;> omega
    · rw [h n q]
      refine ⟨?_, fun z => ?_⟩
      · have := ih.1; omega
      · rw [ih.2 (by omega)]
theorem cnt_zero {x : Int64} : cnt x = 0 ↔ x = 0 := by
  unfold cnt; rw [cntB_zero]
  exact ⟨fun h => bt_ext (fun i hi => by rw [h i hi, bt_zero]), fun h i _ => by rw [h, bt_zero]⟩
theorem cnt_le (x : Int64) : cnt x ≤ 64 := cntB_le _ _
theorem cnt_or1 (x : Int64) {b : Nat} (hb : b < 64) : cnt (x ||| bit1 b) ≤ cnt x + 1 := by
  unfold cnt
  exact (cntB_pt (b := b) (fun i hi => by rw [bt_or, bt_bit1 hb]; simp [hi]) 64).1
theorem or1_self (x : Int64) {b : Nat} (hb : b < 64) (h : bitt x b = true) : x ||| bit1 b = x := by
  apply bt_ext
  intro i _
  rw [bt_or, bt_bit1 hb]
  by_cases q : i = b
  · subst q; simp [h]
  · simp [q]
theorem cnt_mask (x : Int64) {b : Nat} (hb : b < 64) : cnt (x &&& (bit1 b - 1)) = cntB (bitt x) b := by
  unfold cnt
  have key : ∀ n, b ≤ n → n ≤ 64 → cntB (bitt (x &&& (bit1 b - 1))) n = cntB (bitt x) b := by
    intro n h1 h2
    induction n with
    | zero => rw [show b = 0 by omega]; rfl
    | succ n ih =>
      rcases Nat.lt_or_ge b (n + 1) with q | q
      · show cntB _ n + (if bitt (x &&& (bit1 b - 1)) n = true then 1 else 0) = _
        rw [ih (by omega) (by omega), bt_and, bt_mask hb]
        simp [show ¬ n < b by omega]
      · rw [show b = n + 1 by omega]
        exact cntB_congr _ (fun i hi => by rw [bt_and, bt_mask (by omega)]; simp [hi])
  exact key 64 (by omega) (Nat.le_refl _)
theorem cnt_sub {x y : Int64} (h : ∀ i, i < 64 → bitt x i = true → bitt y i = true) : cnt x ≤ cnt y := by
  unfold cnt
  have key : ∀ n, n ≤ 64 → cntB (bitt x) n ≤ cntB (bitt y) n := by
    intro n hn
    induction n with
    | zero => exact Nat.le_refl _
    | succ n ih =>
      show cntB _ n + _ ≤ cntB _ n + _
      have := ih (by omega)
      cases e : bitt x n
      · simp; omega
      · rw [h n (by omega) e]; simp; omega
  exact key 64 (Nat.le_refl _)
