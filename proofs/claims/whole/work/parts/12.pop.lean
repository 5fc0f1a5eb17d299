/-! how many bits: the JDK's own way of counting, bytewise -/
def vl : List Nat → Nat
  | [] => 0
  | a :: l => a + 256 * vl l
theorem vl_of : ∀ (k X : Nat), X < 256 ^ k → ∃ l : List Nat, l.length = k ∧ (∀ a ∈ l, a < 256) ∧ X = vl l := by
  intro k
  induction k with
  | zero =>
    intro X h
    refine ⟨[], rfl, fun a h => (nomatch h), ?_⟩
    have h2 : X < 1 := h
    show X = 0
    omega
  | succ k ih =>
    intro X h
    obtain ⟨l, h1, h2, h3⟩ := ih (X / 256) (by rw [Nat.pow_succ] at h; omega)
    refine ⟨X % 256 :: l, by simp [h1], fun a ha => ?_, ?_⟩
    · rcases List.mem_cons.mp ha with q | q
      · rw [q]; exact Nat.mod_lt _ (by decide)
      · exact h2 a q
    · show X = X % 256 + 256 * vl l
      rw [← h3]; omega
theorem and_step {a c q Q : Nat} (ha : a < 256) (hc : c < 256) : (a + 256 * q) &&& (c + 256 * Q) = (a &&& c) + 256 * (q &&& Q) := by
  have h1 : ((a + 256 * q) &&& (c + 256 * Q)) % 2 ^ 8 = (a &&& c) := by
    rw [Nat.and_mod_two_pow, show (a + 256 * q) % 2 ^ 8 = a by omega, show (c + 256 * Q) % 2 ^ 8 = c by omega]
  have h2 : ((a + 256 * q) &&& (c + 256 * Q)) / 2 ^ 8 = (q &&& Q) := by
    rw [Nat.and_div_two_pow, show (a + 256 * q) / 2 ^ 8 = q by omega, show (c + 256 * Q) / 2 ^ 8 = Q by omega]
  have h3 := Nat.div_add_mod ((a + 256 * q) &&& (c + 256 * Q)) (2 ^ 8)
  rw [h1, h2] at h3
  omega
def mkm (c : Nat) : Nat → Nat
  | 0 => 0
  | k + 1 => c + 256 * mkm c k
def pA (a : Nat) : Nat := a - (a / 2 &&& 85)
def pB (a : Nat) : Nat := (a &&& 51) + (a / 4 &&& 51)
def pC (a : Nat) : Nat := (a + a / 16) &&& 15
theorem pA_d : ∀ a, a < 256 → (a / 2 + 128 &&& 85) = (a / 2 &&& 85) ∧ (a / 2 &&& 85) ≤ a ∧ pA a < 256 := by decide +kernel
theorem pB_d : ∀ a, a < 256 → (∀ r, r < 4 → (a / 4 + 64 * r &&& 51) = (a / 4 &&& 51)) := by decide +kernel
theorem pB_s : ∀ a, a < 256 → pB (pA a) ≤ 68 ∧ pB (pA a) % 16 ≤ 4 := by decide +kernel
theorem pC_d : ∀ a, a < 69 → ∀ r, r < 5 → (a + a / 16 + 16 * r &&& 15) = pC a := by decide +kernel
theorem pop_d : ∀ a, a < 256 → pC (pB (pA a)) = cntB (Nat.testBit a) 8 ∧ pC (pB (pA a)) ≤ 8 := by decide +kernel
theorem swA : ∀ l : List Nat, (∀ a ∈ l, a < 256) → vl l - (vl l / 2 &&& mkm 85 l.length) = vl (l.map pA) ∧ (vl l / 2 &&& mkm 85 l.length) ≤ vl l := by
  intro l
  induction l with
  | nil => intro _; exact ⟨rfl, Nat.le_refl _⟩
  | cons a l ih =>
    intro h
    have ha : a < 256 := h a List.mem_cons_self
    obtain ⟨i1, i2⟩ := ih (fun x hx => h x (List.mem_cons_of_mem _ hx))
    obtain ⟨d1, d2, d3⟩ := pA_d a ha
    have e : (vl (a :: l) / 2 &&& mkm 85 (a :: l).length) = (a / 2 &&& 85) + 256 * (vl l / 2 &&& mkm 85 l.length) := by
      show ((a + 256 * vl l) / 2 &&& (85 + 256 * mkm 85 l.length)) = _
      rcases Nat.mod_two_eq_zero_or_one (vl l) with q | q
      · rw [show (a + 256 * vl l) / 2 = a / 2 + 256 * (vl l / 2) by omega, and_step (by omega) (by decide)]
      · rw [show (a + 256 * vl l) / 2 = (a / 2 + 128) + 256 * (vl l / 2) by omega, and_step (by omega) (by decide), d1]
    rw [e]
    show (a + 256 * vl l) - _ = pA a + 256 * vl (l.map pA) ∧ _ ≤ a + 256 * vl l
    rw [← i1]
    unfold pA
    omega
theorem swB : ∀ l : List Nat, (∀ a ∈ l, a < 256) → (vl l &&& mkm 51 l.length) + (vl l / 4 &&& mkm 51 l.length) = vl (l.map pB) := by
  intro l
  induction l with
  | nil => intro _; rfl
  | cons a l ih =>
    intro h
    have ha : a < 256 := h a List.mem_cons_self
    have i1 := ih (fun x hx => h x (List.mem_cons_of_mem _ hx))
    have d1 := pB_d a ha (vl l % 4) (Nat.mod_lt _ (by decide))
    have e : (vl (a :: l) / 4 &&& mkm 51 (a :: l).length) = (a / 4 &&& 51) + 256 * (vl l / 4 &&& mkm 51 l.length) := by
      show ((a + 256 * vl l) / 4 &&& (51 + 256 * mkm 51 l.length)) = _
      rw [show (a + 256 * vl l) / 4 = (a / 4 + 64 * (vl l % 4)) + 256 * (vl l / 4) by omega, and_step (by omega) (by decide), d1]
    rw [e]
    show ((a + 256 * vl l) &&& (51 + 256 * mkm 51 l.length)) + _ = pB a + 256 * vl (l.map pB)
    rw [and_step ha (by decide), ← i1]
    unfold pB
    omega
theorem swC : ∀ l : List Nat, (∀ a ∈ l, a ≤ 68 ∧ a % 16 ≤ 4) → (vl l + vl l / 16 &&& mkm 15 l.length) = vl (l.map pC) ∧ vl l % 16 ≤ 4 := by
  intro l
  induction l with
  | nil => intro _; exact ⟨rfl, by decide⟩
  | cons a l ih =>
    intro h
    obtain ⟨ha, hb⟩ := h a List.mem_cons_self
    obtain ⟨i1, i2⟩ := ih (fun x hx => h x (List.mem_cons_of_mem _ hx))
    have d1 := pC_d a (by omega) (vl l % 16) (by omega)
    refine ⟨?_, by show (a + 256 * vl l) % 16 ≤ 4; omega⟩
    show ((a + 256 * vl l) + (a + 256 * vl l) / 16 &&& (15 + 256 * mkm 15 l.length)) = pC a + 256 * vl (l.map pC)
    rw [show (a + 256 * vl l) + (a + 256 * vl l) / 16 = (a + a / 16 + 16 * (vl l % 16)) + 256 * (vl l + vl l / 16) by omega, and_step (by omega) (by decide), d1, i1]
theorem cntB_add (f : Nat → Bool) (a : Nat) : ∀ b, cntB f (a + b) = cntB f a + cntB (fun i => f (a + i)) b := by
  intro b
  induction b with
  | zero => rfl
  | succ b ih =>
    show cntB f (a + b) + (if f (a + b) = true then 1 else 0) = cntB f a + (cntB (fun i => f (a + i)) b + (if f (a + b) = true then 1 else 0))
    rw [ih]
    omega
def su : List Nat → Nat
  | [] => 0
  | a :: l => a + su l
theorem cnt_vl : ∀ l : List Nat, (∀ a ∈ l, a < 256) → cntB (Nat.testBit (vl l)) (8 * l.length) = su (l.map (fun a => cntB (Nat.testBit a) 8)) := by
  intro l
  induction l with
  | nil => intro _; rfl
  | cons a l ih =>
    intro h
    have ha : a < 2 ^ 8 := h a List.mem_cons_self
    have i1 := ih (fun x hx => h x (List.mem_cons_of_mem _ hx))
    have e : ∀ j, Nat.testBit (vl (a :: l)) j = if j < 8 then Nat.testBit a j else Nat.testBit (vl l) (j - 8) := by
      intro j
      rw [show vl (a :: l) = 2 ^ 8 * vl l + a from (by show a + 256 * vl l = _; omega), Nat.testBit_two_pow_mul_add _ ha]
    rw [show 8 * (a :: l).length = 8 + 8 * l.length from (by simp; omega), cntB_add]
    show _ = cntB (Nat.testBit a) 8 + su (l.map _)
    rw [← i1]
    congr 1
    · exact cntB_congr _ (fun i hi => by rw [e, if_pos hi])
    · exact cntB_congr _ (fun i hi => by show Nat.testBit (vl (a :: l)) (8 + i) = _; rw [e, if_neg (by omega)]; congr 1; omega)
theorem map_su : ∀ l : List Nat, (∀ a ∈ l, a < 256) → su (l.map (fun a => cntB (Nat.testBit a) 8)) = su (((l.map pA).map pB).map pC) := by
  intro l
  induction l with
  | nil => intro _; rfl
  | cons a l ih =>
    intro h
    show cntB (Nat.testBit a) 8 + su _ = pC (pB (pA a)) + su _
    rw [ih (fun x hx => h x (List.mem_cons_of_mem _ hx)), (pop_d a (h a List.mem_cons_self)).1]
/-- the whole count, over the naturals -/
theorem swar {X : Nat} (h : X < 2 ^ 64) :
    (X / 2 &&& 0x5555555555555555) ≤ X ∧ ∃ A B C : Nat, A = X - (X / 2 &&& 0x5555555555555555) ∧ B = (A &&& 0x3333333333333333) + (A / 4 &&& 0x3333333333333333) ∧ B + B / 16 < 2 ^ 64 ∧ C = (B + B / 16 &&& 0x0f0f0f0f0f0f0f0f) ∧
      ∃ E F G : Nat, E = C + C / 256 ∧ F = E + E / 65536 ∧ G = F + F / 4294967296 ∧ E < 2 ^ 64 ∧ F < 2 ^ 64 ∧ G < 2 ^ 64 ∧ G % 128 = cntB (Nat.testBit X) 64 := by
  obtain ⟨l, h1, h2, rfl⟩ := vl_of 8 X (by simpa using h)
  have m5 : mkm 85 8 = 0x5555555555555555 := by decide
  have m3 : mkm 51 8 = 0x3333333333333333 := by decide
  have m0 : mkm 15 8 = 0x0f0f0f0f0f0f0f0f := by decide
  obtain ⟨a1, a2⟩ := swA l h2
  rw [h1, m5] at a1 a2
  have hA : ∀ a ∈ l.map pA, a < 256 := fun a ha => by
    obtain ⟨x, hx, rfl⟩ := List.mem_map.mp ha
    exact (pA_d x (h2 x hx)).2.2
  have b1 := swB (l.map pA) hA
  rw [List.length_map, h1, m3] at b1
  have hB : ∀ a ∈ (l.map pA).map pB, a ≤ 68 ∧ a % 16 ≤ 4 := fun a ha => by
    obtain ⟨y, hy, rfl⟩ := List.mem_map.mp ha
    obtain ⟨x, hx, rfl⟩ := List.mem_map.mp hy
    exact pB_s x (h2 x hx)
  have c1 := (swC ((l.map pA).map pB) hB).1
  rw [List.length_map, List.length_map, h1, m0] at c1
  have hc := cnt_vl l h2
  rw [h1, map_su l h2] at hc
  have hC : ∀ a ∈ ((l.map pA).map pB).map pC, a ≤ 8 := fun a ha => by
    obtain ⟨z, hz, rfl⟩ := List.mem_map.mp ha
    obtain ⟨y, hy, rfl⟩ := List.mem_map.mp hz
    obtain ⟨x, hx, rfl⟩ := List.mem_map.mp hy
    exact (pop_d x (h2 x hx)).2
  have hlC : (((l.map pA).map pB).map pC).length = 8 := by simp [h1]
  have hlB : ((l.map pA).map pB).length = 8 := by simp [h1]
  refine ⟨a2, _, _, _, rfl, rfl, ?_, rfl, ?_⟩
  · rw [a1, b1]
    generalize (l.map pA).map pB = k at hB hlB
    match k, hlB, hB with
    | [k0, k1, k2, k3, k4, k5, k6, k7], _, hB =>
      simp only [List.mem_cons, List.not_mem_nil, or_false, forall_eq_or_imp, forall_eq] at hB
      simp only [vl]
      omega
  · rw [a1, b1, c1]
    rw [show (8 * 8 : Nat) = 64 from rfl] at hc
    rw [hc]
    generalize ((l.map pA).map pB).map pC = k at hC hlC
    match k, hlC, hC with
    | [k0, k1, k2, k3, k4, k5, k6, k7], _, hC =>
      simp only [List.mem_cons, List.not_mem_nil, or_false, forall_eq_or_imp, forall_eq] at hC
      simp only [vl, su]
      obtain ⟨g0, g1, g2, g3, g4, g5, g6, g7⟩ := hC
      exact ⟨1 * (k0 + k1) + 256 * (k1 + k2) + 65536 * (k2 + k3) + 16777216 * (k3 + k4) + 4294967296 * (k4 + k5) + 1099511627776 * (k5 + k6) + 281474976710656 * (k6 + k7) + 72057594037927936 * (k7), 1 * (k0 + k1 + k2 + k3) + 256 * (k1 + k2 + k3 + k4) + 65536 * (k2 + k3 + k4 + k5) + 16777216 * (k3 + k4 + k5 + k6) + 4294967296 * (k4 + k5 + k6 + k7) + 1099511627776 * (k5 + k6 + k7) + 281474976710656 * (k6 + k7) + 72057594037927936 * (k7), 1 * (k0 + k1 + k2 + k3) + 256 * (k1 + k2 + k3 + k4) + 65536 * (k2 + k3 + k4 + k5) + 16777216 * (k3 + k4 + k5 + k6) + 4294967296 * (k4 + k5 + k6 + k7) + 1099511627776 * (k5 + k6 + k7) + 281474976710656 * (k6 + k7) + 72057594037927936 * (k7) + (1 * (k4 + k5 + k6 + k7) + 256 * (k5 + k6 + k7) + 65536 * (k6 + k7) + 16777216 * (k7)), by omega, by omega, by omega, by omega, by omega, by omega, by omega⟩
/-! Long.bitCount's own arithmetic. The rows uN .. uN_sk are the kit's (laws/BITS.to-paste) -/
def uN (x : Int64) : Nat := x.toUInt64.toNat
theorem uN_lt (x : Int64) : uN x < 18446744073709551616 := x.toUInt64.toNat_lt
theorem uN_add (x y : Int64) : uN (x + y) = (uN x + uN y) % 18446744073709551616 := by
  show (x.toUInt64 + y.toUInt64).toNat = _
  exact UInt64.toNat_add _ _
theorem uN_shr (x : Int64) (s : UInt64) : uN (x.toUInt64 >>> s).toInt64 = uN x / 2 ^ (s.toNat % 64) := by
  show (x.toUInt64 >>> s).toNat = _
  rw [UInt64.toNat_shiftRight, Nat.shiftRight_eq_div_pow]
  rfl
theorem uN_sk (x : Int64) {k : Nat} (hk : k < 64) : uN (x.toUInt64 >>> ((nI k).toInt64.toUInt64 &&& Int64.toUInt64 63)).toInt64 = uN x / 2 ^ k := by
  have h : ((nI k).toInt64.toUInt64 &&& Int64.toUInt64 63).toNat % 64 = k := by
    rw [nI_l (by omega), UInt64.toNat_and]
    have e : (lN k).toUInt64.toNat = k % 2 ^ 64 := rfl
    have e2 : (Int64.toUInt64 63).toNat = 2 ^ 6 - 1 := by decide
    rw [e, e2, Nat.and_two_pow_sub_one_eq_mod]
    omega
  rw [uN_shr, h]
theorem uN_and2 (x y : Int64) : uN (x &&& y) = uN x &&& uN y := UInt64.toNat_and _ _
theorem uN_sub2 {x y : Int64} (h : uN y ≤ uN x) : uN (x - y) = uN x - uN y := by
  show (x.toUInt64 - y.toUInt64).toNat = _
  exact UInt64.toNat_sub_of_le _ _ (UInt64.le_iff_toNat_le.mpr h)
theorem uN_add2 {x y : Int64} (h : uN x + uN y < 2 ^ 64) : uN (x + y) = uN x + uN y := by
  rw [uN_add]; exact Nat.mod_eq_of_lt h
def shr (x : Int64) (k : Int32) : Int64 := ((Int64.toUInt64 x) >>> ((Int32.toInt64 k).toUInt64 &&& Int64.toUInt64 63)).toInt64
theorem shr_k (x : Int64) (k : Nat) (hk : k < 64) : uN (shr x (nI k)) = uN x / 2 ^ k := uN_sk x hk
theorem bc_all {x a1 a2 a3 a4 a5 a6 : Int64} (e1 : a1 = x - (shr x 1 &&& 6148914691236517205)) (e2 : a2 = (a1 &&& 3689348814741910323) + (shr a1 2 &&& 3689348814741910323)) (e3 : a3 = (a2 + shr a2 4) &&& 1085102592571150095) (e4 : a4 = a3 + shr a3 8) (e5 : a5 = a4 + shr a4 16) (e6 : a6 = a5 + shr a5 32) : a6.toInt32 &&& 127 = nI (cnt x) := by
  have s1 : ∀ y, uN (shr y 1) = uN y / 2 := fun y => shr_k y 1 (by decide)
  have s2 : ∀ y, uN (shr y 2) = uN y / 4 := fun y => shr_k y 2 (by decide)
  have s4 : ∀ y, uN (shr y 4) = uN y / 16 := fun y => shr_k y 4 (by decide)
  have s8 : ∀ y, uN (shr y 8) = uN y / 256 := fun y => shr_k y 8 (by decide)
  have s16 : ∀ y, uN (shr y 16) = uN y / 65536 := fun y => shr_k y 16 (by decide)
  have s32 : ∀ y, uN (shr y 32) = uN y / 4294967296 := fun y => shr_k y 32 (by decide)
  have m5 : uN 6148914691236517205 = 0x5555555555555555 := by decide
  have m3 : uN 3689348814741910323 = 0x3333333333333333 := by decide
  have m0 : uN 1085102592571150095 = 0x0f0f0f0f0f0f0f0f := by decide
  obtain ⟨h0, A, B, C, rA, rB, hB, rC, E, F, G, rE, rF, rG, hE, hF, hG, hr⟩ := swar (X := uN x) (uN_lt x)
  have u1 : uN a1 = A := by
    rw [e1, uN_sub2 (by rw [uN_and2, s1, m5]; exact h0), uN_and2, s1, m5, rA]
  have l3 : ∀ z : Nat, (z &&& 0x3333333333333333) ≤ 0x3333333333333333 := fun z => Nat.and_le_right
  have u2 : uN a2 = B := by
    have p1 := l3 A
    have p2 := l3 (A / 4)
    rw [e2, uN_add2 (by rw [uN_and2, uN_and2, s2, m3, u1]; omega), uN_and2, uN_and2, s2, m3, u1, rB]
  have u3 : uN a3 = C := by
    rw [e3, uN_and2, uN_add2 (by rw [s4, u2]; exact hB), s4, u2, m0, rC]
  have u4 : uN a4 = E := by
    rw [e4, uN_add2 (by rw [s8, u3, ← rE]; exact hE), s8, u3, rE]
  have u5 : uN a5 = F := by
    rw [e5, uN_add2 (by rw [s16, u4, ← rF]; exact hF), s16, u4, rF]
  have u6 : uN a6 = G := by
    rw [e6, uN_add2 (by rw [s32, u5, ← rG]; exact hG), s32, u5, rG]
  have hc : cnt x = cntB (Nat.testBit (uN x)) 64 := rfl
  rw [hc, ← hr, ← u6, pk_and _ 7 (by decide)]
  have e : a6.toInt32.toBitVec.toNat = uN a6 % 2 ^ 32 := by
    show (a6.toBitVec.signExtend 32).toNat = _
    rw [BitVec.signExtend_eq_setWidth_of_le _ (by decide), BitVec.toNat_setWidth]
    rfl
  rw [e]
  congr 1
  omega
