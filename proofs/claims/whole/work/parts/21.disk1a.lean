/-! Disk: what each method asks and gives -/
-- makeStep
def pr_Disk_makeStep (_ : DKt) : Prop := True
def po_Disk_makeStep : DKt → Int32 → DKt → Prop
  | (uw, hm, on, sl, st, dn, wr, od), r, k => if sl = 0 then r = 0 ∧ k = (uw, hm, 0, -1, st, dn, wr, od) else r = 1 ∧ k = (uw, hm, on, (if 0 < sl then sl - 1 else sl), st + 1, dn, wr, od)
-- forgetUnderWay
def pr_Disk_forgetUnderWay (_ : DKt) : Prop := True
def po_Disk_forgetUnderWay : DKt → DKt → Prop
  | (_, _, on, sl, st, dn, wr, od), k => k = (0, 0, on, sl, st, dn, wr, od)
-- putUnderWay
def pr_Disk_putUnderWay (_ : Int32) (k : DKt) : Prop := ∃ n : Nat, n < 264 ∧ k.1 = nI n
def po_Disk_putUnderWay (b : Int32) : DKt → DKt → Prop
  | (uw, hm, on, sl, st, dn, wr, od), k => k = (uw + 1, hm, on, sl, st, dn, wr, upd od uw.toNatClampNeg b)
-- partDown and what stands on it
def pr_Disk_partDown (p : Int32) (_ : Int64) : Prop := ∃ i : Nat, i < 2 ^ 30 ∧ p = nI i
def po_Disk_partDown (p : Int32) (bits : Int64) (r : Int32) : Prop := ∀ i : Nat, i < 2 ^ 30 → p = nI i → r = nI (sPart i bits)
def pr_Disk_isFirstHalfDown (p : Int32) (_ : Int64) : Prop := ∃ i : Nat, i < 2 ^ 30 ∧ p = nI i
def po_Disk_isFirstHalfDown (p : Int32) (bits : Int64) (r : Int32) : Prop := ∀ i : Nat, i < 2 ^ 30 → p = nI i → r = b2i (sFirst i bits)
def pr_Disk_isLastHalfDown (p : Int32) (_ : Int64) : Prop := ∃ i : Nat, i < 2 ^ 30 ∧ p = nI i
def po_Disk_isLastHalfDown (p : Int32) (bits : Int64) (r : Int32) : Prop := ∀ i : Nat, i < 2 ^ 30 → p = nI i → r = b2i (sLast i bits)
-- bringDown
def pr_Disk_bringDown (b a n : Int32) : DKt → Prop
  | (_, _, _, _, _, _, wr, _) => sb_Fit wr ∧ ∃ q x y : Nat, b = nI q ∧ q < 67 ∧ a = nI x ∧ n = nI y ∧ x + y ≤ 256
def po_Disk_bringDown (b a n : Int32) : DKt → DKt → Prop
  | (uw, hm, on, sl, st, dn, wr, od), k => ∀ q x y : Nat, b = nI q → q < 67 → a = nI x → n = nI y → x + y ≤ 256 → k = (uw, hm, on, sl, st, (if q < 64 then va_cpy wr dn (q * 256 + x) (q * 256 + x) y else dn), wr, od)
-- writeRing
def pr_Disk_writeRing (q : Int32) (k : DKt) : Prop := ∃ (d : Dk) (n : Nat), RD d k ∧ d.1.length < 200 ∧ q = nI n ∧ 64 ≤ n ∧ n < 67
def po_Disk_writeRing (q : Int32) (k : DKt) (r : Int32) (k2 : DKt) : Prop := ∀ (d : Dk) (n : Nat), RD d k → d.1.length < 200 → q = nI n → 64 ≤ n → n < 67 → r = b2i (sRing n d).1 ∧ RD (sRing n d).2 k2
-- writeHome
def pr_Disk_writeHome (b fr : Int32) (nA : Nat) (k : DKt) (f : Nat → Int32) : Prop := ∃ (d : Dk) (q x : Nat), RD d k ∧ d.1.length < 200 ∧ b = nI q ∧ q < 64 ∧ fr = nI x ∧ x + 256 ≤ nA ∧ nA < 2 ^ 31 ∧ sb_Fit f
def po_Disk_writeHome (b fr : Int32) (nA : Nat) (k : DKt) (f : Nat → Int32) (r : Int32) (k2 : DKt) (_ : Nat → Int32) : Prop := ∀ (d : Dk) (q x : Nat), RD d k → d.1.length < 200 → b = nI q → q < 64 → fr = nI x → x + 256 ≤ nA → nA < 2 ^ 31 → r = b2i (sHome q f x d).1 ∧ RD (sHome q f x d).2 k2
-- barrier
def pr_Disk_barrier (k : DKt) : Prop := ∃ d : Dk, RD d k ∧ DW d
def po_Disk_barrier (k : DKt) (r : Int32) (k2 : DKt) : Prop := ∀ d : Dk, RD d k → DW d → r = b2i (sBar d).1 ∧ RD (sBar d).2 k2
-- placeUnderWay
def pr_Disk_placeUnderWay (_ : Int32) (k : DKt) : Prop := ∃ d : Dk, RD d k ∧ DW d
def po_Disk_placeUnderWay (q : Int32) (k : DKt) (r : Int32) : Prop := ∀ (d : Dk) (n : Nat), RD d k → DW d → q = nI n → n < 67 → r = if n ∈ d.1 then nI (d.1.idxOf n) else -1
-- settle
def hd (u : List Nat) : Prop := ∀ i j, i < u.length → j < u.length → u.getD i 0 = u.getD j 0 → u.getD i 0 < 64 → i = j
def pr_Disk_settle (_ : Int64) (k : DKt) : Prop := ∃ d : Dk, RD d k ∧ DW d ∧ hd d.1
def po_Disk_settle (bits : Int64) (k k2 : DKt) : Prop := ∀ d : Dk, RD d k → DW d → hd d.1 → RD (sSettle bits d) k2
-- makeNew
def pr_Disk_makeNew (_ : DKt) : Prop := True
def po_Disk_makeNew : DKt → DKt → Prop
  | (_, _, _, _, _, dn, wr, od), k => k = (0, 0, 1, -1, 0, fillF dn 0 16384 0, fillF wr 0 16384 0, od)

theorem vc_Disk_makeStep_47_0 (k_underWay : Int32) (k_homesUnderWay : Int64) (k_on : Int32) (k_stepsLeft : Int32) (k_steps : Int32) (k_down : Nat → Int32) (k_written : Nat → Int32) (k_order : Nat → Int32) (v_43 : Int32) (hpre : pr_Disk_makeStep (k_underWay, k_homesUnderWay, k_on, k_stepsLeft, k_steps, k_down, k_written, k_order)) (c_4 : ¬ k_stepsLeft = 0) (c_23 : k_stepsLeft ≤ 0) (e_43 : v_43 = (k_steps + 1)) : po_Disk_makeStep (k_underWay, k_homesUnderWay, k_on, k_stepsLeft, k_steps, k_down, k_written, k_order) 1 (k_underWay, k_homesUnderWay, k_on, k_stepsLeft, v_43, k_down, k_written, k_order) := by
  have h : ¬ 0 < k_stepsLeft := Int32.not_lt.mpr c_23
  simp [po_Disk_makeStep, c_4, h, e_43]
theorem vc_Disk_makeStep_47_1 (k_underWay : Int32) (k_homesUnderWay : Int64) (k_on : Int32) (k_stepsLeft : Int32) (k_steps : Int32) (k_down : Nat → Int32) (k_written : Nat → Int32) (k_order : Nat → Int32) (v_33 : Int32) (v_43 : Int32) (hpre : pr_Disk_makeStep (k_underWay, k_homesUnderWay, k_on, k_stepsLeft, k_steps, k_down, k_written, k_order)) (c_4 : ¬ k_stepsLeft = 0) (c_23 : ¬ k_stepsLeft ≤ 0) (e_33 : v_33 = (k_stepsLeft - 1)) (e_43 : v_43 = (k_steps + 1)) : po_Disk_makeStep (k_underWay, k_homesUnderWay, k_on, k_stepsLeft, k_steps, k_down, k_written, k_order) 1 (k_underWay, k_homesUnderWay, k_on, v_33, v_43, k_down, k_written, k_order) := by
  have h : 0 < k_stepsLeft := Int32.not_le.mp c_23
  simp [po_Disk_makeStep, c_4, h, e_43, e_33]
theorem vc_Disk_makeStep_18_0 (k_underWay : Int32) (k_homesUnderWay : Int64) (k_on : Int32) (k_stepsLeft : Int32) (k_steps : Int32) (k_down : Nat → Int32) (k_written : Nat → Int32) (k_order : Nat → Int32) (hpre : pr_Disk_makeStep (k_underWay, k_homesUnderWay, k_on, k_stepsLeft, k_steps, k_down, k_written, k_order)) (c_4 : k_stepsLeft = 0) : po_Disk_makeStep (k_underWay, k_homesUnderWay, k_on, k_stepsLeft, k_steps, k_down, k_written, k_order) 0 (k_underWay, k_homesUnderWay, 0, (-1), k_steps, k_down, k_written, k_order) := by
  simp [po_Disk_makeStep, c_4]
theorem vc_Disk_forgetUnderWay_10_0 (k_underWay : Int32) (k_homesUnderWay : Int64) (k_on : Int32) (k_stepsLeft : Int32) (k_steps : Int32) (k_down : Nat → Int32) (k_written : Nat → Int32) (k_order : Nat → Int32) (hpre : pr_Disk_forgetUnderWay (k_underWay, k_homesUnderWay, k_on, k_stepsLeft, k_steps, k_down, k_written, k_order)) : po_Disk_forgetUnderWay (k_underWay, k_homesUnderWay, k_on, k_stepsLeft, k_steps, k_down, k_written, k_order) (0, 0, k_on, k_stepsLeft, k_steps, k_down, k_written, k_order) := by
  rfl
theorem vc_Disk_putUnderWay_32_0 (a_b : Int32) (k_underWay : Int32) (k_homesUnderWay : Int64) (k_on : Int32) (k_stepsLeft : Int32) (k_steps : Int32) (k_down : Nat → Int32) (k_written : Nat → Int32) (k_order : Nat → Int32) (hpre : pr_Disk_putUnderWay a_b (k_underWay, k_homesUnderWay, k_on, k_stepsLeft, k_steps, k_down, k_written, k_order)) (c_9 : 264 ≤ k_underWay) : po_Disk_putUnderWay a_b (k_underWay, k_homesUnderWay, k_on, k_stepsLeft, k_steps, k_down, k_written, k_order) (k_underWay, k_homesUnderWay, k_on, k_stepsLeft, k_steps, k_down, k_written, k_order) := by
  obtain ⟨n, hn, e⟩ := hpre
  have e : k_underWay = nI n := e
  subst e
  exact absurd c_9 (nI_ge (b := 264) hn (by decide))
theorem vc_Disk_putUnderWay_21_0 (a_b : Int32) (k_underWay : Int32) (k_homesUnderWay : Int64) (k_on : Int32) (k_stepsLeft : Int32) (k_steps : Int32) (k_down : Nat → Int32) (k_written : Nat → Int32) (k_order : Nat → Int32) (hpre : pr_Disk_putUnderWay a_b (k_underWay, k_homesUnderWay, k_on, k_stepsLeft, k_steps, k_down, k_written, k_order)) (c_9 : ¬ 264 ≤ k_underWay) : vp_in k_underWay 264 := by
  obtain ⟨n, hn, e⟩ := hpre
  have e : k_underWay = nI n := e
  subst e
  exact vp_in_nI hn (by decide)
theorem vc_Disk_putUnderWay_32_1 (a_b : Int32) (k_underWay : Int32) (k_homesUnderWay : Int64) (k_on : Int32) (k_stepsLeft : Int32) (k_steps : Int32) (k_down : Nat → Int32) (k_written : Nat → Int32) (k_order : Nat → Int32) (v_29 : Int32) (hpre : pr_Disk_putUnderWay a_b (k_underWay, k_homesUnderWay, k_on, k_stepsLeft, k_steps, k_down, k_written, k_order)) (c_9 : ¬ 264 ≤ k_underWay) (e_29 : v_29 = (k_underWay + 1)) : po_Disk_putUnderWay a_b (k_underWay, k_homesUnderWay, k_on, k_stepsLeft, k_steps, k_down, k_written, k_order) (v_29, k_homesUnderWay, k_on, k_stepsLeft, k_steps, k_down, k_written, (upd k_order (k_underWay).toNatClampNeg a_b)) := by
  subst e_29
  rfl
theorem i32_nat (y : Int64) : y.toInt32.toBitVec.toNat = uN y % 2 ^ 32 := by
  show (y.toBitVec.signExtend 32).toNat = _
  rw [BitVec.signExtend_eq_setWidth_of_le _ (by decide), BitVec.toNat_setWidth]
  rfl
theorem sPart_lt (i : Nat) (bits : Int64) : sPart i bits < 4 := by
  unfold sPart
  split
  · exact Nat.mod_lt _ (by decide)
  · decide

theorem vc_Disk_partDown_18_0 (a_p : Int32) (a_bits : Int64) (hpre : pr_Disk_partDown a_p a_bits) (c_3 : 32 ≤ a_p) : po_Disk_partDown a_p a_bits 0 := by
  intro i hi e
  subst e
  have h : 32 ≤ i := (nI_leI (a := 32) (by decide) (by omega)).mp c_3
  unfold sPart
  rw [if_neg (by omega)]
  rfl
theorem vc_Disk_partDown_18_1 (a_p : Int32) (a_bits : Int64) (hpre : pr_Disk_partDown a_p a_bits) (c_3 : ¬ 32 ≤ a_p) : po_Disk_partDown a_p a_bits ((Int64.toInt32 (((Int64.toUInt64 a_bits) >>> ((Int32.toInt64 (2 * a_p)).toUInt64 &&& Int64.toUInt64 63)).toInt64)) &&& 3) := by
  intro i hi e
  subst e
  have h : ¬ 32 ≤ i := fun q => c_3 (nI_le (a := 32) q (by omega))
  have e2 : (2 : Int32) * nI i = nI (2 * i) := pk_mul 2 i
  rw [e2, pk_and _ 2 (by decide), i32_nat]
  have e3 := shr_k a_bits (2 * i) (by omega)
  unfold shr at e3
  rw [e3]
  unfold sPart
  rw [if_pos (by omega), Nat.pow_mul]
  have e4 : uN a_bits = a_bits.toBitVec.toNat := rfl
  rw [e4]
  show nI (_ / 4 ^ i % 2 ^ 32 % 4) = nI (_ / 4 ^ i % 4)
  congr 1
  omega
theorem vc_Disk_isFirstHalfDown_2_0 (a_p : Int32) (a_bits : Int64) (hpre : pr_Disk_isFirstHalfDown a_p a_bits) : pr_Disk_partDown a_p a_bits := by
  exact hpre
theorem vc_Disk_isFirstHalfDown_21_0 (a_p : Int32) (a_bits : Int64) (r_2 : Int32) (hpre : pr_Disk_isFirstHalfDown a_p a_bits) (w_2 : po_Disk_partDown a_p a_bits r_2) (c_8 : r_2 = 1) : po_Disk_isFirstHalfDown a_p a_bits 1 := by
  intro i hi e
  have w := w_2 i hi e
  have h : sPart i a_bits = 1 := (nI_eq (b := 1) (Nat.lt_trans (sPart_lt i a_bits) (by decide)) (by decide)).mp (w.symm.trans c_8)
  simp [sFirst, h, b2i]
theorem vc_Disk_isFirstHalfDown_21_1 (a_p : Int32) (a_bits : Int64) (r_2 : Int32) (hpre : pr_Disk_isFirstHalfDown a_p a_bits) (w_2 : po_Disk_partDown a_p a_bits r_2) (c_8 : ¬ r_2 = 1) (c_13 : ¬ r_2 = 2) : po_Disk_isFirstHalfDown a_p a_bits 0 := by
  intro i hi e
  have w := w_2 i hi e
  have h1 : ¬ sPart i a_bits = 1 := fun q => c_8 (by rw [w, q]; rfl)
  have h2 : ¬ sPart i a_bits = 2 := fun q => c_13 (by rw [w, q]; rfl)
  simp [sFirst, h1, h2, b2i]
theorem vc_Disk_isFirstHalfDown_21_2 (a_p : Int32) (a_bits : Int64) (r_2 : Int32) (hpre : pr_Disk_isFirstHalfDown a_p a_bits) (w_2 : po_Disk_partDown a_p a_bits r_2) (c_8 : ¬ r_2 = 1) (c_13 : r_2 = 2) : po_Disk_isFirstHalfDown a_p a_bits 1 := by
  intro i hi e
  have w := w_2 i hi e
  have h : sPart i a_bits = 2 := (nI_eq (b := 2) (Nat.lt_trans (sPart_lt i a_bits) (by decide)) (by decide)).mp (w.symm.trans c_13)
  simp [sFirst, h, b2i]
theorem vc_Disk_isLastHalfDown_2_0 (a_p : Int32) (a_bits : Int64) (hpre : pr_Disk_isLastHalfDown a_p a_bits) : pr_Disk_partDown a_p a_bits := by
  exact hpre
theorem vc_Disk_isLastHalfDown_21_0 (a_p : Int32) (a_bits : Int64) (r_2 : Int32) (hpre : pr_Disk_isLastHalfDown a_p a_bits) (w_2 : po_Disk_partDown a_p a_bits r_2) (c_8 : r_2 = 1) : po_Disk_isLastHalfDown a_p a_bits 1 := by
  intro i hi e
  have w := w_2 i hi e
  have h : sPart i a_bits = 1 := (nI_eq (b := 1) (Nat.lt_trans (sPart_lt i a_bits) (by decide)) (by decide)).mp (w.symm.trans c_8)
  simp [sLast, h, b2i]
theorem vc_Disk_isLastHalfDown_21_1 (a_p : Int32) (a_bits : Int64) (r_2 : Int32) (hpre : pr_Disk_isLastHalfDown a_p a_bits) (w_2 : po_Disk_partDown a_p a_bits r_2) (c_8 : ¬ r_2 = 1) (c_13 : ¬ r_2 = 3) : po_Disk_isLastHalfDown a_p a_bits 0 := by
  intro i hi e
  have w := w_2 i hi e
  have h1 : ¬ sPart i a_bits = 1 := fun q => c_8 (by rw [w, q]; rfl)
  have h2 : ¬ sPart i a_bits = 3 := fun q => c_13 (by rw [w, q]; rfl)
  simp [sLast, h1, h2, b2i]
theorem vc_Disk_isLastHalfDown_21_2 (a_p : Int32) (a_bits : Int64) (r_2 : Int32) (hpre : pr_Disk_isLastHalfDown a_p a_bits) (w_2 : po_Disk_partDown a_p a_bits r_2) (c_8 : ¬ r_2 = 1) (c_13 : r_2 = 3) : po_Disk_isLastHalfDown a_p a_bits 1 := by
  intro i hi e
  have w := w_2 i hi e
  have h : sPart i a_bits = 3 := (nI_eq (b := 3) (Nat.lt_trans (sPart_lt i a_bits) (by decide)) (by decide)).mp (w.symm.trans c_13)
  simp [sLast, h, b2i]
theorem vc_Disk_bringDown_1_0 (a_b : Int32) (a_a : Int32) (a_n : Int32) (k_underWay : Int32) (k_homesUnderWay : Int64) (k_on : Int32) (k_stepsLeft : Int32) (k_steps : Int32) (k_down : Nat → Int32) (k_written : Nat → Int32) (k_order : Nat → Int32) (hpre : pr_Disk_bringDown a_b a_a a_n (k_underWay, k_homesUnderWay, k_on, k_stepsLeft, k_steps, k_down, k_written, k_order)) : pr_isHome a_b := by
  trivial
theorem vc_Disk_bringDown_32_0 (a_b : Int32) (a_a : Int32) (a_n : Int32) (k_underWay : Int32) (k_homesUnderWay : Int64) (k_on : Int32) (k_stepsLeft : Int32) (k_steps : Int32) (k_down : Nat → Int32) (k_written : Nat → Int32) (k_order : Nat → Int32) (r_1 : Int32) (hpre : pr_Disk_bringDown a_b a_a a_n (k_underWay, k_homesUnderWay, k_on, k_stepsLeft, k_steps, k_down, k_written, k_order)) (w_1 : po_isHome a_b r_1) (c_4 : r_1 = 0) : po_Disk_bringDown a_b a_a a_n (k_underWay, k_homesUnderWay, k_on, k_stepsLeft, k_steps, k_down, k_written, k_order) (k_underWay, k_homesUnderWay, k_on, k_stepsLeft, k_steps, k_down, k_written, k_order) := by
  intro q x y e1 hq e2 e3 hxy
  subst e1
  have h := (nI_home (by omega)).mp (it0.mp (Eq.trans (Eq.symm w_1) c_4))
  rw [if_neg (by omega)]
theorem vc_Disk_bringDown_29_0 (a_b : Int32) (a_a : Int32) (a_n : Int32) (k_underWay : Int32) (k_homesUnderWay : Int64) (k_on : Int32) (k_stepsLeft : Int32) (k_steps : Int32) (k_down : Nat → Int32) (k_written : Nat → Int32) (k_order : Nat → Int32) (r_1 : Int32) (v_14 : Int32) (hpre : pr_Disk_bringDown a_b a_a a_n (k_underWay, k_homesUnderWay, k_on, k_stepsLeft, k_steps, k_down, k_written, k_order)) (w_1 : po_isHome a_b r_1) (c_4 : ¬ r_1 = 0) (e_14 : v_14 = ((a_b * 256) + a_a)) : ¬ v_14 < 0 ∧ ¬ v_14 < 0 ∧ ¬ a_n < 0 ∧ (v_14).toNatClampNeg + (a_n).toNatClampNeg ≤ 16384 ∧ (v_14).toNatClampNeg + (a_n).toNatClampNeg ≤ 16384 ∧ ∀ i, i < (a_n).toNatClampNeg → fits .byte (.int (k_written ((v_14).toNatClampNeg + i))) = true := by
  obtain ⟨hf, q, x, y, rfl, hq, rfl, rfl, hxy⟩ := hpre
  have h : ¬ 64 ≤ q := fun h => c_4 (Eq.trans w_1 (it0.mpr ((nI_home (by omega)).mpr h)))
  have e : v_14 = nI (q * 256 + x) := by rw [e_14, n256, pk_mul, nI_add]
  subst e
  rw [nI_clamp (n := q * 256 + x) (by omega), nI_clamp (n := y) (by omega)]
  exact ⟨nI_pos (by omega), nI_pos (by omega), nI_pos (by omega), by omega, by omega, fun i _ => hf _⟩
theorem vc_Disk_bringDown_32_1 (a_b : Int32) (a_a : Int32) (a_n : Int32) (k_underWay : Int32) (k_homesUnderWay : Int64) (k_on : Int32) (k_stepsLeft : Int32) (k_steps : Int32) (k_down : Nat → Int32) (k_written : Nat → Int32) (k_order : Nat → Int32) (r_1 : Int32) (v_14 : Int32) (hpre : pr_Disk_bringDown a_b a_a a_n (k_underWay, k_homesUnderWay, k_on, k_stepsLeft, k_steps, k_down, k_written, k_order)) (w_1 : po_isHome a_b r_1) (c_4 : ¬ r_1 = 0) (e_14 : v_14 = ((a_b * 256) + a_a)) : po_Disk_bringDown a_b a_a a_n (k_underWay, k_homesUnderWay, k_on, k_stepsLeft, k_steps, k_down, k_written, k_order) (k_underWay, k_homesUnderWay, k_on, k_stepsLeft, k_steps, (va_cpy k_written k_down (v_14).toNatClampNeg (v_14).toNatClampNeg (a_n).toNatClampNeg), k_written, k_order) := by
  intro q x y e1 hq e2 e3 hxy
  subst e1 e2 e3
  have h : ¬ 64 ≤ q := fun h => c_4 (Eq.trans w_1 (it0.mpr ((nI_home (by omega)).mpr h)))
  have e : v_14 = nI (q * 256 + x) := by rw [e_14, n256, pk_mul, nI_add]
  subst e
  rw [nI_clamp (n := q * 256 + x) (by omega), nI_clamp (n := y) (by omega), if_pos (by omega)]
theorem vc_Disk_makeNew_5_0 (k_underWay : Int32) (k_homesUnderWay : Int64) (k_on : Int32) (k_stepsLeft : Int32) (k_steps : Int32) (k_down : Nat → Int32) (k_written : Nat → Int32) (k_order : Nat → Int32) (hpre : pr_Disk_makeNew (k_underWay, k_homesUnderWay, k_on, k_stepsLeft, k_steps, k_down, k_written, k_order)) : pr_fillA 0 16384 k_down := by
  show (16384 : Nat) < 2 ^ 31
  decide
theorem vc_Disk_makeNew_13_0 (k_underWay : Int32) (k_homesUnderWay : Int64) (k_on : Int32) (k_stepsLeft : Int32) (k_steps : Int32) (k_down : Nat → Int32) (k_written : Nat → Int32) (k_order : Nat → Int32) (ar_5 : Nat → Int32) (hpre : pr_Disk_makeNew (k_underWay, k_homesUnderWay, k_on, k_stepsLeft, k_steps, k_down, k_written, k_order)) (w_5 : po_fillA 0 16384 k_down ar_5) : pr_fillA 0 16384 k_written := by
  show (16384 : Nat) < 2 ^ 31
  decide
theorem vc_Disk_makeNew_17_0 (k_underWay : Int32) (k_homesUnderWay : Int64) (k_on : Int32) (k_stepsLeft : Int32) (k_steps : Int32) (k_down : Nat → Int32) (k_written : Nat → Int32) (k_order : Nat → Int32) (ar_5 : Nat → Int32) (ar_13 : Nat → Int32) (hpre : pr_Disk_makeNew (k_underWay, k_homesUnderWay, k_on, k_stepsLeft, k_steps, k_down, k_written, k_order)) (w_5 : po_fillA 0 16384 k_down ar_5) (w_13 : po_fillA 0 16384 k_written ar_13) : pr_Disk_forgetUnderWay (k_underWay, k_homesUnderWay, k_on, k_stepsLeft, k_steps, ar_5, ar_13, k_order) := by
  trivial
theorem vc_Disk_makeNew_35_0 (k_underWay : Int32) (k_homesUnderWay : Int64) (k_on : Int32) (k_stepsLeft : Int32) (k_steps : Int32) (k_down : Nat → Int32) (k_written : Nat → Int32) (k_order : Nat → Int32) (ar_5 : Nat → Int32) (ar_13 : Nat → Int32) (k_underWay_17 : Int32) (k_homesUnderWay_17 : Int64) (hpre : pr_Disk_makeNew (k_underWay, k_homesUnderWay, k_on, k_stepsLeft, k_steps, k_down, k_written, k_order)) (w_5 : po_fillA 0 16384 k_down ar_5) (w_13 : po_fillA 0 16384 k_written ar_13) (w_17 : po_Disk_forgetUnderWay (k_underWay, k_homesUnderWay, k_on, k_stepsLeft, k_steps, ar_5, ar_13, k_order) (k_underWay_17, k_homesUnderWay_17, k_on, k_stepsLeft, k_steps, ar_5, ar_13, k_order)) : po_Disk_makeNew (k_underWay, k_homesUnderWay, k_on, k_stepsLeft, k_steps, k_down, k_written, k_order) (k_underWay_17, k_homesUnderWay_17, 1, (-1), 0, ar_5, ar_13, k_order) := by
  have e5 : ar_5 = fillF k_down 0 16384 (vp_nar .byte 0) := w_5
  have e13 : ar_13 = fillF k_written 0 16384 (vp_nar .byte 0) := w_13
  have e17 : (k_underWay_17, k_homesUnderWay_17, k_on, k_stepsLeft, k_steps, ar_5, ar_13, k_order) = ((0, 0, k_on, k_stepsLeft, k_steps, ar_5, ar_13, k_order) : DKt) := w_17
  have h1 : k_underWay_17 = 0 := congrArg Prod.fst e17
  have h2 : k_homesUnderWay_17 = 0 := congrArg (fun z : DKt => z.2.1) e17
  have h3 : vp_nar .byte 0 = 0 := by decide
  rw [h3] at e5 e13
  subst h1 h2 e5 e13
  rfl
