-- isHome and its like
def pr_isHome (_ : Int32) : Prop := True
def po_isHome (b : Int32) (r : Int32) : Prop := r = if b < 0 ∨ 64 ≤ b then 0 else 1
def pr_isByte (_ _ : Int32) : Prop := True
def po_isByte (b a : Int32) (r : Int32) : Prop := r = if b < 0 ∨ 64 ≤ b ∨ a < 0 ∨ 256 ≤ a then 0 else 1
def pr_isValue (_ : Int32) : Prop := True
def po_isValue (v : Int32) (r : Int32) : Prop := r = if v < 0 ∨ 255 < v then 0 else 1
def pr_bit (_ : Int32) : Prop := True
def po_bit (b : Int32) (r : Int64) : Prop := r = (1 : Int64) <<< (b.toInt64 &&& 63)
def pr_holds (_ : Int64) (_ : Int32) : Prop := True
def po_holds (x : Int64) (b : Int32) (r : Int32) : Prop := r = if x &&& ((1 : Int64) <<< (b.toInt64 &&& 63)) = 0 then 0 else 1
theorem it0 {p : Prop} [Decidable p] : (if p then (0 : Int32) else 1) = 0 ↔ p := by
  by_cases h : p
  · simp [h]
  · simp [h]
theorem it1 {p : Prop} [Decidable p] : ¬ (if p then (0 : Int32) else 1) = 0 ↔ ¬ p := not_congr it0
theorem lgc0 {x y : Int64} : lg_cmp x y = 0 ↔ x = y := by
  unfold lg_cmp
  constructor
  · intro h
    split at h
    · exact absurd h (by decide)
    · split at h
      · assumption
      · exact absurd h (by decide)
  · intro h
    subst h
    rw [if_neg Int64.lt_irrefl, if_pos rfl]

theorem vc_bitCount_60_0 (a_x : Int64) (v_9 : Int64) (v_23 : Int64) (v_33 : Int64) (v_40 : Int64) (v_47 : Int64) (v_54 : Int64) (hpre : pr_bitCount a_x) (e_9 : v_9 = (a_x - (((Int64.toUInt64 a_x) >>> ((Int32.toInt64 1).toUInt64 &&& Int64.toUInt64 63)).toInt64 &&& 6148914691236517205))) (e_23 : v_23 = ((v_9 &&& 3689348814741910323) + (((Int64.toUInt64 v_9) >>> ((Int32.toInt64 2).toUInt64 &&& Int64.toUInt64 63)).toInt64 &&& 3689348814741910323))) (e_33 : v_33 = ((v_23 + ((Int64.toUInt64 v_23) >>> ((Int32.toInt64 4).toUInt64 &&& Int64.toUInt64 63)).toInt64) &&& 1085102592571150095)) (e_40 : v_40 = (v_33 + ((Int64.toUInt64 v_33) >>> ((Int32.toInt64 8).toUInt64 &&& Int64.toUInt64 63)).toInt64)) (e_47 : v_47 = (v_40 + ((Int64.toUInt64 v_40) >>> ((Int32.toInt64 16).toUInt64 &&& Int64.toUInt64 63)).toInt64)) (e_54 : v_54 = (v_47 + ((Int64.toUInt64 v_47) >>> ((Int32.toInt64 32).toUInt64 &&& Int64.toUInt64 63)).toInt64)) : po_bitCount a_x ((Int64.toInt32 v_54) &&& 127) := by
  exact bc_all e_9 e_23 e_33 e_40 e_47 e_54
theorem vc_rangeCheck_73_0 (a_n : Int32) (a_fr : Int32) (a_to : Int32) (hpre : pr_rangeCheck a_n a_fr a_to) (c_2 : a_fr ≤ a_to) (c_47 : 0 ≤ a_fr) (c_61 : a_to ≤ a_n) : po_rangeCheck a_n a_fr a_to := by
  trivial
theorem vc_rangeCheck_64_0 (a_n : Int32) (a_fr : Int32) (a_to : Int32) (hpre : pr_rangeCheck a_n a_fr a_to) (c_2 : a_fr ≤ a_to) (c_47 : 0 ≤ a_fr) (c_61 : ¬ a_to ≤ a_n) : False := by
  obtain ⟨x, y, N, rfl, rfl, rfl, h1, h2, h3⟩ := hpre
  exact c_61 (nI_le h2 h3)
theorem vc_rangeCheck_50_0 (a_n : Int32) (a_fr : Int32) (a_to : Int32) (hpre : pr_rangeCheck a_n a_fr a_to) (c_2 : a_fr ≤ a_to) (c_47 : ¬ 0 ≤ a_fr) : False := by
  obtain ⟨x, y, N, rfl, rfl, rfl, h1, h2, h3⟩ := hpre
  exact c_47 (nI_pos' (by omega))
theorem vc_rangeCheck_5_0 (a_n : Int32) (a_fr : Int32) (a_to : Int32) (hpre : pr_rangeCheck a_n a_fr a_to) (c_2 : ¬ a_fr ≤ a_to) : False := by
  obtain ⟨x, y, N, rfl, rfl, rfl, h1, h2, h3⟩ := hpre
  exact c_2 (nI_le h1 (by omega))
def iv_fillA_5 (v : Int32) (nA : Nat) (f : Nat → Int32) (x2 x3 : Int32) (g : Nat → Int32) : Prop := ∃ i : Nat, i ≤ nA ∧ x2 = nI i ∧ x3 = nI nA ∧ g = fillF f 0 i (vp_nar .byte v)
def mu_fillA_5 (_ : Int32) (nA : Nat) (_ : Nat → Int32) (x2 _ : Int32) (_ : Nat → Int32) : Nat := nA - x2.toNatClampNeg

theorem vc_fillA_20_0 (a_v : Int32) (nar : Nat) (ar : Nat → Int32) (x2 : Int32) (x3 : Int32) (ar_i : Nat → Int32) (hpre : pr_fillA a_v nar ar) (hinv : iv_fillA_5 a_v nar ar x2 x3 ar_i) (c_7 : x3 ≤ x2) : po_fillA a_v nar ar ar_i := by
  obtain ⟨i, h1, rfl, rfl, rfl⟩ := hinv
  have hn : nar < 2 ^ 31 := hpre
  have h2 := (nI_leI hn (Nat.lt_of_le_of_lt h1 hn)).mp c_7
  have h3 : i = nar := Nat.le_antisymm h1 h2
  subst h3
  exact rfl
theorem vc_fillA_13_0 (a_v : Int32) (nar : Nat) (ar : Nat → Int32) (x2 : Int32) (x3 : Int32) (ar_i : Nat → Int32) (hpre : pr_fillA a_v nar ar) (hinv : iv_fillA_5 a_v nar ar x2 x3 ar_i) (c_7 : ¬ x3 ≤ x2) : vp_in x2 nar := by
  obtain ⟨i, h1, rfl, rfl, rfl⟩ := hinv
  have hn : nar < 2 ^ 31 := hpre
  have h2 : ¬ nar ≤ i := fun h => c_7 (nI_le h (Nat.lt_of_le_of_lt h1 hn))
  exact vp_in_nI (by omega) hn
theorem vc_fillA_17_0 (a_v : Int32) (nar : Nat) (ar : Nat → Int32) (x2 : Int32) (x3 : Int32) (ar_i : Nat → Int32) (v_14 : Int32) (hpre : pr_fillA a_v nar ar) (hinv : iv_fillA_5 a_v nar ar x2 x3 ar_i) (c_7 : ¬ x3 ≤ x2) (e_14 : v_14 = x2 + 1) : iv_fillA_5 a_v nar ar v_14 x3 (upd ar_i (x2).toNatClampNeg (vp_nar .byte a_v)) ∧ mu_fillA_5 a_v nar ar v_14 x3 (upd ar_i (x2).toNatClampNeg (vp_nar .byte a_v)) < mu_fillA_5 a_v nar ar x2 x3 ar_i := by
  obtain ⟨i, h1, rfl, rfl, rfl⟩ := hinv
  have hn : nar < 2 ^ 31 := hpre
  have h2 : ¬ nar ≤ i := fun h => c_7 (nI_le h (Nat.lt_of_le_of_lt h1 hn))
  have hc : (nI i).toNatClampNeg = i := nI_clamp (by omega)
  refine ⟨⟨i + 1, by omega, by rw [e_14]; exact nI_1 i, rfl, ?_⟩, ?_⟩
  · rw [hc]
    have h := fillF_succ ar 0 i (vp_nar .byte a_v)
    rwa [Nat.zero_add] at h
  · show nar - v_14.toNatClampNeg < nar - (nI i).toNatClampNeg
    rw [e_14, nI_1, nI_clamp (by omega), hc]
    omega
theorem vc_fillA_4_0 (a_v : Int32) (nar : Nat) (ar : Nat → Int32) (v_4 : Int32) (hpre : pr_fillA a_v nar ar) (e_4 : v_4 = (nI nar)) : iv_fillA_5 a_v nar ar 0 v_4 ar ∧ True := by
  exact ⟨⟨0, Nat.zero_le _, rfl, e_4, (fillF_0 _ _ _).symm⟩, trivial⟩
def iv_fillR_10 (fr to v : Int32) (nA : Nat) (f : Nat → Int32) (x4 : Int32) (g : Nat → Int32) : Prop := ∃ x y i : Nat, fr = nI x ∧ to = nI y ∧ x + i ≤ y ∧ y ≤ nA ∧ nA < 2 ^ 31 ∧ x4 = nI (x + i) ∧ g = fillF f x i (vp_nar .byte v)
def mu_fillR_10 (_ to _ : Int32) (_ : Nat) (_ : Nat → Int32) (x4 : Int32) (_ : Nat → Int32) : Nat := to.toNatClampNeg - x4.toNatClampNeg

theorem vc_fillR_27_0 (a_fr : Int32) (a_to : Int32) (a_v : Int32) (nar : Nat) (ar : Nat → Int32) (x4 : Int32) (ar_i : Nat → Int32) (hpre : pr_fillR a_fr a_to a_v nar ar) (hinv : iv_fillR_10 a_fr a_to a_v nar ar x4 ar_i) (c_13 : a_to ≤ x4) : po_fillR a_fr a_to a_v nar ar ar_i := by
  obtain ⟨x, y, i, rfl, rfl, h1, h2, h3, rfl, rfl⟩ := hinv
  have h4 := (nI_leI (by omega) (by omega)).mp c_13
  intro x' y' e1 e2 h5 h6 h7
  have q1 := (nI_eq (by omega) (by omega)).mp e1
  have q2 := (nI_eq (by omega) (by omega)).mp e2
  subst q1 q2
  rw [show y - x = i by omega]
theorem vc_fillR_20_0 (a_fr : Int32) (a_to : Int32) (a_v : Int32) (nar : Nat) (ar : Nat → Int32) (x4 : Int32) (ar_i : Nat → Int32) (hpre : pr_fillR a_fr a_to a_v nar ar) (hinv : iv_fillR_10 a_fr a_to a_v nar ar x4 ar_i) (c_13 : ¬ a_to ≤ x4) : vp_in x4 nar := by
  obtain ⟨x, y, i, rfl, rfl, h1, h2, h3, rfl, rfl⟩ := hinv
  have h4 : ¬ y ≤ x + i := fun h => c_13 (nI_le h (by omega))
  exact vp_in_nI (by omega) h3
theorem vc_fillR_24_0 (a_fr : Int32) (a_to : Int32) (a_v : Int32) (nar : Nat) (ar : Nat → Int32) (x4 : Int32) (ar_i : Nat → Int32) (v_21 : Int32) (hpre : pr_fillR a_fr a_to a_v nar ar) (hinv : iv_fillR_10 a_fr a_to a_v nar ar x4 ar_i) (c_13 : ¬ a_to ≤ x4) (e_21 : v_21 = x4 + 1) : iv_fillR_10 a_fr a_to a_v nar ar v_21 (upd ar_i (x4).toNatClampNeg (vp_nar .byte a_v)) ∧ mu_fillR_10 a_fr a_to a_v nar ar v_21 (upd ar_i (x4).toNatClampNeg (vp_nar .byte a_v)) < mu_fillR_10 a_fr a_to a_v nar ar x4 ar_i := by
  obtain ⟨x, y, i, rfl, rfl, h1, h2, h3, rfl, rfl⟩ := hinv
  have h4 : ¬ y ≤ x + i := fun h => c_13 (nI_le h (by omega))
  have hc : (nI (x + i)).toNatClampNeg = x + i := nI_clamp (by omega)
  refine ⟨⟨x, y, i + 1, rfl, rfl, by omega, h2, h3, by rw [e_21]; exact nI_1 (x + i), ?_⟩, ?_⟩
  · rw [hc]; exact fillF_succ ar x i (vp_nar .byte a_v)
  · show (nI y).toNatClampNeg - v_21.toNatClampNeg < (nI y).toNatClampNeg - (nI (x + i)).toNatClampNeg
    rw [e_21, nI_1, nI_clamp (n := x + i + 1) (by omega), hc, nI_clamp (n := y) (by omega)]
    omega
theorem vc_fillR_4_0 (a_fr : Int32) (a_to : Int32) (a_v : Int32) (nar : Nat) (ar : Nat → Int32) (hpre : pr_fillR a_fr a_to a_v nar ar) : pr_rangeCheck (nI nar) a_fr a_to := by
  obtain ⟨x, y, rfl, rfl, h1, h2, h3⟩ := hpre
  exact ⟨x, y, nar, rfl, rfl, rfl, h1, h2, h3⟩
theorem vc_fillR_8_0 (a_fr : Int32) (a_to : Int32) (a_v : Int32) (nar : Nat) (ar : Nat → Int32) (hpre : pr_fillR a_fr a_to a_v nar ar) (w_4 : po_rangeCheck (nI nar) a_fr a_to) : iv_fillR_10 a_fr a_to a_v nar ar a_fr ar ∧ True := by
  obtain ⟨x, y, rfl, rfl, h1, h2, h3⟩ := hpre
  exact ⟨⟨x, y, 0, rfl, rfl, by omega, h2, h3, rfl, (fillF_0 _ _ _).symm⟩, trivial⟩
theorem vc_isHome_15_0 (a_b : Int32) (hpre : pr_isHome a_b) (c_1 : a_b < 0) : po_isHome a_b 0 := by
  exact (if_pos (Or.inl c_1)).symm
theorem vc_isHome_15_1 (a_b : Int32) (hpre : pr_isHome a_b) (c_1 : ¬ a_b < 0) (c_7 : 64 ≤ a_b) : po_isHome a_b 0 := by
  exact (if_pos (Or.inr c_7)).symm
theorem vc_isHome_15_2 (a_b : Int32) (hpre : pr_isHome a_b) (c_1 : ¬ a_b < 0) (c_7 : ¬ 64 ≤ a_b) : po_isHome a_b 1 := by
  exact (if_neg (fun h => h.elim c_1 c_7)).symm
theorem vc_isByte_1_0 (a_b : Int32) (a_a : Int32) (hpre : pr_isByte a_b a_a) : pr_isHome a_b := by
  trivial
theorem vc_isByte_23_0 (a_b : Int32) (a_a : Int32) (r_1 : Int32) (hpre : pr_isByte a_b a_a) (w_1 : po_isHome a_b r_1) (c_4 : r_1 = 0) : po_isByte a_b a_a 0 := by
  have h := it0.mp (Eq.trans (Eq.symm w_1) c_4)
  exact (if_pos (h.elim Or.inl (fun q => Or.inr (Or.inl q)))).symm
theorem vc_isByte_23_1 (a_b : Int32) (a_a : Int32) (r_1 : Int32) (hpre : pr_isByte a_b a_a) (w_1 : po_isHome a_b r_1) (c_4 : ¬ r_1 = 0) (c_8 : a_a < 0) : po_isByte a_b a_a 0 := by
  exact (if_pos (Or.inr (Or.inr (Or.inl c_8)))).symm
theorem vc_isByte_23_2 (a_b : Int32) (a_a : Int32) (r_1 : Int32) (hpre : pr_isByte a_b a_a) (w_1 : po_isHome a_b r_1) (c_4 : ¬ r_1 = 0) (c_8 : ¬ a_a < 0) (c_15 : 256 ≤ a_a) : po_isByte a_b a_a 0 := by
  exact (if_pos (Or.inr (Or.inr (Or.inr c_15)))).symm
theorem vc_isByte_23_3 (a_b : Int32) (a_a : Int32) (r_1 : Int32) (hpre : pr_isByte a_b a_a) (w_1 : po_isHome a_b r_1) (c_4 : ¬ r_1 = 0) (c_8 : ¬ a_a < 0) (c_15 : ¬ 256 ≤ a_a) : po_isByte a_b a_a 1 := by
  have h : ¬ (a_b < 0 ∨ 64 ≤ a_b) := fun q => c_4 (Eq.trans w_1 (it0.mpr q))
  exact (if_neg (fun q => q.elim (fun z => h (Or.inl z)) (fun q => q.elim (fun z => h (Or.inr z)) (fun q => q.elim c_8 c_15)))).symm
theorem vc_isValue_16_0 (a_v : Int32) (hpre : pr_isValue a_v) (c_1 : a_v < 0) : po_isValue a_v 0 := by
  exact (if_pos (Or.inl c_1)).symm
theorem vc_isValue_16_1 (a_v : Int32) (hpre : pr_isValue a_v) (c_1 : ¬ a_v < 0) (c_8 : 255 < a_v) : po_isValue a_v 0 := by
  exact (if_pos (Or.inr c_8)).symm
theorem vc_isValue_16_2 (a_v : Int32) (hpre : pr_isValue a_v) (c_1 : ¬ a_v < 0) (c_8 : ¬ 255 < a_v) : po_isValue a_v 1 := by
  exact (if_neg (fun h => h.elim c_1 c_8)).symm
theorem vc_bit_3_0 (a_b : Int32) (hpre : pr_bit a_b) : po_bit a_b (1 <<< (Int32.toInt64 a_b &&& 63)) := by
  rfl
theorem vc_holds_2_0 (a_x : Int64) (a_b : Int32) (hpre : pr_holds a_x a_b) : pr_bit a_b := by
  trivial
theorem vc_holds_16_0 (a_x : Int64) (a_b : Int32) (r_2 : Int64) (hpre : pr_holds a_x a_b) (w_2 : po_bit a_b r_2) (c_8 : (lg_cmp (a_x &&& r_2) 0) = 0) : po_holds a_x a_b 0 := by
  have w : r_2 = _ := w_2
  subst w
  exact (if_pos (lgc0.mp c_8)).symm
theorem vc_holds_16_1 (a_x : Int64) (a_b : Int32) (r_2 : Int64) (hpre : pr_holds a_x a_b) (w_2 : po_bit a_b r_2) (c_8 : ¬ (lg_cmp (a_x &&& r_2) 0) = 0) : po_holds a_x a_b 1 := by
  have w : r_2 = _ := w_2
  subst w
  exact (if_neg (fun h => c_8 (lgc0.mpr h))).symm
