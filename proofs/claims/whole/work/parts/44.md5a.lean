theorem bv_sar3 (a : BitVec 64) (n : Nat) (h : n + 2 ≤ 64) : (a.sshiftRight n &&& 3#64).toNat = a.toNat / 2 ^ n % 4 := by
  have e : a.sshiftRight n &&& 3#64 = (a >>> n) &&& 3#64 := by
    apply BitVec.eq_of_getLsbD_eq
    intro j hj
    rw [BitVec.getLsbD_and, BitVec.getLsbD_and, BitVec.getLsbD_sshiftRight, BitVec.getLsbD_ushiftRight]
    by_cases q : j < 2
    · rw [if_pos (by omega), decide_eq_false (by omega)]; rfl
    · have z : (3#64).getLsbD j = false := by
        have : Nat.testBit 3 j = false := Nat.testBit_lt_two_pow (Nat.lt_of_lt_of_le (by decide : 3 < 2 ^ 2) (Nat.pow_le_pow_right (by decide) (by omega)))
        exact this
      rw [z, Bool.and_false, Bool.and_false]
  rw [e, BitVec.toNat_and, BitVec.toNat_ushiftRight, Nat.shiftRight_eq_div_pow]
  exact Nat.and_two_pow_sub_one_eq_mod _ 2
theorem sh_amt : ∀ i, i < 32 → ((Int32.toInt64 (nI (2 * i)) &&& 63).toBitVec.smod 64#64).toNat = 2 * i := by decide +kernel
theorem part_e (bits : Int64) {i : Nat} (h : i < 32) : Int64.toInt32 ((bits >>> (Int32.toInt64 (2 * nI i) &&& 63)) &&& 3) = nI (sPart i bits) := by
  have e2 : (2 : Int32) * nI i = nI (2 * i) := pk_mul 2 i
  rw [e2]
  apply Int32.toBitVec_inj.mp
  apply BitVec.eq_of_toNat_eq
  rw [i32_nat]
  have e3 : uN ((bits >>> (Int32.toInt64 (nI (2 * i)) &&& 63)) &&& 3) = bits.toBitVec.toNat / 2 ^ (2 * i) % 4 := by
    show ((bits >>> (Int32.toInt64 (nI (2 * i)) &&& 63)) &&& 3).toBitVec.toNat = _
    have e4 : ((bits >>> (Int32.toInt64 (nI (2 * i)) &&& 63)) &&& 3).toBitVec = bits.toBitVec.sshiftRight (2 * i) &&& 3#64 := by
      rw [Int64.toBitVec_and, Int64.toBitVec_shiftRight]
      show bits.toBitVec.sshiftRight ((Int32.toInt64 (nI (2 * i)) &&& 63).toBitVec.smod 64#64).toNat &&& _ = _
      rw [sh_amt i h]
      rfl
    rw [e4]
    exact bv_sar3 _ _ (by omega)
  rw [e3, Nat.pow_mul]
  have e5 : sPart i bits = bits.toBitVec.toNat / 4 ^ i % 4 := if_pos h
  have e6 := sPart_lt i bits
  show _ = (BitVec.ofNat 32 (sPart i bits)).toNat
  rw [BitVec.toNat_ofNat, e5]
theorem dAll_at (H : Nat → Int32) (j : Nat) : ∀ (u : List Nat) (ba : Nat → Int32), dAll H u ba j = if j / 256 < 64 ∧ j / 256 ∈ u then H j else ba j := by
  intro u
  induction u with
  | nil => intro ba; rw [if_neg (fun z => by cases z.2)]; rfl
  | cons k u ih =>
    intro ba
    show dAll H u (if k < 64 then va_cpy H ba (256 * k) (256 * k) 256 else ba) j = _
    rw [ih]
    by_cases q : j / 256 < 64 ∧ j / 256 ∈ u
    · rw [if_pos q, if_pos ⟨q.1, List.mem_cons_of_mem _ q.2⟩]
    · rw [if_neg q]
      by_cases c : j / 256 = k
      · by_cases hk : k < 64
        · rw [if_pos hk, pk_cpy_in (by omega) (by omega), show 256 * k + (j - 256 * k) = j by omega, if_pos ⟨by omega, by rw [c]; exact List.mem_cons_self ..⟩]
        · rw [if_neg hk, if_neg (fun z => hk (by omega))]
      · have n2 : ¬ (j / 256 < 64 ∧ j / 256 ∈ k :: u) := fun z => by
          rcases List.mem_cons.mp z.2 with y | y
          · exact c y
          · exact q ⟨z.1, y⟩
        rw [if_neg n2]
        split
        · rw [pk_cpy_out (by omega)]
        · rfl
theorem sHi_all (d : Dk) (bits : Int64) : sHi d bits d.1.length = sByte d.1 bits d.2.2.2.2.1 d.2.2.2.2.2 := by
  funext j
  unfold sHi
  rw [List.take_length]
  by_cases q : j / 256 < 64 ∧ j / 256 ∈ d.1
  · rw [if_pos q]
  · rw [if_neg q]; unfold sByte; rw [if_neg q]
theorem sB_all (d : Dk) (bits : Int64) : dAll (sByte d.1 bits d.2.2.2.2.1 d.2.2.2.2.2) d.1 d.2.2.2.2.1 = sByteB d.1 bits d.2.2.2.2.1 d.2.2.2.2.2 := by
  funext j
  rw [dAll_at]
  rfl
theorem RMs_inj {d d2 : Dk} {run rev run2 rev2 : Int64} {y : MDt} (h : RMs d run rev y) (w : DW d) (h2 : RMs d2 run2 rev2 y) (w2 : DW d2) : d = d2 := by
  obtain ⟨u, on, f, st, ba, ho⟩ := d
  obtain ⟨u2, on2, f2, st2, ba2, ho2⟩ := d2
  obtain ⟨th, rg, off, fuse, steps, many, log, before, home, base, nw, kinds, blocks, runs, revokes, frm, uses, revoked, had, data⟩ := y
  obtain ⟨a1, a2, a3, a4, a5, a6, -⟩ := h
  obtain ⟨b1, b2, b3, b4, b5, b6, -⟩ := h2
  have eu := uR_inj a4 ⟨w.1, w.2.1⟩ b4 ⟨w2.1, w2.2.1⟩
  have eo : on = on2 := by
    have := b2i_inj (a1.symm.trans b1)
    cases on <;> cases on2 <;> first | rfl | cases this
  subst eu eo
  rw [show f = f2 from a2.symm.trans b2, show st = st2 from a3.symm.trans b3, show ba = ba2 from a6.symm.trans b6, show ho = ho2 from a5.symm.trans b5]
def ldF (bits : Int64) (before : Int32) (u : List Nat) (l : Int32) : Nat → Int32
  | 0 => l
  | i + 1 => if u.getD i 0 = 65 then (if sFirst i bits then ldF bits before u l i - 0 else ldF bits before u l i - 1) else if u.getD i 0 = 66 then (if sFirst i bits then 0 else before) else ldF bits before u l i
theorem ld_no {bits : Int64} {before l : Int32} {u : List Nat} {i : Nat} (h : u.getD i 0 ≠ 65) (h2 : u.getD i 0 ≠ 66) : ldF bits before u l (i + 1) = ldF bits before u l i := (if_neg h).trans (if_neg h2)
theorem ld_all {bits : Int64} {before l : Int32} {u : List Nat} : ∀ i, i ≤ u.length → (∀ k ∈ u, k ≠ 65 ∧ k ≠ 66) → ldF bits before u l i = l := by
  intro i
  induction i with
  | zero => intro _ _; rfl
  | succ i ih => intro hi h; rw [ld_no (h _ (getD_mem (by omega))).1 (h _ (getD_mem (by omega))).2]; exact ih (by omega) h
def mh1 (d : Dk) (bits : Int64) (i : Nat) : Nat → Int32 := if sFirst i bits then sHi d bits i else va_cpy d.2.2.2.2.1 (sHi d bits i) (256 * d.1.getD i 0) (256 * d.1.getD i 0) 128
def mh2 (d : Dk) (bits : Int64) (i : Nat) : Nat → Int32 := if sLast i bits then mh1 d bits i else va_cpy d.2.2.2.2.1 (mh1 d bits i) (256 * d.1.getD i 0 + 128) (256 * d.1.getD i 0 + 128) 128
theorem mh_step {d : Dk} {bits : Int64} {i : Nat} (h : hd d.1) (hi : i < d.1.length) (hq : d.1.getD i 0 < 64) : mh2 d bits i = sHi d bits (i + 1) := by
  have e := (hd_step (bits := bits) h hi).2
  rw [if_pos hq] at e
  have hni := hd_notin h hi hq
  have hix := hd_idx h hi hq
  have hin := getD_mem hi
  have ht := take_succ_getD hi
  rw [← e]
  funext j
  unfold mh2 mh1
  generalize d.1.getD i 0 = q at *
  by_cases hj : j / 256 = q
  · rw [pk_cpy_in (by omega) (by omega), show q * 256 + (j - q * 256) = j by omega]
    have r : sBi d bits (i + 1) j = sByte d.1 bits d.2.2.2.2.1 d.2.2.2.2.2 j := by
      unfold sBi; rw [if_pos (by rw [hj, ht]; exact ⟨hq, List.mem_append.mpr (Or.inr (List.mem_singleton.mpr rfl))⟩)]
    have e2 : sHi d bits i j = d.2.2.2.2.2 j := by unfold sHi; rw [hj, if_neg (fun z => hni z.2)]
    have e4 : sByte d.1 bits d.2.2.2.2.1 d.2.2.2.2.2 j = if (if j % 256 < 128 then sFirst i bits else sLast i bits) = true then d.2.2.2.2.2 j else d.2.2.2.2.1 j := by
      unfold sByte; rw [hj, if_pos ⟨hq, hin⟩, hix]
    rw [r, e4]
    by_cases hl : j % 256 < 128
    · rw [if_pos hl]
      have out : ∀ f g : Nat → Int32, va_cpy f g (256 * q + 128) (256 * q + 128) 128 j = g j := fun f g => pk_cpy_out (by omega)
      have inn : ∀ f g : Nat → Int32, va_cpy f g (256 * q) (256 * q) 128 j = f j := fun f g => by rw [pk_cpy_in (by omega) (by omega), show 256 * q + (j - 256 * q) = j by omega]
      cases c2 : sLast i bits <;> cases c1 : sFirst i bits <;> simp only [if_true, if_false, Bool.false_eq_true, out, inn, e2]
    · rw [if_neg hl]
      have out : ∀ f g : Nat → Int32, va_cpy f g (256 * q) (256 * q) 128 j = g j := fun f g => pk_cpy_out (by omega)
      have inn : ∀ f g : Nat → Int32, va_cpy f g (256 * q + 128) (256 * q + 128) 128 j = f j := fun f g => by rw [pk_cpy_in (by omega) (by omega), show 256 * q + 128 + (j - (256 * q + 128)) = j by omega]
      cases c2 : sLast i bits <;> cases c1 : sFirst i bits <;> simp only [if_true, if_false, Bool.false_eq_true, out, inn, e2]
  · rw [pk_cpy_out (by omega)]
    have o1 : ∀ f g : Nat → Int32, va_cpy f g (256 * q) (256 * q) 128 j = g j := fun f g => pk_cpy_out (by omega)
    have o2 : ∀ f g : Nat → Int32, va_cpy f g (256 * q + 128) (256 * q + 128) 128 j = g j := fun f g => pk_cpy_out (by omega)
    cases c2 : sLast i bits <;> cases c1 : sFirst i bits <;> simp only [if_true, if_false, Bool.false_eq_true, o1, o2]
theorem sHi_skip {d : Dk} {bits : Int64} {i : Nat} (h : hd d.1) (hi : i < d.1.length) (hq : ¬ d.1.getD i 0 < 64) : sHi d bits i = sHi d bits (i + 1) := by
  have e := (hd_step (bits := bits) h hi).2
  rwa [if_neg hq] at e
theorem fit_mh1 {d : Dk} (w : DW d) (bits : Int64) (i : Nat) : sb_Fit (mh1 d bits i) := by
  unfold mh1
  split
  · exact fit_sHi w.2.2.1 w.2.2.2 bits i
  · exact fit_cpy w.2.2.1 (fit_sHi w.2.2.1 w.2.2.2 bits i)
def dnR (d : Dk) (bits : Int64) (il : Nat) (H : Nat → Int32) : MDt → MDt → Prop
  | (_, _, _, _, _, many, log, before, _, base, _, _, _, _, _, _, _, _, _, _), (_, _, _, _, _, many2, log2, _, home2, base2, _, _, _, _, _, _, _, _, _, _) => many2 = many ∧ base2 = base ∧ home2 = H ∧ log2 = ldF bits before d.1 log il
def yMany : MDt → Int32
  | (_, _, _, _, _, many, _, _, _, _, _, _, _, _, _, _, _, _, _, _) => many
theorem dn_mu {d : Dk} {run rev : Int64} {y : MDt} {i : Nat} (h : RMs d run rev y) (w : DW d) (hi : i ≤ d.1.length) : (yMany y).toNatClampNeg - (nI i).toNatClampNeg = d.1.length - i ∧ i < 2 ^ 31 - 1 ∧ yMany y = nI d.1.length ∧ d.1.length ≤ 200 := by
  obtain ⟨u, on, f, st, ba, ho⟩ := d
  obtain ⟨th, rg, off, fuse, steps, many, log, before, home, base, nw, kinds, blocks, runs, revokes, frm, uses, revoked, had, data⟩ := y
  have hl : u.length ≤ 200 := w.1
  have hi : i ≤ u.length := hi
  have b1 : many = nI u.length := h.2.2.2.1.1
  show many.toNatClampNeg - _ = u.length - i ∧ _ ∧ many = _ ∧ _
  rw [b1, nI_clamp (by omega), nI_clamp (by omega)]
  exact ⟨rfl, by omega, rfl, hl⟩
def dnA (bits : Int64) (y : MDt) (x3 : Int32) (d : Dk) (run rev : Int64) (i : Nat) : Prop := RMs d run rev y ∧ DW d ∧ hd d.1 ∧ x3 = nI i
def iv_M_down_2 (bits : Int64) (y : MDt) (x3 : Int32) (y2 : MDt) : Prop := ∃ (d : Dk) (run rev : Int64) (i : Nat), dnA bits y x3 d run rev i ∧ i ≤ d.1.length ∧ dnR d bits i (sHi d bits i) y y2
def iv_M_down_32 (bits : Int64) (y : MDt) (x3 x4 : Int32) (y2 : MDt) : Prop := ∃ (d : Dk) (run rev : Int64) (i : Nat), dnA bits y x3 d run rev i ∧ i < d.1.length ∧ x4 = nI (sPart i bits) ∧ dnR d bits i (sHi d bits i) y y2
def iv_M_down_63 (bits : Int64) (y : MDt) (x3 x4 x5 x6 : Int32) (y2 : MDt) : Prop := ∃ (d : Dk) (run rev : Int64) (i : Nat), dnA bits y x3 d run rev i ∧ i < d.1.length ∧ x4 = nI (sPart i bits) ∧ (d.1.getD i 0 < 64 → x5 = nI (256 * d.1.getD i 0)) ∧ x6 = b2i (sFirst i bits) ∧ dnR d bits i (sHi d bits i) y y2
def iv_M_down_103 (bits : Int64) (y : MDt) (x3 x4 x5 : Int32) (y2 : MDt) : Prop := ∃ (d : Dk) (run rev : Int64) (i : Nat), dnA bits y x3 d run rev i ∧ i < d.1.length ∧ x4 = nI (sPart i bits) ∧ d.1.getD i 0 < 64 ∧ x5 = nI (256 * d.1.getD i 0) ∧ dnR d bits i (mh1 d bits i) y y2
def iv_M_down_211 (bits : Int64) (y : MDt) (x3 : Int32) (y2 : MDt) : Prop := ∃ (d : Dk) (run rev : Int64) (i : Nat), dnA bits y x3 d run rev i ∧ i < d.1.length ∧ dnR d bits (i + 1) (sHi d bits (i + 1)) y y2
def mu_M_down_2 (_ : Int64) (y : MDt) (x3 : Int32) (_ : MDt) : Nat := 5 * ((yMany y).toNatClampNeg - x3.toNatClampNeg)
def mu_M_down_32 (_ : Int64) (y : MDt) (x3 _ : Int32) (_ : MDt) : Nat := 5 * ((yMany y).toNatClampNeg - x3.toNatClampNeg) - 1
def mu_M_down_63 (_ : Int64) (y : MDt) (x3 _ _ _ : Int32) (_ : MDt) : Nat := 5 * ((yMany y).toNatClampNeg - x3.toNatClampNeg) - 2
def mu_M_down_103 (_ : Int64) (y : MDt) (x3 _ _ : Int32) (_ : MDt) : Nat := 5 * ((yMany y).toNatClampNeg - x3.toNatClampNeg) - 3
def mu_M_down_211 (_ : Int64) (y : MDt) (x3 : Int32) (_ : MDt) : Nat := 5 * ((yMany y).toNatClampNeg - x3.toNatClampNeg) - 4
theorem dn_mu5 {d : Dk} {run rev : Int64} {y : MDt} {i a b : Nat} (h : RMs d run rev y) (w : DW d) (hi : i < d.1.length) (hab : b < a) (ha : a ≤ 4) : 5 * ((yMany y).toNatClampNeg - (nI i).toNatClampNeg) - a < 5 * ((yMany y).toNatClampNeg - (nI i).toNatClampNeg) - b := by
  rw [(dn_mu h w (by omega)).1]; omega
theorem pt_eq {i k : Nat} {bits : Int64} (hk : k < 4) : nI (sPart i bits) = nI k ↔ sPart i bits = k := nI_eq (by have := sPart_lt i bits; omega) (by omega)
theorem kd_n {k m : Nat} (hk : k < 67) (hm : 0 < m) (hm2 : m < 4) : kd k = nI m ↔ k = 63 + m := by
  unfold kd
  by_cases q : k < 64
  · rw [if_pos q]
    exact ⟨fun z => absurd z.symm (nI_ne0 hm (by omega)), fun z => by omega⟩
  · rw [if_neg q, nI_eq (by omega) (by omega)]
    omega
theorem kinds_at {d : Dk} {run rev : Int64} {y : MDt} {i : Nat} (h : RMs d run rev y) (w : DW d) (hi : i < d.1.length) : d.1.getD i 0 < 67 := w.2.1 _ (getD_mem hi)
theorem sHi_0 (d : Dk) (bits : Int64) : sHi d bits 0 = d.2.2.2.2.2 := by
  funext j
  unfold sHi
  rw [List.take_zero, if_neg (fun z => by cases z.2)]
theorem ld_end {u : List Nat} {n : Nat} {g : Lg} {bits : Int64} {log before : Int32} (huo : UO u g.1) (hrn : if 66 ∈ u then log = 0 ∧ before = nI g.1 else log = nI g.1) : ldF bits before u log u.length = nI (sLogMount bits u g).1 := by
  obtain ⟨n, r⟩ := g
  have none : (∀ k ∈ u, k ≠ 65 ∧ k ≠ 66) → ldF bits before u log u.length = nI (sLogMount bits u (n, r)).1 := fun h => by
    have h6 : 66 ∉ u := fun z => (h 66 z).2 rfl
    have h5 : 65 ∉ u := fun z => (h 65 z).1 rfl
    rw [ld_all _ (Nat.le_refl _) h, lm_e, if_neg (fun z => h6 z.1)]
    unfold g1M
    rw [if_neg (fun z => h5 z.1)]
    rw [if_neg h6] at hrn
    exact hrn
  rcases huo with h | ⟨i, -, rfl⟩ | ⟨rfl, hn⟩ | rfl
  · exact none (fun k hk => by have := h.2 k hk; omega)
  · exact none (fun k hk => by rw [List.eq_of_mem_replicate hk]; decide)
  · have hn : 0 < n := hn
    rw [if_neg (by decide)] at hrn
    have hrn : log = nI n := hrn
    rw [lm_e, if_neg (fun z => absurd z.1 (by decide))]
    show (if sFirst 0 bits then log - 0 else log - 1) = _
    cases s : sFirst 0 bits
    · have e2 : g1M bits [65] (n, r) = sDrop (n, r) := if_pos ⟨by decide, s⟩
      rw [e2]
      show log - 1 = _
      rw [hrn]
      exact nI_s1 hn
    · have e2 : g1M bits [65] (n, r) = (n, r) := if_neg (fun z => by
        have z2 : sFirst 0 bits = false := z.2
        rw [s] at z2; cases z2)
      rw [e2]
      show log - 0 = _
      rw [hrn]
      exact pk_sub (b := 0) (Nat.zero_le _)
  · rw [if_pos (by decide)] at hrn
    have e1 : g1M bits [66] (n, r) = (n, r) := if_neg (fun z => absurd z.1 (by decide))
    have e3 := lm_e bits [66] (n, r)
    rw [e1] at e3
    show (if sFirst 0 bits then 0 else before) = _
    cases s : sFirst 0 bits
    · have e2 : (if 66 ∈ [66] ∧ sFirst ([66].idxOf 66) bits = true then (0, ((n, r) : Lg).2) else ((n, r) : Lg)) = (n, r) := if_neg (fun z => by
        have z2 : sFirst 0 bits = true := z.2
        rw [s] at z2; cases z2)
      rw [e3.trans e2]
      exact hrn.2
    · have e2 : (if 66 ∈ [66] ∧ sFirst ([66].idxOf 66) bits = true then (0, ((n, r) : Lg).2) else ((n, r) : Lg)) = (0, r) := if_pos ⟨by decide, s⟩
      rw [e3.trans e2]
      rfl
theorem dn_end {d : Dk} {run rev : Int64} {g : Lg} {bits : Int64} {th rg off fuse steps many log before many2 : Int32} {home base nw kinds blocks runs revokes frm uses revoked had data base2 : Nat → Int32} (h : RMs d run rev (th, rg, off, fuse, steps, many, log, before, home, base, nw, kinds, blocks, runs, revokes, frm, uses, revoked, had, data)) (huo : UO d.1 g.1) (hrn : RMn d.1 g.1 (th, rg, off, fuse, steps, many, log, before, home, base, nw, kinds, blocks, runs, revokes, frm, uses, revoked, had, data)) (hn : g.1 ≤ 99) (w1 : many2 = 0) (w2 : base2 = dAll (sHi d bits d.1.length) d.1 base) : RMs (sSettle bits d) run rev (th, rg, off, fuse, steps, many2, ldF bits before d.1 log d.1.length, before, sHi d bits d.1.length, base2, nw, kinds, blocks, runs, revokes, frm, uses, revoked, had, data) ∧ lgN (sLogMount bits d.1 g).1 (th, rg, off, fuse, steps, many2, ldF bits before d.1 log d.1.length, before, sHi d bits d.1.length, base2, nw, kinds, blocks, runs, revokes, frm, uses, revoked, had, data) := by
  refine ⟨?_, ld_end (n := 0) huo hrn⟩
  have e1 := sHi_all d bits
  have e2 := sB_all d bits
  obtain ⟨u, on, f, st, ba, ho⟩ := d
  obtain ⟨q1, q2, q3, q4, q5, q6, q7, q8⟩ := h
  have q6 : base = ba := q6
  rw [e1] at w2 ⊢
  rw [q6, e2] at w2
  exact ⟨q1, q2, q3, ⟨by rw [w1]; rfl, fun i hi => absurd hi (Nat.not_lt_zero _)⟩, rfl, w2, q7, q8⟩

theorem vc_M_down_218_0 (a_bits : Int64) (y_thrown : Int32) (y_ring : Int32) (y_off : Int32) (y_fuse : Int32) (y_steps : Int32) (y_many : Int32) (y_log : Int32) (y_before : Int32) (y_home : Nat → Int32) (y_base : Nat → Int32) (y_now : Nat → Int32) (y_kinds : Nat → Int32) (y_blocks : Nat → Int32) (y_runs : Nat → Int32) (y_revokes : Nat → Int32) (y_from : Nat → Int32) (y_uses : Nat → Int32) (y_revoked : Nat → Int32) (y_had : Nat → Int32) (y_data : Nat → Int32) (x3 : Int32) (y_many_i : Int32) (y_log_i : Int32) (y_home_i : Nat → Int32) (y_base_i : Nat → Int32) (hpre : pr_M_down a_bits (y_thrown, y_ring, y_off, y_fuse, y_steps, y_many, y_log, y_before, y_home, y_base, y_now, y_kinds, y_blocks, y_runs, y_revokes, y_from, y_uses, y_revoked, y_had, y_data)) (hinv : iv_M_down_2 a_bits (y_thrown, y_ring, y_off, y_fuse, y_steps, y_many, y_log, y_before, y_home, y_base, y_now, y_kinds, y_blocks, y_runs, y_revokes, y_from, y_uses, y_revoked, y_had, y_data) x3 (y_thrown, y_ring, y_off, y_fuse, y_steps, y_many_i, y_log_i, y_before, y_home_i, y_base_i, y_now, y_kinds, y_blocks, y_runs, y_revokes, y_from, y_uses, y_revoked, y_had, y_data)) (c_7 : y_many_i ≤ x3) : pr_M_settle (y_thrown, y_ring, y_off, y_fuse, y_steps, y_many_i, y_log_i, y_before, y_home_i, y_base_i, y_now, y_kinds, y_blocks, y_runs, y_revokes, y_from, y_uses, y_revoked, y_had, y_data) := by
  obtain ⟨d, run, rev, i, ⟨hd1, hw, hh, rfl⟩, hi, rfl, rfl, rfl, rfl⟩ := hinv
  obtain ⟨m1, m2, m3, m4⟩ := dn_mu hd1 hw hi
  exact ⟨d.1, hd1.2.2.2.1, ⟨hw.1, hw.2.1⟩, fit_sHi hw.2.2.1 hw.2.2.2 a_bits i⟩
theorem vc_M_down_221_0 (a_bits : Int64) (y_thrown : Int32) (y_ring : Int32) (y_off : Int32) (y_fuse : Int32) (y_steps : Int32) (y_many : Int32) (y_log : Int32) (y_before : Int32) (y_home : Nat → Int32) (y_base : Nat → Int32) (y_now : Nat → Int32) (y_kinds : Nat → Int32) (y_blocks : Nat → Int32) (y_runs : Nat → Int32) (y_revokes : Nat → Int32) (y_from : Nat → Int32) (y_uses : Nat → Int32) (y_revoked : Nat → Int32) (y_had : Nat → Int32) (y_data : Nat → Int32) (x3 : Int32) (y_many_i : Int32) (y_log_i : Int32) (y_home_i : Nat → Int32) (y_base_i : Nat → Int32) (y_many_218 : Int32) (y_base_218 : Nat → Int32) (hpre : pr_M_down a_bits (y_thrown, y_ring, y_off, y_fuse, y_steps, y_many, y_log, y_before, y_home, y_base, y_now, y_kinds, y_blocks, y_runs, y_revokes, y_from, y_uses, y_revoked, y_had, y_data)) (hinv : iv_M_down_2 a_bits (y_thrown, y_ring, y_off, y_fuse, y_steps, y_many, y_log, y_before, y_home, y_base, y_now, y_kinds, y_blocks, y_runs, y_revokes, y_from, y_uses, y_revoked, y_had, y_data) x3 (y_thrown, y_ring, y_off, y_fuse, y_steps, y_many_i, y_log_i, y_before, y_home_i, y_base_i, y_now, y_kinds, y_blocks, y_runs, y_revokes, y_from, y_uses, y_revoked, y_had, y_data)) (c_7 : y_many_i ≤ x3) (w_218 : po_M_settle (y_thrown, y_ring, y_off, y_fuse, y_steps, y_many_i, y_log_i, y_before, y_home_i, y_base_i, y_now, y_kinds, y_blocks, y_runs, y_revokes, y_from, y_uses, y_revoked, y_had, y_data) (y_thrown, y_ring, y_off, y_fuse, y_steps, y_many_218, y_log_i, y_before, y_home_i, y_base_218, y_now, y_kinds, y_blocks, y_runs, y_revokes, y_from, y_uses, y_revoked, y_had, y_data)) : po_M_down a_bits (y_thrown, y_ring, y_off, y_fuse, y_steps, y_many, y_log, y_before, y_home, y_base, y_now, y_kinds, y_blocks, y_runs, y_revokes, y_from, y_uses, y_revoked, y_had, y_data) (y_thrown, y_ring, y_off, y_fuse, y_steps, y_many_218, y_log_i, y_before, y_home_i, y_base_218, y_now, y_kinds, y_blocks, y_runs, y_revokes, y_from, y_uses, y_revoked, y_had, y_data) := by
  intro d2 run2 rev2 g hd2 hw2 hh2 huo hrn ho
  obtain ⟨d, run, rev, i, ⟨hd1, hw, hh, rfl⟩, hi, rfl, rfl, rfl, rfl⟩ := hinv
  obtain ⟨m1, m2, m3, m4⟩ := dn_mu hd1 hw hi
  have m3 : y_many_i = nI d.1.length := m3
  rw [m3] at c_7
  have hi2 := (nI_leI (by omega) (by omega)).mp c_7
  have e : i = d.1.length := by omega
  subst e
  have ed := RMs_inj hd1 hw hd2 hw2
  subst ed
  obtain ⟨w1, w2⟩ := w_218 d.1 hd1.2.2.2.1 ⟨hw.1, hw.2.1⟩
  exact dn_end hd2 huo hrn (okG_n (n := g.1) ho).1 w1 w2
theorem vc_M_down_30_0 (a_bits : Int64) (y_thrown : Int32) (y_ring : Int32) (y_off : Int32) (y_fuse : Int32) (y_steps : Int32) (y_many : Int32) (y_log : Int32) (y_before : Int32) (y_home : Nat → Int32) (y_base : Nat → Int32) (y_now : Nat → Int32) (y_kinds : Nat → Int32) (y_blocks : Nat → Int32) (y_runs : Nat → Int32) (y_revokes : Nat → Int32) (y_from : Nat → Int32) (y_uses : Nat → Int32) (y_revoked : Nat → Int32) (y_had : Nat → Int32) (y_data : Nat → Int32) (x3 : Int32) (y_many_i : Int32) (y_log_i : Int32) (y_home_i : Nat → Int32) (y_base_i : Nat → Int32) (hpre : pr_M_down a_bits (y_thrown, y_ring, y_off, y_fuse, y_steps, y_many, y_log, y_before, y_home, y_base, y_now, y_kinds, y_blocks, y_runs, y_revokes, y_from, y_uses, y_revoked, y_had, y_data)) (hinv : iv_M_down_2 a_bits (y_thrown, y_ring, y_off, y_fuse, y_steps, y_many, y_log, y_before, y_home, y_base, y_now, y_kinds, y_blocks, y_runs, y_revokes, y_from, y_uses, y_revoked, y_had, y_data) x3 (y_thrown, y_ring, y_off, y_fuse, y_steps, y_many_i, y_log_i, y_before, y_home_i, y_base_i, y_now, y_kinds, y_blocks, y_runs, y_revokes, y_from, y_uses, y_revoked, y_had, y_data)) (c_7 : ¬ y_many_i ≤ x3) (c_13 : 32 ≤ x3) : iv_M_down_32 a_bits (y_thrown, y_ring, y_off, y_fuse, y_steps, y_many, y_log, y_before, y_home, y_base, y_now, y_kinds, y_blocks, y_runs, y_revokes, y_from, y_uses, y_revoked, y_had, y_data) x3 0 (y_thrown, y_ring, y_off, y_fuse, y_steps, y_many_i, y_log_i, y_before, y_home_i, y_base_i, y_now, y_kinds, y_blocks, y_runs, y_revokes, y_from, y_uses, y_revoked, y_had, y_data) ∧ mu_M_down_32 a_bits (y_thrown, y_ring, y_off, y_fuse, y_steps, y_many, y_log, y_before, y_home, y_base, y_now, y_kinds, y_blocks, y_runs, y_revokes, y_from, y_uses, y_revoked, y_had, y_data) x3 0 (y_thrown, y_ring, y_off, y_fuse, y_steps, y_many_i, y_log_i, y_before, y_home_i, y_base_i, y_now, y_kinds, y_blocks, y_runs, y_revokes, y_from, y_uses, y_revoked, y_had, y_data) < mu_M_down_2 a_bits (y_thrown, y_ring, y_off, y_fuse, y_steps, y_many, y_log, y_before, y_home, y_base, y_now, y_kinds, y_blocks, y_runs, y_revokes, y_from, y_uses, y_revoked, y_had, y_data) x3 (y_thrown, y_ring, y_off, y_fuse, y_steps, y_many_i, y_log_i, y_before, y_home_i, y_base_i, y_now, y_kinds, y_blocks, y_runs, y_revokes, y_from, y_uses, y_revoked, y_had, y_data) := by
  obtain ⟨d, run, rev, i, ⟨hd1, hw, hh, rfl⟩, hi, rfl, rfl, rfl, rfl⟩ := hinv
  obtain ⟨m1, m2, m3, m4⟩ := dn_mu hd1 hw hi
  have m3 : y_many_i = nI d.1.length := m3
  have hi2 : ¬ d.1.length ≤ i := fun z => c_7 (by rw [m3]; exact nI_le z (by omega))
  have h32 : 32 ≤ i := (nI_leI (a := 32) (by decide) (by omega)).mp c_13
  exact ⟨⟨d, run, rev, i, ⟨hd1, hw, hh, rfl⟩, by omega, by unfold sPart; rw [if_neg (by omega)]; rfl, rfl, rfl, rfl, rfl⟩, dn_mu5 (a := 1) (b := 0) hd1 hw (by omega) (by decide) (by decide)⟩
theorem vc_M_down_30_1 (a_bits : Int64) (y_thrown : Int32) (y_ring : Int32) (y_off : Int32) (y_fuse : Int32) (y_steps : Int32) (y_many : Int32) (y_log : Int32) (y_before : Int32) (y_home : Nat → Int32) (y_base : Nat → Int32) (y_now : Nat → Int32) (y_kinds : Nat → Int32) (y_blocks : Nat → Int32) (y_runs : Nat → Int32) (y_revokes : Nat → Int32) (y_from : Nat → Int32) (y_uses : Nat → Int32) (y_revoked : Nat → Int32) (y_had : Nat → Int32) (y_data : Nat → Int32) (x3 : Int32) (y_many_i : Int32) (y_log_i : Int32) (y_home_i : Nat → Int32) (y_base_i : Nat → Int32) (v_30 : Int32) (hpre : pr_M_down a_bits (y_thrown, y_ring, y_off, y_fuse, y_steps, y_many, y_log, y_before, y_home, y_base, y_now, y_kinds, y_blocks, y_runs, y_revokes, y_from, y_uses, y_revoked, y_had, y_data)) (hinv : iv_M_down_2 a_bits (y_thrown, y_ring, y_off, y_fuse, y_steps, y_many, y_log, y_before, y_home, y_base, y_now, y_kinds, y_blocks, y_runs, y_revokes, y_from, y_uses, y_revoked, y_had, y_data) x3 (y_thrown, y_ring, y_off, y_fuse, y_steps, y_many_i, y_log_i, y_before, y_home_i, y_base_i, y_now, y_kinds, y_blocks, y_runs, y_revokes, y_from, y_uses, y_revoked, y_had, y_data)) (c_7 : ¬ y_many_i ≤ x3) (c_13 : ¬ 32 ≤ x3) (e_30 : v_30 = (Int64.toInt32 ((a_bits >>> (Int32.toInt64 (2 * x3) &&& 63)) &&& 3))) : iv_M_down_32 a_bits (y_thrown, y_ring, y_off, y_fuse, y_steps, y_many, y_log, y_before, y_home, y_base, y_now, y_kinds, y_blocks, y_runs, y_revokes, y_from, y_uses, y_revoked, y_had, y_data) x3 v_30 (y_thrown, y_ring, y_off, y_fuse, y_steps, y_many_i, y_log_i, y_before, y_home_i, y_base_i, y_now, y_kinds, y_blocks, y_runs, y_revokes, y_from, y_uses, y_revoked, y_had, y_data) ∧ mu_M_down_32 a_bits (y_thrown, y_ring, y_off, y_fuse, y_steps, y_many, y_log, y_before, y_home, y_base, y_now, y_kinds, y_blocks, y_runs, y_revokes, y_from, y_uses, y_revoked, y_had, y_data) x3 v_30 (y_thrown, y_ring, y_off, y_fuse, y_steps, y_many_i, y_log_i, y_before, y_home_i, y_base_i, y_now, y_kinds, y_blocks, y_runs, y_revokes, y_from, y_uses, y_revoked, y_had, y_data) < mu_M_down_2 a_bits (y_thrown, y_ring, y_off, y_fuse, y_steps, y_many, y_log, y_before, y_home, y_base, y_now, y_kinds, y_blocks, y_runs, y_revokes, y_from, y_uses, y_revoked, y_had, y_data) x3 (y_thrown, y_ring, y_off, y_fuse, y_steps, y_many_i, y_log_i, y_before, y_home_i, y_base_i, y_now, y_kinds, y_blocks, y_runs, y_revokes, y_from, y_uses, y_revoked, y_had, y_data) := by
  obtain ⟨d, run, rev, i, ⟨hd1, hw, hh, rfl⟩, hi, rfl, rfl, rfl, rfl⟩ := hinv
  obtain ⟨m1, m2, m3, m4⟩ := dn_mu hd1 hw hi
  have m3 : y_many_i = nI d.1.length := m3
  have hi2 : ¬ d.1.length ≤ i := fun z => c_7 (by rw [m3]; exact nI_le z (by omega))
  have h32 : ¬ 32 ≤ i := fun z => c_13 (nI_le (a := 32) z (by omega))
  exact ⟨⟨d, run, rev, i, ⟨hd1, hw, hh, rfl⟩, by omega, by rw [e_30]; exact part_e a_bits (by omega), rfl, rfl, rfl, rfl⟩, dn_mu5 (a := 1) (b := 0) hd1 hw (by omega) (by decide) (by decide)⟩
theorem vc_M_down_40_0 (a_bits : Int64) (y_thrown : Int32) (y_ring : Int32) (y_off : Int32) (y_fuse : Int32) (y_steps : Int32) (y_many : Int32) (y_log : Int32) (y_before : Int32) (y_home : Nat → Int32) (y_base : Nat → Int32) (y_now : Nat → Int32) (y_kinds : Nat → Int32) (y_blocks : Nat → Int32) (y_runs : Nat → Int32) (y_revokes : Nat → Int32) (y_from : Nat → Int32) (y_uses : Nat → Int32) (y_revoked : Nat → Int32) (y_had : Nat → Int32) (y_data : Nat → Int32) (x3 : Int32) (x4 : Int32) (y_many_i : Int32) (y_log_i : Int32) (y_home_i : Nat → Int32) (y_base_i : Nat → Int32) (hpre : pr_M_down a_bits (y_thrown, y_ring, y_off, y_fuse, y_steps, y_many, y_log, y_before, y_home, y_base, y_now, y_kinds, y_blocks, y_runs, y_revokes, y_from, y_uses, y_revoked, y_had, y_data)) (hinv : iv_M_down_32 a_bits (y_thrown, y_ring, y_off, y_fuse, y_steps, y_many, y_log, y_before, y_home, y_base, y_now, y_kinds, y_blocks, y_runs, y_revokes, y_from, y_uses, y_revoked, y_had, y_data) x3 x4 (y_thrown, y_ring, y_off, y_fuse, y_steps, y_many_i, y_log_i, y_before, y_home_i, y_base_i, y_now, y_kinds, y_blocks, y_runs, y_revokes, y_from, y_uses, y_revoked, y_had, y_data)) : vp_in x3 512 := by
  obtain ⟨d, run, rev, i, ⟨hd1, hw, hh, rfl⟩, hi, h4, rfl, rfl, rfl, rfl⟩ := hinv
  obtain ⟨m1, m2, m3, m4⟩ := dn_mu hd1 hw (Nat.le_of_lt hi)
  exact vp_in_nI (by omega) (by decide)
theorem vc_M_down_61_0 (a_bits : Int64) (y_thrown : Int32) (y_ring : Int32) (y_off : Int32) (y_fuse : Int32) (y_steps : Int32) (y_many : Int32) (y_log : Int32) (y_before : Int32) (y_home : Nat → Int32) (y_base : Nat → Int32) (y_now : Nat → Int32) (y_kinds : Nat → Int32) (y_blocks : Nat → Int32) (y_runs : Nat → Int32) (y_revokes : Nat → Int32) (y_from : Nat → Int32) (y_uses : Nat → Int32) (y_revoked : Nat → Int32) (y_had : Nat → Int32) (y_data : Nat → Int32) (x3 : Int32) (x4 : Int32) (y_many_i : Int32) (y_log_i : Int32) (y_home_i : Nat → Int32) (y_base_i : Nat → Int32) (v_40 : Int32) (v_42 : Int32) (hpre : pr_M_down a_bits (y_thrown, y_ring, y_off, y_fuse, y_steps, y_many, y_log, y_before, y_home, y_base, y_now, y_kinds, y_blocks, y_runs, y_revokes, y_from, y_uses, y_revoked, y_had, y_data)) (hinv : iv_M_down_32 a_bits (y_thrown, y_ring, y_off, y_fuse, y_steps, y_many, y_log, y_before, y_home, y_base, y_now, y_kinds, y_blocks, y_runs, y_revokes, y_from, y_uses, y_revoked, y_had, y_data) x3 x4 (y_thrown, y_ring, y_off, y_fuse, y_steps, y_many_i, y_log_i, y_before, y_home_i, y_base_i, y_now, y_kinds, y_blocks, y_runs, y_revokes, y_from, y_uses, y_revoked, y_had, y_data)) (e_40 : v_40 = (y_blocks (x3).toNatClampNeg)) (e_42 : v_42 = (256 * v_40)) (c_47 : x4 = 1) : iv_M_down_63 a_bits (y_thrown, y_ring, y_off, y_fuse, y_steps, y_many, y_log, y_before, y_home, y_base, y_now, y_kinds, y_blocks, y_runs, y_revokes, y_from, y_uses, y_revoked, y_had, y_data) x3 x4 v_42 1 (y_thrown, y_ring, y_off, y_fuse, y_steps, y_many_i, y_log_i, y_before, y_home_i, y_base_i, y_now, y_kinds, y_blocks, y_runs, y_revokes, y_from, y_uses, y_revoked, y_had, y_data) ∧ mu_M_down_63 a_bits (y_thrown, y_ring, y_off, y_fuse, y_steps, y_many, y_log, y_before, y_home, y_base, y_now, y_kinds, y_blocks, y_runs, y_revokes, y_from, y_uses, y_revoked, y_had, y_data) x3 x4 v_42 1 (y_thrown, y_ring, y_off, y_fuse, y_steps, y_many_i, y_log_i, y_before, y_home_i, y_base_i, y_now, y_kinds, y_blocks, y_runs, y_revokes, y_from, y_uses, y_revoked, y_had, y_data) < mu_M_down_32 a_bits (y_thrown, y_ring, y_off, y_fuse, y_steps, y_many, y_log, y_before, y_home, y_base, y_now, y_kinds, y_blocks, y_runs, y_revokes, y_from, y_uses, y_revoked, y_had, y_data) x3 x4 (y_thrown, y_ring, y_off, y_fuse, y_steps, y_many_i, y_log_i, y_before, y_home_i, y_base_i, y_now, y_kinds, y_blocks, y_runs, y_revokes, y_from, y_uses, y_revoked, y_had, y_data) := by
  obtain ⟨d, run, rev, i, ⟨hd1, hw, hh, rfl⟩, hi, h4, rfl, rfl, rfl, rfl⟩ := hinv
  obtain ⟨m1, m2, m3, m4⟩ := dn_mu hd1 hw (Nat.le_of_lt hi)
  rw [nI_clamp (by omega)] at e_40
  have s : sFirst i a_bits = true := by
    unfold sFirst
    rw [h4] at c_47
    rw [(pt_eq (k := 1) (by decide)).mp c_47]; rfl
  exact ⟨⟨d, run, rev, i, ⟨hd1, hw, hh, rfl⟩, hi, h4, fun z => by rw [e_42, e_40, (hd1.2.2.2.1.2 i hi).2 z]; exact pk_mul 256 _, by rw [s]; rfl, rfl, rfl, rfl, rfl⟩, dn_mu5 (a := 2) (b := 1) hd1 hw hi (by decide) (by decide)⟩
theorem vc_M_down_61_1 (a_bits : Int64) (y_thrown : Int32) (y_ring : Int32) (y_off : Int32) (y_fuse : Int32) (y_steps : Int32) (y_many : Int32) (y_log : Int32) (y_before : Int32) (y_home : Nat → Int32) (y_base : Nat → Int32) (y_now : Nat → Int32) (y_kinds : Nat → Int32) (y_blocks : Nat → Int32) (y_runs : Nat → Int32) (y_revokes : Nat → Int32) (y_from : Nat → Int32) (y_uses : Nat → Int32) (y_revoked : Nat → Int32) (y_had : Nat → Int32) (y_data : Nat → Int32) (x3 : Int32) (x4 : Int32) (y_many_i : Int32) (y_log_i : Int32) (y_home_i : Nat → Int32) (y_base_i : Nat → Int32) (v_40 : Int32) (v_42 : Int32) (hpre : pr_M_down a_bits (y_thrown, y_ring, y_off, y_fuse, y_steps, y_many, y_log, y_before, y_home, y_base, y_now, y_kinds, y_blocks, y_runs, y_revokes, y_from, y_uses, y_revoked, y_had, y_data)) (hinv : iv_M_down_32 a_bits (y_thrown, y_ring, y_off, y_fuse, y_steps, y_many, y_log, y_before, y_home, y_base, y_now, y_kinds, y_blocks, y_runs, y_revokes, y_from, y_uses, y_revoked, y_had, y_data) x3 x4 (y_thrown, y_ring, y_off, y_fuse, y_steps, y_many_i, y_log_i, y_before, y_home_i, y_base_i, y_now, y_kinds, y_blocks, y_runs, y_revokes, y_from, y_uses, y_revoked, y_had, y_data)) (e_40 : v_40 = (y_blocks (x3).toNatClampNeg)) (e_42 : v_42 = (256 * v_40)) (c_47 : ¬ x4 = 1) (c_53 : ¬ x4 = 2) : iv_M_down_63 a_bits (y_thrown, y_ring, y_off, y_fuse, y_steps, y_many, y_log, y_before, y_home, y_base, y_now, y_kinds, y_blocks, y_runs, y_revokes, y_from, y_uses, y_revoked, y_had, y_data) x3 x4 v_42 0 (y_thrown, y_ring, y_off, y_fuse, y_steps, y_many_i, y_log_i, y_before, y_home_i, y_base_i, y_now, y_kinds, y_blocks, y_runs, y_revokes, y_from, y_uses, y_revoked, y_had, y_data) ∧ mu_M_down_63 a_bits (y_thrown, y_ring, y_off, y_fuse, y_steps, y_many, y_log, y_before, y_home, y_base, y_now, y_kinds, y_blocks, y_runs, y_revokes, y_from, y_uses, y_revoked, y_had, y_data) x3 x4 v_42 0 (y_thrown, y_ring, y_off, y_fuse, y_steps, y_many_i, y_log_i, y_before, y_home_i, y_base_i, y_now, y_kinds, y_blocks, y_runs, y_revokes, y_from, y_uses, y_revoked, y_had, y_data) < mu_M_down_32 a_bits (y_thrown, y_ring, y_off, y_fuse, y_steps, y_many, y_log, y_before, y_home, y_base, y_now, y_kinds, y_blocks, y_runs, y_revokes, y_from, y_uses, y_revoked, y_had, y_data) x3 x4 (y_thrown, y_ring, y_off, y_fuse, y_steps, y_many_i, y_log_i, y_before, y_home_i, y_base_i, y_now, y_kinds, y_blocks, y_runs, y_revokes, y_from, y_uses, y_revoked, y_had, y_data) := by
  obtain ⟨d, run, rev, i, ⟨hd1, hw, hh, rfl⟩, hi, h4, rfl, rfl, rfl, rfl⟩ := hinv
  obtain ⟨m1, m2, m3, m4⟩ := dn_mu hd1 hw (Nat.le_of_lt hi)
  rw [nI_clamp (by omega)] at e_40
  have s : sFirst i a_bits = false := by
    unfold sFirst
    rw [h4] at c_47 c_53
    have z1 : ¬ sPart i a_bits = 1 := fun z => c_47 ((pt_eq (k := 1) (by decide)).mpr z)
    have z2 : ¬ sPart i a_bits = 2 := fun z => c_53 ((pt_eq (k := 2) (by decide)).mpr z)
    rw [beq_false_of_ne z1, beq_false_of_ne z2]; rfl
  exact ⟨⟨d, run, rev, i, ⟨hd1, hw, hh, rfl⟩, hi, h4, fun z => by rw [e_42, e_40, (hd1.2.2.2.1.2 i hi).2 z]; exact pk_mul 256 _, by rw [s]; rfl, rfl, rfl, rfl, rfl⟩, dn_mu5 (a := 2) (b := 1) hd1 hw hi (by decide) (by decide)⟩
theorem vc_M_down_61_2 (a_bits : Int64) (y_thrown : Int32) (y_ring : Int32) (y_off : Int32) (y_fuse : Int32) (y_steps : Int32) (y_many : Int32) (y_log : Int32) (y_before : Int32) (y_home : Nat → Int32) (y_base : Nat → Int32) (y_now : Nat → Int32) (y_kinds : Nat → Int32) (y_blocks : Nat → Int32) (y_runs : Nat → Int32) (y_revokes : Nat → Int32) (y_from : Nat → Int32) (y_uses : Nat → Int32) (y_revoked : Nat → Int32) (y_had : Nat → Int32) (y_data : Nat → Int32) (x3 : Int32) (x4 : Int32) (y_many_i : Int32) (y_log_i : Int32) (y_home_i : Nat → Int32) (y_base_i : Nat → Int32) (v_40 : Int32) (v_42 : Int32) (hpre : pr_M_down a_bits (y_thrown, y_ring, y_off, y_fuse, y_steps, y_many, y_log, y_before, y_home, y_base, y_now, y_kinds, y_blocks, y_runs, y_revokes, y_from, y_uses, y_revoked, y_had, y_data)) (hinv : iv_M_down_32 a_bits (y_thrown, y_ring, y_off, y_fuse, y_steps, y_many, y_log, y_before, y_home, y_base, y_now, y_kinds, y_blocks, y_runs, y_revokes, y_from, y_uses, y_revoked, y_had, y_data) x3 x4 (y_thrown, y_ring, y_off, y_fuse, y_steps, y_many_i, y_log_i, y_before, y_home_i, y_base_i, y_now, y_kinds, y_blocks, y_runs, y_revokes, y_from, y_uses, y_revoked, y_had, y_data)) (e_40 : v_40 = (y_blocks (x3).toNatClampNeg)) (e_42 : v_42 = (256 * v_40)) (c_47 : ¬ x4 = 1) (c_53 : x4 = 2) : iv_M_down_63 a_bits (y_thrown, y_ring, y_off, y_fuse, y_steps, y_many, y_log, y_before, y_home, y_base, y_now, y_kinds, y_blocks, y_runs, y_revokes, y_from, y_uses, y_revoked, y_had, y_data) x3 x4 v_42 1 (y_thrown, y_ring, y_off, y_fuse, y_steps, y_many_i, y_log_i, y_before, y_home_i, y_base_i, y_now, y_kinds, y_blocks, y_runs, y_revokes, y_from, y_uses, y_revoked, y_had, y_data) ∧ mu_M_down_63 a_bits (y_thrown, y_ring, y_off, y_fuse, y_steps, y_many, y_log, y_before, y_home, y_base, y_now, y_kinds, y_blocks, y_runs, y_revokes, y_from, y_uses, y_revoked, y_had, y_data) x3 x4 v_42 1 (y_thrown, y_ring, y_off, y_fuse, y_steps, y_many_i, y_log_i, y_before, y_home_i, y_base_i, y_now, y_kinds, y_blocks, y_runs, y_revokes, y_from, y_uses, y_revoked, y_had, y_data) < mu_M_down_32 a_bits (y_thrown, y_ring, y_off, y_fuse, y_steps, y_many, y_log, y_before, y_home, y_base, y_now, y_kinds, y_blocks, y_runs, y_revokes, y_from, y_uses, y_revoked, y_had, y_data) x3 x4 (y_thrown, y_ring, y_off, y_fuse, y_steps, y_many_i, y_log_i, y_before, y_home_i, y_base_i, y_now, y_kinds, y_blocks, y_runs, y_revokes, y_from, y_uses, y_revoked, y_had, y_data) := by
  obtain ⟨d, run, rev, i, ⟨hd1, hw, hh, rfl⟩, hi, h4, rfl, rfl, rfl, rfl⟩ := hinv
  obtain ⟨m1, m2, m3, m4⟩ := dn_mu hd1 hw (Nat.le_of_lt hi)
  rw [nI_clamp (by omega)] at e_40
  have s : sFirst i a_bits = true := by
    unfold sFirst
    rw [h4] at c_53
    rw [(pt_eq (k := 2) (by decide)).mp c_53]; rfl
  exact ⟨⟨d, run, rev, i, ⟨hd1, hw, hh, rfl⟩, hi, h4, fun z => by rw [e_42, e_40, (hd1.2.2.2.1.2 i hi).2 z]; exact pk_mul 256 _, by rw [s]; rfl, rfl, rfl, rfl, rfl⟩, dn_mu5 (a := 2) (b := 1) hd1 hw hi (by decide) (by decide)⟩
theorem vc_M_down_68_0 (a_bits : Int64) (y_thrown : Int32) (y_ring : Int32) (y_off : Int32) (y_fuse : Int32) (y_steps : Int32) (y_many : Int32) (y_log : Int32) (y_before : Int32) (y_home : Nat → Int32) (y_base : Nat → Int32) (y_now : Nat → Int32) (y_kinds : Nat → Int32) (y_blocks : Nat → Int32) (y_runs : Nat → Int32) (y_revokes : Nat → Int32) (y_from : Nat → Int32) (y_uses : Nat → Int32) (y_revoked : Nat → Int32) (y_had : Nat → Int32) (y_data : Nat → Int32) (x3 : Int32) (x4 : Int32) (x5 : Int32) (x6 : Int32) (y_many_i : Int32) (y_log_i : Int32) (y_home_i : Nat → Int32) (y_base_i : Nat → Int32) (hpre : pr_M_down a_bits (y_thrown, y_ring, y_off, y_fuse, y_steps, y_many, y_log, y_before, y_home, y_base, y_now, y_kinds, y_blocks, y_runs, y_revokes, y_from, y_uses, y_revoked, y_had, y_data)) (hinv : iv_M_down_63 a_bits (y_thrown, y_ring, y_off, y_fuse, y_steps, y_many, y_log, y_before, y_home, y_base, y_now, y_kinds, y_blocks, y_runs, y_revokes, y_from, y_uses, y_revoked, y_had, y_data) x3 x4 x5 x6 (y_thrown, y_ring, y_off, y_fuse, y_steps, y_many_i, y_log_i, y_before, y_home_i, y_base_i, y_now, y_kinds, y_blocks, y_runs, y_revokes, y_from, y_uses, y_revoked, y_had, y_data)) : vp_in x3 512 := by
  obtain ⟨d, run, rev, i, ⟨hd1, hw, hh, rfl⟩, hi, h4, h5, h6, rfl, rfl, rfl, rfl⟩ := hinv
  obtain ⟨m1, m2, m3, m4⟩ := dn_mu hd1 hw (Nat.le_of_lt hi)
  exact vp_in_nI (by omega) (by decide)
theorem vc_M_down_157_0 (a_bits : Int64) (y_thrown : Int32) (y_ring : Int32) (y_off : Int32) (y_fuse : Int32) (y_steps : Int32) (y_many : Int32) (y_log : Int32) (y_before : Int32) (y_home : Nat → Int32) (y_base : Nat → Int32) (y_now : Nat → Int32) (y_kinds : Nat → Int32) (y_blocks : Nat → Int32) (y_runs : Nat → Int32) (y_revokes : Nat → Int32) (y_from : Nat → Int32) (y_uses : Nat → Int32) (y_revoked : Nat → Int32) (y_had : Nat → Int32) (y_data : Nat → Int32) (x3 : Int32) (x4 : Int32) (x5 : Int32) (x6 : Int32) (y_many_i : Int32) (y_log_i : Int32) (y_home_i : Nat → Int32) (y_base_i : Nat → Int32) (v_68 : Int32) (hpre : pr_M_down a_bits (y_thrown, y_ring, y_off, y_fuse, y_steps, y_many, y_log, y_before, y_home, y_base, y_now, y_kinds, y_blocks, y_runs, y_revokes, y_from, y_uses, y_revoked, y_had, y_data)) (hinv : iv_M_down_63 a_bits (y_thrown, y_ring, y_off, y_fuse, y_steps, y_many, y_log, y_before, y_home, y_base, y_now, y_kinds, y_blocks, y_runs, y_revokes, y_from, y_uses, y_revoked, y_had, y_data) x3 x4 x5 x6 (y_thrown, y_ring, y_off, y_fuse, y_steps, y_many_i, y_log_i, y_before, y_home_i, y_base_i, y_now, y_kinds, y_blocks, y_runs, y_revokes, y_from, y_uses, y_revoked, y_had, y_data)) (e_68 : v_68 = (y_kinds (x3).toNatClampNeg)) (c_69 : ¬ v_68 = 0) : vp_in x3 512 := by
  obtain ⟨d, run, rev, i, ⟨hd1, hw, hh, rfl⟩, hi, h4, h5, h6, rfl, rfl, rfl, rfl⟩ := hinv
  obtain ⟨m1, m2, m3, m4⟩ := dn_mu hd1 hw (Nat.le_of_lt hi)
  exact vp_in_nI (by omega) (by decide)
theorem vc_M_down_189_0 (a_bits : Int64) (y_thrown : Int32) (y_ring : Int32) (y_off : Int32) (y_fuse : Int32) (y_steps : Int32) (y_many : Int32) (y_log : Int32) (y_before : Int32) (y_home : Nat → Int32) (y_base : Nat → Int32) (y_now : Nat → Int32) (y_kinds : Nat → Int32) (y_blocks : Nat → Int32) (y_runs : Nat → Int32) (y_revokes : Nat → Int32) (y_from : Nat → Int32) (y_uses : Nat → Int32) (y_revoked : Nat → Int32) (y_had : Nat → Int32) (y_data : Nat → Int32) (x3 : Int32) (x4 : Int32) (x5 : Int32) (x6 : Int32) (y_many_i : Int32) (y_log_i : Int32) (y_home_i : Nat → Int32) (y_base_i : Nat → Int32) (v_68 : Int32) (v_157 : Int32) (hpre : pr_M_down a_bits (y_thrown, y_ring, y_off, y_fuse, y_steps, y_many, y_log, y_before, y_home, y_base, y_now, y_kinds, y_blocks, y_runs, y_revokes, y_from, y_uses, y_revoked, y_had, y_data)) (hinv : iv_M_down_63 a_bits (y_thrown, y_ring, y_off, y_fuse, y_steps, y_many, y_log, y_before, y_home, y_base, y_now, y_kinds, y_blocks, y_runs, y_revokes, y_from, y_uses, y_revoked, y_had, y_data) x3 x4 x5 x6 (y_thrown, y_ring, y_off, y_fuse, y_steps, y_many_i, y_log_i, y_before, y_home_i, y_base_i, y_now, y_kinds, y_blocks, y_runs, y_revokes, y_from, y_uses, y_revoked, y_had, y_data)) (e_68 : v_68 = (y_kinds (x3).toNatClampNeg)) (c_69 : ¬ v_68 = 0) (e_157 : v_157 = (y_kinds (x3).toNatClampNeg)) (c_159 : ¬ v_157 = 2) : vp_in x3 512 := by
  obtain ⟨d, run, rev, i, ⟨hd1, hw, hh, rfl⟩, hi, h4, h5, h6, rfl, rfl, rfl, rfl⟩ := hinv
  obtain ⟨m1, m2, m3, m4⟩ := dn_mu hd1 hw (Nat.le_of_lt hi)
  exact vp_in_nI (by omega) (by decide)
theorem vc_M_down_191_0 (a_bits : Int64) (y_thrown : Int32) (y_ring : Int32) (y_off : Int32) (y_fuse : Int32) (y_steps : Int32) (y_many : Int32) (y_log : Int32) (y_before : Int32) (y_home : Nat → Int32) (y_base : Nat → Int32) (y_now : Nat → Int32) (y_kinds : Nat → Int32) (y_blocks : Nat → Int32) (y_runs : Nat → Int32) (y_revokes : Nat → Int32) (y_from : Nat → Int32) (y_uses : Nat → Int32) (y_revoked : Nat → Int32) (y_had : Nat → Int32) (y_data : Nat → Int32) (x3 : Int32) (x4 : Int32) (x5 : Int32) (x6 : Int32) (y_many_i : Int32) (y_log_i : Int32) (y_home_i : Nat → Int32) (y_base_i : Nat → Int32) (v_68 : Int32) (v_157 : Int32) (v_189 : Int32) (hpre : pr_M_down a_bits (y_thrown, y_ring, y_off, y_fuse, y_steps, y_many, y_log, y_before, y_home, y_base, y_now, y_kinds, y_blocks, y_runs, y_revokes, y_from, y_uses, y_revoked, y_had, y_data)) (hinv : iv_M_down_63 a_bits (y_thrown, y_ring, y_off, y_fuse, y_steps, y_many, y_log, y_before, y_home, y_base, y_now, y_kinds, y_blocks, y_runs, y_revokes, y_from, y_uses, y_revoked, y_had, y_data) x3 x4 x5 x6 (y_thrown, y_ring, y_off, y_fuse, y_steps, y_many_i, y_log_i, y_before, y_home_i, y_base_i, y_now, y_kinds, y_blocks, y_runs, y_revokes, y_from, y_uses, y_revoked, y_had, y_data)) (e_68 : v_68 = (y_kinds (x3).toNatClampNeg)) (c_69 : ¬ v_68 = 0) (e_157 : v_157 = (y_kinds (x3).toNatClampNeg)) (c_159 : ¬ v_157 = 2) (e_189 : v_189 = (y_kinds (x3).toNatClampNeg)) (c_191 : ¬ v_189 = 3) : iv_M_down_211 a_bits (y_thrown, y_ring, y_off, y_fuse, y_steps, y_many, y_log, y_before, y_home, y_base, y_now, y_kinds, y_blocks, y_runs, y_revokes, y_from, y_uses, y_revoked, y_had, y_data) x3 (y_thrown, y_ring, y_off, y_fuse, y_steps, y_many_i, y_log_i, y_before, y_home_i, y_base_i, y_now, y_kinds, y_blocks, y_runs, y_revokes, y_from, y_uses, y_revoked, y_had, y_data) ∧ mu_M_down_211 a_bits (y_thrown, y_ring, y_off, y_fuse, y_steps, y_many, y_log, y_before, y_home, y_base, y_now, y_kinds, y_blocks, y_runs, y_revokes, y_from, y_uses, y_revoked, y_had, y_data) x3 (y_thrown, y_ring, y_off, y_fuse, y_steps, y_many_i, y_log_i, y_before, y_home_i, y_base_i, y_now, y_kinds, y_blocks, y_runs, y_revokes, y_from, y_uses, y_revoked, y_had, y_data) < mu_M_down_63 a_bits (y_thrown, y_ring, y_off, y_fuse, y_steps, y_many, y_log, y_before, y_home, y_base, y_now, y_kinds, y_blocks, y_runs, y_revokes, y_from, y_uses, y_revoked, y_had, y_data) x3 x4 x5 x6 (y_thrown, y_ring, y_off, y_fuse, y_steps, y_many_i, y_log_i, y_before, y_home_i, y_base_i, y_now, y_kinds, y_blocks, y_runs, y_revokes, y_from, y_uses, y_revoked, y_had, y_data) := by
  obtain ⟨d, run, rev, i, ⟨hd1, hw, hh, rfl⟩, hi, h4, h5, h6, rfl, rfl, rfl, rfl⟩ := hinv
  obtain ⟨m1, m2, m3, m4⟩ := dn_mu hd1 hw (Nat.le_of_lt hi)
  have hk := kinds_at hd1 hw hi
  have ek : y_kinds i = kd (d.1.getD i 0) := (hd1.2.2.2.1.2 i hi).1
  have n0 : ¬ d.1.getD i 0 < 64 := fun z => c_69 (by rw [e_68, nI_clamp (by omega), ek]; exact (kd_0 hk).mpr z)
  have n2 : ¬ d.1.getD i 0 = 65 := fun z => c_159 (by rw [e_157, nI_clamp (by omega), ek]; exact (kd_n (m := 2) hk (by decide) (by decide)).mpr z)
  have n3 : ¬ d.1.getD i 0 = 66 := fun z => c_191 (by rw [e_189, nI_clamp (by omega), ek]; exact (kd_n (m := 3) hk (by decide) (by decide)).mpr z)
  exact ⟨⟨d, run, rev, i, ⟨hd1, hw, hh, rfl⟩, hi, rfl, rfl, sHi_skip hh hi n0, (ld_no n2 n3).symm⟩, dn_mu5 (a := 4) (b := 2) hd1 hw hi (by decide) (by decide)⟩
theorem vc_M_down_208_0 (a_bits : Int64) (y_thrown : Int32) (y_ring : Int32) (y_off : Int32) (y_fuse : Int32) (y_steps : Int32) (y_many : Int32) (y_log : Int32) (y_before : Int32) (y_home : Nat → Int32) (y_base : Nat → Int32) (y_now : Nat → Int32) (y_kinds : Nat → Int32) (y_blocks : Nat → Int32) (y_runs : Nat → Int32) (y_revokes : Nat → Int32) (y_from : Nat → Int32) (y_uses : Nat → Int32) (y_revoked : Nat → Int32) (y_had : Nat → Int32) (y_data : Nat → Int32) (x3 : Int32) (x4 : Int32) (x5 : Int32) (x6 : Int32) (y_many_i : Int32) (y_log_i : Int32) (y_home_i : Nat → Int32) (y_base_i : Nat → Int32) (v_68 : Int32) (v_157 : Int32) (v_189 : Int32) (hpre : pr_M_down a_bits (y_thrown, y_ring, y_off, y_fuse, y_steps, y_many, y_log, y_before, y_home, y_base, y_now, y_kinds, y_blocks, y_runs, y_revokes, y_from, y_uses, y_revoked, y_had, y_data)) (hinv : iv_M_down_63 a_bits (y_thrown, y_ring, y_off, y_fuse, y_steps, y_many, y_log, y_before, y_home, y_base, y_now, y_kinds, y_blocks, y_runs, y_revokes, y_from, y_uses, y_revoked, y_had, y_data) x3 x4 x5 x6 (y_thrown, y_ring, y_off, y_fuse, y_steps, y_many_i, y_log_i, y_before, y_home_i, y_base_i, y_now, y_kinds, y_blocks, y_runs, y_revokes, y_from, y_uses, y_revoked, y_had, y_data)) (e_68 : v_68 = (y_kinds (x3).toNatClampNeg)) (c_69 : ¬ v_68 = 0) (e_157 : v_157 = (y_kinds (x3).toNatClampNeg)) (c_159 : ¬ v_157 = 2) (e_189 : v_189 = (y_kinds (x3).toNatClampNeg)) (c_191 : v_189 = 3) (c_197 : x6 = 0) : iv_M_down_211 a_bits (y_thrown, y_ring, y_off, y_fuse, y_steps, y_many, y_log, y_before, y_home, y_base, y_now, y_kinds, y_blocks, y_runs, y_revokes, y_from, y_uses, y_revoked, y_had, y_data) x3 (y_thrown, y_ring, y_off, y_fuse, y_steps, y_many_i, y_before, y_before, y_home_i, y_base_i, y_now, y_kinds, y_blocks, y_runs, y_revokes, y_from, y_uses, y_revoked, y_had, y_data) ∧ mu_M_down_211 a_bits (y_thrown, y_ring, y_off, y_fuse, y_steps, y_many, y_log, y_before, y_home, y_base, y_now, y_kinds, y_blocks, y_runs, y_revokes, y_from, y_uses, y_revoked, y_had, y_data) x3 (y_thrown, y_ring, y_off, y_fuse, y_steps, y_many_i, y_before, y_before, y_home_i, y_base_i, y_now, y_kinds, y_blocks, y_runs, y_revokes, y_from, y_uses, y_revoked, y_had, y_data) < mu_M_down_63 a_bits (y_thrown, y_ring, y_off, y_fuse, y_steps, y_many, y_log, y_before, y_home, y_base, y_now, y_kinds, y_blocks, y_runs, y_revokes, y_from, y_uses, y_revoked, y_had, y_data) x3 x4 x5 x6 (y_thrown, y_ring, y_off, y_fuse, y_steps, y_many_i, y_log_i, y_before, y_home_i, y_base_i, y_now, y_kinds, y_blocks, y_runs, y_revokes, y_from, y_uses, y_revoked, y_had, y_data) := by
  obtain ⟨d, run, rev, i, ⟨hd1, hw, hh, rfl⟩, hi, h4, h5, h6, rfl, rfl, rfl, rfl⟩ := hinv
  obtain ⟨m1, m2, m3, m4⟩ := dn_mu hd1 hw (Nat.le_of_lt hi)
  have hk := kinds_at hd1 hw hi
  have ek : y_kinds i = kd (d.1.getD i 0) := (hd1.2.2.2.1.2 i hi).1
  have n0 : ¬ d.1.getD i 0 < 64 := fun z => c_69 (by rw [e_68, nI_clamp (by omega), ek]; exact (kd_0 hk).mpr z)
  have n2 : ¬ d.1.getD i 0 = 65 := fun z => c_159 (by rw [e_157, nI_clamp (by omega), ek]; exact (kd_n (m := 2) hk (by decide) (by decide)).mpr z)
  have n3 : d.1.getD i 0 = 66 := (kd_n (m := 3) hk (by decide) (by decide)).mp (by rw [nI_clamp (by omega)] at e_189; exact (ek.symm.trans e_189.symm).trans c_191)
  have s := b2i_0.mp (h6.symm.trans c_197)
  exact ⟨⟨d, run, rev, i, ⟨hd1, hw, hh, rfl⟩, hi, rfl, rfl, sHi_skip hh hi n0, by show _ = ldF a_bits y_before d.1 y_log (i + 1); unfold ldF; rw [if_neg n2, if_pos n3, s]; rfl⟩, dn_mu5 (a := 4) (b := 2) hd1 hw hi (by decide) (by decide)⟩
theorem vc_M_down_208_1 (a_bits : Int64) (y_thrown : Int32) (y_ring : Int32) (y_off : Int32) (y_fuse : Int32) (y_steps : Int32) (y_many : Int32) (y_log : Int32) (y_before : Int32) (y_home : Nat → Int32) (y_base : Nat → Int32) (y_now : Nat → Int32) (y_kinds : Nat → Int32) (y_blocks : Nat → Int32) (y_runs : Nat → Int32) (y_revokes : Nat → Int32) (y_from : Nat → Int32) (y_uses : Nat → Int32) (y_revoked : Nat → Int32) (y_had : Nat → Int32) (y_data : Nat → Int32) (x3 : Int32) (x4 : Int32) (x5 : Int32) (x6 : Int32) (y_many_i : Int32) (y_log_i : Int32) (y_home_i : Nat → Int32) (y_base_i : Nat → Int32) (v_68 : Int32) (v_157 : Int32) (v_189 : Int32) (hpre : pr_M_down a_bits (y_thrown, y_ring, y_off, y_fuse, y_steps, y_many, y_log, y_before, y_home, y_base, y_now, y_kinds, y_blocks, y_runs, y_revokes, y_from, y_uses, y_revoked, y_had, y_data)) (hinv : iv_M_down_63 a_bits (y_thrown, y_ring, y_off, y_fuse, y_steps, y_many, y_log, y_before, y_home, y_base, y_now, y_kinds, y_blocks, y_runs, y_revokes, y_from, y_uses, y_revoked, y_had, y_data) x3 x4 x5 x6 (y_thrown, y_ring, y_off, y_fuse, y_steps, y_many_i, y_log_i, y_before, y_home_i, y_base_i, y_now, y_kinds, y_blocks, y_runs, y_revokes, y_from, y_uses, y_revoked, y_had, y_data)) (e_68 : v_68 = (y_kinds (x3).toNatClampNeg)) (c_69 : ¬ v_68 = 0) (e_157 : v_157 = (y_kinds (x3).toNatClampNeg)) (c_159 : ¬ v_157 = 2) (e_189 : v_189 = (y_kinds (x3).toNatClampNeg)) (c_191 : v_189 = 3) (c_197 : ¬ x6 = 0) : iv_M_down_211 a_bits (y_thrown, y_ring, y_off, y_fuse, y_steps, y_many, y_log, y_before, y_home, y_base, y_now, y_kinds, y_blocks, y_runs, y_revokes, y_from, y_uses, y_revoked, y_had, y_data) x3 (y_thrown, y_ring, y_off, y_fuse, y_steps, y_many_i, 0, y_before, y_home_i, y_base_i, y_now, y_kinds, y_blocks, y_runs, y_revokes, y_from, y_uses, y_revoked, y_had, y_data) ∧ mu_M_down_211 a_bits (y_thrown, y_ring, y_off, y_fuse, y_steps, y_many, y_log, y_before, y_home, y_base, y_now, y_kinds, y_blocks, y_runs, y_revokes, y_from, y_uses, y_revoked, y_had, y_data) x3 (y_thrown, y_ring, y_off, y_fuse, y_steps, y_many_i, 0, y_before, y_home_i, y_base_i, y_now, y_kinds, y_blocks, y_runs, y_revokes, y_from, y_uses, y_revoked, y_had, y_data) < mu_M_down_63 a_bits (y_thrown, y_ring, y_off, y_fuse, y_steps, y_many, y_log, y_before, y_home, y_base, y_now, y_kinds, y_blocks, y_runs, y_revokes, y_from, y_uses, y_revoked, y_had, y_data) x3 x4 x5 x6 (y_thrown, y_ring, y_off, y_fuse, y_steps, y_many_i, y_log_i, y_before, y_home_i, y_base_i, y_now, y_kinds, y_blocks, y_runs, y_revokes, y_from, y_uses, y_revoked, y_had, y_data) := by
  obtain ⟨d, run, rev, i, ⟨hd1, hw, hh, rfl⟩, hi, h4, h5, h6, rfl, rfl, rfl, rfl⟩ := hinv
  obtain ⟨m1, m2, m3, m4⟩ := dn_mu hd1 hw (Nat.le_of_lt hi)
  have hk := kinds_at hd1 hw hi
  have ek : y_kinds i = kd (d.1.getD i 0) := (hd1.2.2.2.1.2 i hi).1
  have n0 : ¬ d.1.getD i 0 < 64 := fun z => c_69 (by rw [e_68, nI_clamp (by omega), ek]; exact (kd_0 hk).mpr z)
  have n2 : ¬ d.1.getD i 0 = 65 := fun z => c_159 (by rw [e_157, nI_clamp (by omega), ek]; exact (kd_n (m := 2) hk (by decide) (by decide)).mpr z)
  have n3 : d.1.getD i 0 = 66 := (kd_n (m := 3) hk (by decide) (by decide)).mp (by rw [nI_clamp (by omega)] at e_189; exact (ek.symm.trans e_189.symm).trans c_191)
  have s := b2i_n0.mp (fun z => c_197 (h6.trans z))
  exact ⟨⟨d, run, rev, i, ⟨hd1, hw, hh, rfl⟩, hi, rfl, rfl, sHi_skip hh hi n0, by show _ = ldF a_bits y_before d.1 y_log (i + 1); unfold ldF; rw [if_neg n2, if_pos n3, s]; rfl⟩, dn_mu5 (a := 4) (b := 2) hd1 hw hi (by decide) (by decide)⟩
theorem vc_M_down_181_0 (a_bits : Int64) (y_thrown : Int32) (y_ring : Int32) (y_off : Int32) (y_fuse : Int32) (y_steps : Int32) (y_many : Int32) (y_log : Int32) (y_before : Int32) (y_home : Nat → Int32) (y_base : Nat → Int32) (y_now : Nat → Int32) (y_kinds : Nat → Int32) (y_blocks : Nat → Int32) (y_runs : Nat → Int32) (y_revokes : Nat → Int32) (y_from : Nat → Int32) (y_uses : Nat → Int32) (y_revoked : Nat → Int32) (y_had : Nat → Int32) (y_data : Nat → Int32) (x3 : Int32) (x4 : Int32) (x5 : Int32) (x6 : Int32) (y_many_i : Int32) (y_log_i : Int32) (y_home_i : Nat → Int32) (y_base_i : Nat → Int32) (v_68 : Int32) (v_157 : Int32) (v_178 : Int32) (hpre : pr_M_down a_bits (y_thrown, y_ring, y_off, y_fuse, y_steps, y_many, y_log, y_before, y_home, y_base, y_now, y_kinds, y_blocks, y_runs, y_revokes, y_from, y_uses, y_revoked, y_had, y_data)) (hinv : iv_M_down_63 a_bits (y_thrown, y_ring, y_off, y_fuse, y_steps, y_many, y_log, y_before, y_home, y_base, y_now, y_kinds, y_blocks, y_runs, y_revokes, y_from, y_uses, y_revoked, y_had, y_data) x3 x4 x5 x6 (y_thrown, y_ring, y_off, y_fuse, y_steps, y_many_i, y_log_i, y_before, y_home_i, y_base_i, y_now, y_kinds, y_blocks, y_runs, y_revokes, y_from, y_uses, y_revoked, y_had, y_data)) (e_68 : v_68 = (y_kinds (x3).toNatClampNeg)) (c_69 : ¬ v_68 = 0) (e_157 : v_157 = (y_kinds (x3).toNatClampNeg)) (c_159 : v_157 = 2) (c_169 : x6 = 0) (e_178 : v_178 = (y_log_i - 1)) : iv_M_down_211 a_bits (y_thrown, y_ring, y_off, y_fuse, y_steps, y_many, y_log, y_before, y_home, y_base, y_now, y_kinds, y_blocks, y_runs, y_revokes, y_from, y_uses, y_revoked, y_had, y_data) x3 (y_thrown, y_ring, y_off, y_fuse, y_steps, y_many_i, v_178, y_before, y_home_i, y_base_i, y_now, y_kinds, y_blocks, y_runs, y_revokes, y_from, y_uses, y_revoked, y_had, y_data) ∧ mu_M_down_211 a_bits (y_thrown, y_ring, y_off, y_fuse, y_steps, y_many, y_log, y_before, y_home, y_base, y_now, y_kinds, y_blocks, y_runs, y_revokes, y_from, y_uses, y_revoked, y_had, y_data) x3 (y_thrown, y_ring, y_off, y_fuse, y_steps, y_many_i, v_178, y_before, y_home_i, y_base_i, y_now, y_kinds, y_blocks, y_runs, y_revokes, y_from, y_uses, y_revoked, y_had, y_data) < mu_M_down_63 a_bits (y_thrown, y_ring, y_off, y_fuse, y_steps, y_many, y_log, y_before, y_home, y_base, y_now, y_kinds, y_blocks, y_runs, y_revokes, y_from, y_uses, y_revoked, y_had, y_data) x3 x4 x5 x6 (y_thrown, y_ring, y_off, y_fuse, y_steps, y_many_i, y_log_i, y_before, y_home_i, y_base_i, y_now, y_kinds, y_blocks, y_runs, y_revokes, y_from, y_uses, y_revoked, y_had, y_data) := by
  obtain ⟨d, run, rev, i, ⟨hd1, hw, hh, rfl⟩, hi, h4, h5, h6, rfl, rfl, rfl, rfl⟩ := hinv
  obtain ⟨m1, m2, m3, m4⟩ := dn_mu hd1 hw (Nat.le_of_lt hi)
  have hk := kinds_at hd1 hw hi
  have ek : y_kinds i = kd (d.1.getD i 0) := (hd1.2.2.2.1.2 i hi).1
  have n0 : ¬ d.1.getD i 0 < 64 := fun z => c_69 (by rw [e_68, nI_clamp (by omega), ek]; exact (kd_0 hk).mpr z)
  have n2 : d.1.getD i 0 = 65 := (kd_n (m := 2) hk (by decide) (by decide)).mp (by rw [nI_clamp (by omega)] at e_157; exact (ek.symm.trans e_157.symm).trans c_159)
  have s := b2i_0.mp (h6.symm.trans c_169)
  exact ⟨⟨d, run, rev, i, ⟨hd1, hw, hh, rfl⟩, hi, rfl, rfl, sHi_skip hh hi n0, by rw [e_178]; show _ = ldF a_bits y_before d.1 y_log (i + 1); rw [ldF, if_pos n2, s]; rfl⟩, dn_mu5 (a := 4) (b := 2) hd1 hw hi (by decide) (by decide)⟩
theorem vc_M_down_181_1 (a_bits : Int64) (y_thrown : Int32) (y_ring : Int32) (y_off : Int32) (y_fuse : Int32) (y_steps : Int32) (y_many : Int32) (y_log : Int32) (y_before : Int32) (y_home : Nat → Int32) (y_base : Nat → Int32) (y_now : Nat → Int32) (y_kinds : Nat → Int32) (y_blocks : Nat → Int32) (y_runs : Nat → Int32) (y_revokes : Nat → Int32) (y_from : Nat → Int32) (y_uses : Nat → Int32) (y_revoked : Nat → Int32) (y_had : Nat → Int32) (y_data : Nat → Int32) (x3 : Int32) (x4 : Int32) (x5 : Int32) (x6 : Int32) (y_many_i : Int32) (y_log_i : Int32) (y_home_i : Nat → Int32) (y_base_i : Nat → Int32) (v_68 : Int32) (v_157 : Int32) (v_178 : Int32) (hpre : pr_M_down a_bits (y_thrown, y_ring, y_off, y_fuse, y_steps, y_many, y_log, y_before, y_home, y_base, y_now, y_kinds, y_blocks, y_runs, y_revokes, y_from, y_uses, y_revoked, y_had, y_data)) (hinv : iv_M_down_63 a_bits (y_thrown, y_ring, y_off, y_fuse, y_steps, y_many, y_log, y_before, y_home, y_base, y_now, y_kinds, y_blocks, y_runs, y_revokes, y_from, y_uses, y_revoked, y_had, y_data) x3 x4 x5 x6 (y_thrown, y_ring, y_off, y_fuse, y_steps, y_many_i, y_log_i, y_before, y_home_i, y_base_i, y_now, y_kinds, y_blocks, y_runs, y_revokes, y_from, y_uses, y_revoked, y_had, y_data)) (e_68 : v_68 = (y_kinds (x3).toNatClampNeg)) (c_69 : ¬ v_68 = 0) (e_157 : v_157 = (y_kinds (x3).toNatClampNeg)) (c_159 : v_157 = 2) (c_169 : ¬ x6 = 0) (e_178 : v_178 = (y_log_i - 0)) : iv_M_down_211 a_bits (y_thrown, y_ring, y_off, y_fuse, y_steps, y_many, y_log, y_before, y_home, y_base, y_now, y_kinds, y_blocks, y_runs, y_revokes, y_from, y_uses, y_revoked, y_had, y_data) x3 (y_thrown, y_ring, y_off, y_fuse, y_steps, y_many_i, v_178, y_before, y_home_i, y_base_i, y_now, y_kinds, y_blocks, y_runs, y_revokes, y_from, y_uses, y_revoked, y_had, y_data) ∧ mu_M_down_211 a_bits (y_thrown, y_ring, y_off, y_fuse, y_steps, y_many, y_log, y_before, y_home, y_base, y_now, y_kinds, y_blocks, y_runs, y_revokes, y_from, y_uses, y_revoked, y_had, y_data) x3 (y_thrown, y_ring, y_off, y_fuse, y_steps, y_many_i, v_178, y_before, y_home_i, y_base_i, y_now, y_kinds, y_blocks, y_runs, y_revokes, y_from, y_uses, y_revoked, y_had, y_data) < mu_M_down_63 a_bits (y_thrown, y_ring, y_off, y_fuse, y_steps, y_many, y_log, y_before, y_home, y_base, y_now, y_kinds, y_blocks, y_runs, y_revokes, y_from, y_uses, y_revoked, y_had, y_data) x3 x4 x5 x6 (y_thrown, y_ring, y_off, y_fuse, y_steps, y_many_i, y_log_i, y_before, y_home_i, y_base_i, y_now, y_kinds, y_blocks, y_runs, y_revokes, y_from, y_uses, y_revoked, y_had, y_data) := by
  obtain ⟨d, run, rev, i, ⟨hd1, hw, hh, rfl⟩, hi, h4, h5, h6, rfl, rfl, rfl, rfl⟩ := hinv
  obtain ⟨m1, m2, m3, m4⟩ := dn_mu hd1 hw (Nat.le_of_lt hi)
  have hk := kinds_at hd1 hw hi
  have ek : y_kinds i = kd (d.1.getD i 0) := (hd1.2.2.2.1.2 i hi).1
  have n0 : ¬ d.1.getD i 0 < 64 := fun z => c_69 (by rw [e_68, nI_clamp (by omega), ek]; exact (kd_0 hk).mpr z)
  have n2 : d.1.getD i 0 = 65 := (kd_n (m := 2) hk (by decide) (by decide)).mp (by rw [nI_clamp (by omega)] at e_157; exact (ek.symm.trans e_157.symm).trans c_159)
  have s := b2i_n0.mp (fun z => c_169 (h6.trans z))
  exact ⟨⟨d, run, rev, i, ⟨hd1, hw, hh, rfl⟩, hi, rfl, rfl, sHi_skip hh hi n0, by rw [e_178]; show _ = ldF a_bits y_before d.1 y_log (i + 1); rw [ldF, if_pos n2, s]; rfl⟩, dn_mu5 (a := 4) (b := 2) hd1 hw hi (by decide) (by decide)⟩
theorem vc_M_down_100_0 (a_bits : Int64) (y_thrown : Int32) (y_ring : Int32) (y_off : Int32) (y_fuse : Int32) (y_steps : Int32) (y_many : Int32) (y_log : Int32) (y_before : Int32) (y_home : Nat → Int32) (y_base : Nat → Int32) (y_now : Nat → Int32) (y_kinds : Nat → Int32) (y_blocks : Nat → Int32) (y_runs : Nat → Int32) (y_revokes : Nat → Int32) (y_from : Nat → Int32) (y_uses : Nat → Int32) (y_revoked : Nat → Int32) (y_had : Nat → Int32) (y_data : Nat → Int32) (x3 : Int32) (x4 : Int32) (x5 : Int32) (x6 : Int32) (y_many_i : Int32) (y_log_i : Int32) (y_home_i : Nat → Int32) (y_base_i : Nat → Int32) (v_68 : Int32) (hpre : pr_M_down a_bits (y_thrown, y_ring, y_off, y_fuse, y_steps, y_many, y_log, y_before, y_home, y_base, y_now, y_kinds, y_blocks, y_runs, y_revokes, y_from, y_uses, y_revoked, y_had, y_data)) (hinv : iv_M_down_63 a_bits (y_thrown, y_ring, y_off, y_fuse, y_steps, y_many, y_log, y_before, y_home, y_base, y_now, y_kinds, y_blocks, y_runs, y_revokes, y_from, y_uses, y_revoked, y_had, y_data) x3 x4 x5 x6 (y_thrown, y_ring, y_off, y_fuse, y_steps, y_many_i, y_log_i, y_before, y_home_i, y_base_i, y_now, y_kinds, y_blocks, y_runs, y_revokes, y_from, y_uses, y_revoked, y_had, y_data)) (e_68 : v_68 = (y_kinds (x3).toNatClampNeg)) (c_69 : v_68 = 0) (c_75 : x6 = 0) : pr_M_copy x5 x5 128 16384 16384 y_base_i y_home_i := by
  obtain ⟨d, run, rev, i, ⟨hd1, hw, hh, rfl⟩, hi, h4, h5, h6, rfl, rfl, rfl, rfl⟩ := hinv
  obtain ⟨m1, m2, m3, m4⟩ := dn_mu hd1 hw (Nat.le_of_lt hi)
  have hk := kinds_at hd1 hw hi
  have ek : y_kinds i = kd (d.1.getD i 0) := (hd1.2.2.2.1.2 i hi).1
  have hq : d.1.getD i 0 < 64 := (kd_0 hk).mp (by rw [← ek, ← c_69, e_68, nI_clamp (by omega)])
  have e5 := h5 hq
  have eb : y_base_i = d.2.2.2.2.1 := hd1.2.2.2.2.2.1
  exact ⟨256 * d.1.getD i 0, 256 * d.1.getD i 0, 128, e5, e5, rfl, by omega, by omega, by decide, by decide, by rw [eb]; exact hw.2.2.1⟩
theorem vc_M_down_100_1 (a_bits : Int64) (y_thrown : Int32) (y_ring : Int32) (y_off : Int32) (y_fuse : Int32) (y_steps : Int32) (y_many : Int32) (y_log : Int32) (y_before : Int32) (y_home : Nat → Int32) (y_base : Nat → Int32) (y_now : Nat → Int32) (y_kinds : Nat → Int32) (y_blocks : Nat → Int32) (y_runs : Nat → Int32) (y_revokes : Nat → Int32) (y_from : Nat → Int32) (y_uses : Nat → Int32) (y_revoked : Nat → Int32) (y_had : Nat → Int32) (y_data : Nat → Int32) (x3 : Int32) (x4 : Int32) (x5 : Int32) (x6 : Int32) (y_many_i : Int32) (y_log_i : Int32) (y_home_i : Nat → Int32) (y_base_i : Nat → Int32) (v_68 : Int32) (b_ar_100 : Nat → Int32) (hpre : pr_M_down a_bits (y_thrown, y_ring, y_off, y_fuse, y_steps, y_many, y_log, y_before, y_home, y_base, y_now, y_kinds, y_blocks, y_runs, y_revokes, y_from, y_uses, y_revoked, y_had, y_data)) (hinv : iv_M_down_63 a_bits (y_thrown, y_ring, y_off, y_fuse, y_steps, y_many, y_log, y_before, y_home, y_base, y_now, y_kinds, y_blocks, y_runs, y_revokes, y_from, y_uses, y_revoked, y_had, y_data) x3 x4 x5 x6 (y_thrown, y_ring, y_off, y_fuse, y_steps, y_many_i, y_log_i, y_before, y_home_i, y_base_i, y_now, y_kinds, y_blocks, y_runs, y_revokes, y_from, y_uses, y_revoked, y_had, y_data)) (e_68 : v_68 = (y_kinds (x3).toNatClampNeg)) (c_69 : v_68 = 0) (c_75 : x6 = 0) (w_100 : po_M_copy x5 x5 128 16384 16384 y_base_i y_home_i y_base_i b_ar_100) : iv_M_down_103 a_bits (y_thrown, y_ring, y_off, y_fuse, y_steps, y_many, y_log, y_before, y_home, y_base, y_now, y_kinds, y_blocks, y_runs, y_revokes, y_from, y_uses, y_revoked, y_had, y_data) x3 x4 x5 (y_thrown, y_ring, y_off, y_fuse, y_steps, y_many_i, y_log_i, y_before, b_ar_100, y_base_i, y_now, y_kinds, y_blocks, y_runs, y_revokes, y_from, y_uses, y_revoked, y_had, y_data) ∧ mu_M_down_103 a_bits (y_thrown, y_ring, y_off, y_fuse, y_steps, y_many, y_log, y_before, y_home, y_base, y_now, y_kinds, y_blocks, y_runs, y_revokes, y_from, y_uses, y_revoked, y_had, y_data) x3 x4 x5 (y_thrown, y_ring, y_off, y_fuse, y_steps, y_many_i, y_log_i, y_before, b_ar_100, y_base_i, y_now, y_kinds, y_blocks, y_runs, y_revokes, y_from, y_uses, y_revoked, y_had, y_data) < mu_M_down_63 a_bits (y_thrown, y_ring, y_off, y_fuse, y_steps, y_many, y_log, y_before, y_home, y_base, y_now, y_kinds, y_blocks, y_runs, y_revokes, y_from, y_uses, y_revoked, y_had, y_data) x3 x4 x5 x6 (y_thrown, y_ring, y_off, y_fuse, y_steps, y_many_i, y_log_i, y_before, y_home_i, y_base_i, y_now, y_kinds, y_blocks, y_runs, y_revokes, y_from, y_uses, y_revoked, y_had, y_data) := by
  obtain ⟨d, run, rev, i, ⟨hd1, hw, hh, rfl⟩, hi, h4, h5, h6, rfl, rfl, rfl, rfl⟩ := hinv
  obtain ⟨m1, m2, m3, m4⟩ := dn_mu hd1 hw (Nat.le_of_lt hi)
  have hk := kinds_at hd1 hw hi
  have ek : y_kinds i = kd (d.1.getD i 0) := (hd1.2.2.2.1.2 i hi).1
  have hq : d.1.getD i 0 < 64 := (kd_0 hk).mp (by rw [← ek, ← c_69, e_68, nI_clamp (by omega)])
  have e5 := h5 hq
  have eb : y_base_i = d.2.2.2.2.1 := hd1.2.2.2.2.2.1
  have s := b2i_0.mp (h6.symm.trans c_75)
  have w := w_100 (256 * d.1.getD i 0) (256 * d.1.getD i 0) 128 e5 e5 rfl (by omega) (by omega) (by decide) (by decide)
  exact ⟨⟨d, run, rev, i, ⟨hd1, hw, hh, rfl⟩, hi, h4, hq, e5, rfl, rfl, by rw [w]; unfold mh1; rw [s, eb]; rfl, rfl⟩, dn_mu5 (a := 3) (b := 2) hd1 hw hi (by decide) (by decide)⟩
theorem vc_M_down_100_2 (a_bits : Int64) (y_thrown : Int32) (y_ring : Int32) (y_off : Int32) (y_fuse : Int32) (y_steps : Int32) (y_many : Int32) (y_log : Int32) (y_before : Int32) (y_home : Nat → Int32) (y_base : Nat → Int32) (y_now : Nat → Int32) (y_kinds : Nat → Int32) (y_blocks : Nat → Int32) (y_runs : Nat → Int32) (y_revokes : Nat → Int32) (y_from : Nat → Int32) (y_uses : Nat → Int32) (y_revoked : Nat → Int32) (y_had : Nat → Int32) (y_data : Nat → Int32) (x3 : Int32) (x4 : Int32) (x5 : Int32) (x6 : Int32) (y_many_i : Int32) (y_log_i : Int32) (y_home_i : Nat → Int32) (y_base_i : Nat → Int32) (v_68 : Int32) (hpre : pr_M_down a_bits (y_thrown, y_ring, y_off, y_fuse, y_steps, y_many, y_log, y_before, y_home, y_base, y_now, y_kinds, y_blocks, y_runs, y_revokes, y_from, y_uses, y_revoked, y_had, y_data)) (hinv : iv_M_down_63 a_bits (y_thrown, y_ring, y_off, y_fuse, y_steps, y_many, y_log, y_before, y_home, y_base, y_now, y_kinds, y_blocks, y_runs, y_revokes, y_from, y_uses, y_revoked, y_had, y_data) x3 x4 x5 x6 (y_thrown, y_ring, y_off, y_fuse, y_steps, y_many_i, y_log_i, y_before, y_home_i, y_base_i, y_now, y_kinds, y_blocks, y_runs, y_revokes, y_from, y_uses, y_revoked, y_had, y_data)) (e_68 : v_68 = (y_kinds (x3).toNatClampNeg)) (c_69 : v_68 = 0) (c_75 : ¬ x6 = 0) : pr_M_copy1 x5 x5 128 16384 y_home_i := by
  obtain ⟨d, run, rev, i, ⟨hd1, hw, hh, rfl⟩, hi, h4, h5, h6, rfl, rfl, rfl, rfl⟩ := hinv
  obtain ⟨m1, m2, m3, m4⟩ := dn_mu hd1 hw (Nat.le_of_lt hi)
  have hk := kinds_at hd1 hw hi
  have ek : y_kinds i = kd (d.1.getD i 0) := (hd1.2.2.2.1.2 i hi).1
  have hq : d.1.getD i 0 < 64 := (kd_0 hk).mp (by rw [← ek, ← c_69, e_68, nI_clamp (by omega)])
  have e5 := h5 hq
  exact ⟨256 * d.1.getD i 0, 128, e5, e5, rfl, by omega, by decide, fit_sHi hw.2.2.1 hw.2.2.2 a_bits i⟩
theorem vc_M_down_100_3 (a_bits : Int64) (y_thrown : Int32) (y_ring : Int32) (y_off : Int32) (y_fuse : Int32) (y_steps : Int32) (y_many : Int32) (y_log : Int32) (y_before : Int32) (y_home : Nat → Int32) (y_base : Nat → Int32) (y_now : Nat → Int32) (y_kinds : Nat → Int32) (y_blocks : Nat → Int32) (y_runs : Nat → Int32) (y_revokes : Nat → Int32) (y_from : Nat → Int32) (y_uses : Nat → Int32) (y_revoked : Nat → Int32) (y_had : Nat → Int32) (y_data : Nat → Int32) (x3 : Int32) (x4 : Int32) (x5 : Int32) (x6 : Int32) (y_many_i : Int32) (y_log_i : Int32) (y_home_i : Nat → Int32) (y_base_i : Nat → Int32) (v_68 : Int32) (ar_100 : Nat → Int32) (hpre : pr_M_down a_bits (y_thrown, y_ring, y_off, y_fuse, y_steps, y_many, y_log, y_before, y_home, y_base, y_now, y_kinds, y_blocks, y_runs, y_revokes, y_from, y_uses, y_revoked, y_had, y_data)) (hinv : iv_M_down_63 a_bits (y_thrown, y_ring, y_off, y_fuse, y_steps, y_many, y_log, y_before, y_home, y_base, y_now, y_kinds, y_blocks, y_runs, y_revokes, y_from, y_uses, y_revoked, y_had, y_data) x3 x4 x5 x6 (y_thrown, y_ring, y_off, y_fuse, y_steps, y_many_i, y_log_i, y_before, y_home_i, y_base_i, y_now, y_kinds, y_blocks, y_runs, y_revokes, y_from, y_uses, y_revoked, y_had, y_data)) (e_68 : v_68 = (y_kinds (x3).toNatClampNeg)) (c_69 : v_68 = 0) (c_75 : ¬ x6 = 0) (w_100 : po_M_copy1 x5 x5 128 16384 y_home_i ar_100) : iv_M_down_103 a_bits (y_thrown, y_ring, y_off, y_fuse, y_steps, y_many, y_log, y_before, y_home, y_base, y_now, y_kinds, y_blocks, y_runs, y_revokes, y_from, y_uses, y_revoked, y_had, y_data) x3 x4 x5 (y_thrown, y_ring, y_off, y_fuse, y_steps, y_many_i, y_log_i, y_before, ar_100, y_base_i, y_now, y_kinds, y_blocks, y_runs, y_revokes, y_from, y_uses, y_revoked, y_had, y_data) ∧ mu_M_down_103 a_bits (y_thrown, y_ring, y_off, y_fuse, y_steps, y_many, y_log, y_before, y_home, y_base, y_now, y_kinds, y_blocks, y_runs, y_revokes, y_from, y_uses, y_revoked, y_had, y_data) x3 x4 x5 (y_thrown, y_ring, y_off, y_fuse, y_steps, y_many_i, y_log_i, y_before, ar_100, y_base_i, y_now, y_kinds, y_blocks, y_runs, y_revokes, y_from, y_uses, y_revoked, y_had, y_data) < mu_M_down_63 a_bits (y_thrown, y_ring, y_off, y_fuse, y_steps, y_many, y_log, y_before, y_home, y_base, y_now, y_kinds, y_blocks, y_runs, y_revokes, y_from, y_uses, y_revoked, y_had, y_data) x3 x4 x5 x6 (y_thrown, y_ring, y_off, y_fuse, y_steps, y_many_i, y_log_i, y_before, y_home_i, y_base_i, y_now, y_kinds, y_blocks, y_runs, y_revokes, y_from, y_uses, y_revoked, y_had, y_data) := by
  obtain ⟨d, run, rev, i, ⟨hd1, hw, hh, rfl⟩, hi, h4, h5, h6, rfl, rfl, rfl, rfl⟩ := hinv
  obtain ⟨m1, m2, m3, m4⟩ := dn_mu hd1 hw (Nat.le_of_lt hi)
  have hk := kinds_at hd1 hw hi
  have ek : y_kinds i = kd (d.1.getD i 0) := (hd1.2.2.2.1.2 i hi).1
  have hq : d.1.getD i 0 < 64 := (kd_0 hk).mp (by rw [← ek, ← c_69, e_68, nI_clamp (by omega)])
  have e5 := h5 hq
  have s := b2i_n0.mp (fun z => c_75 (h6.trans z))
  have w : ar_100 = _ := w_100
  exact ⟨⟨d, run, rev, i, ⟨hd1, hw, hh, rfl⟩, hi, h4, hq, e5, rfl, rfl, by rw [w]; unfold mh1; rw [s]; rfl, rfl⟩, dn_mu5 (a := 3) (b := 2) hd1 hw hi (by decide) (by decide)⟩
theorem vc_M_down_146_0 (a_bits : Int64) (y_thrown : Int32) (y_ring : Int32) (y_off : Int32) (y_fuse : Int32) (y_steps : Int32) (y_many : Int32) (y_log : Int32) (y_before : Int32) (y_home : Nat → Int32) (y_base : Nat → Int32) (y_now : Nat → Int32) (y_kinds : Nat → Int32) (y_blocks : Nat → Int32) (y_runs : Nat → Int32) (y_revokes : Nat → Int32) (y_from : Nat → Int32) (y_uses : Nat → Int32) (y_revoked : Nat → Int32) (y_had : Nat → Int32) (y_data : Nat → Int32) (x3 : Int32) (x4 : Int32) (x5 : Int32) (y_many_i : Int32) (y_log_i : Int32) (y_home_i : Nat → Int32) (y_base_i : Nat → Int32) (hpre : pr_M_down a_bits (y_thrown, y_ring, y_off, y_fuse, y_steps, y_many, y_log, y_before, y_home, y_base, y_now, y_kinds, y_blocks, y_runs, y_revokes, y_from, y_uses, y_revoked, y_had, y_data)) (hinv : iv_M_down_103 a_bits (y_thrown, y_ring, y_off, y_fuse, y_steps, y_many, y_log, y_before, y_home, y_base, y_now, y_kinds, y_blocks, y_runs, y_revokes, y_from, y_uses, y_revoked, y_had, y_data) x3 x4 x5 (y_thrown, y_ring, y_off, y_fuse, y_steps, y_many_i, y_log_i, y_before, y_home_i, y_base_i, y_now, y_kinds, y_blocks, y_runs, y_revokes, y_from, y_uses, y_revoked, y_had, y_data)) (c_107 : x4 = 1) : pr_M_copy1 (x5 + 128) (x5 + 128) 128 16384 y_home_i := by
  obtain ⟨d, run, rev, i, ⟨hd1, hw, hh, rfl⟩, hi, h4, hq, h5, rfl, rfl, rfl, rfl⟩ := hinv
  obtain ⟨m1, m2, m3, m4⟩ := dn_mu hd1 hw (Nat.le_of_lt hi)
  have e5 : x5 + 128 = nI (256 * d.1.getD i 0 + 128) := by rw [h5]; exact nI_add _ 128
  exact ⟨256 * d.1.getD i 0 + 128, 128, e5, e5, rfl, by omega, by decide, fit_mh1 hw a_bits i⟩
theorem vc_M_down_149_0 (a_bits : Int64) (y_thrown : Int32) (y_ring : Int32) (y_off : Int32) (y_fuse : Int32) (y_steps : Int32) (y_many : Int32) (y_log : Int32) (y_before : Int32) (y_home : Nat → Int32) (y_base : Nat → Int32) (y_now : Nat → Int32) (y_kinds : Nat → Int32) (y_blocks : Nat → Int32) (y_runs : Nat → Int32) (y_revokes : Nat → Int32) (y_from : Nat → Int32) (y_uses : Nat → Int32) (y_revoked : Nat → Int32) (y_had : Nat → Int32) (y_data : Nat → Int32) (x3 : Int32) (x4 : Int32) (x5 : Int32) (y_many_i : Int32) (y_log_i : Int32) (y_home_i : Nat → Int32) (y_base_i : Nat → Int32) (ar_146 : Nat → Int32) (hpre : pr_M_down a_bits (y_thrown, y_ring, y_off, y_fuse, y_steps, y_many, y_log, y_before, y_home, y_base, y_now, y_kinds, y_blocks, y_runs, y_revokes, y_from, y_uses, y_revoked, y_had, y_data)) (hinv : iv_M_down_103 a_bits (y_thrown, y_ring, y_off, y_fuse, y_steps, y_many, y_log, y_before, y_home, y_base, y_now, y_kinds, y_blocks, y_runs, y_revokes, y_from, y_uses, y_revoked, y_had, y_data) x3 x4 x5 (y_thrown, y_ring, y_off, y_fuse, y_steps, y_many_i, y_log_i, y_before, y_home_i, y_base_i, y_now, y_kinds, y_blocks, y_runs, y_revokes, y_from, y_uses, y_revoked, y_had, y_data)) (c_107 : x4 = 1) (w_146 : po_M_copy1 (x5 + 128) (x5 + 128) 128 16384 y_home_i ar_146) : iv_M_down_211 a_bits (y_thrown, y_ring, y_off, y_fuse, y_steps, y_many, y_log, y_before, y_home, y_base, y_now, y_kinds, y_blocks, y_runs, y_revokes, y_from, y_uses, y_revoked, y_had, y_data) x3 (y_thrown, y_ring, y_off, y_fuse, y_steps, y_many_i, y_log_i, y_before, ar_146, y_base_i, y_now, y_kinds, y_blocks, y_runs, y_revokes, y_from, y_uses, y_revoked, y_had, y_data) ∧ mu_M_down_211 a_bits (y_thrown, y_ring, y_off, y_fuse, y_steps, y_many, y_log, y_before, y_home, y_base, y_now, y_kinds, y_blocks, y_runs, y_revokes, y_from, y_uses, y_revoked, y_had, y_data) x3 (y_thrown, y_ring, y_off, y_fuse, y_steps, y_many_i, y_log_i, y_before, ar_146, y_base_i, y_now, y_kinds, y_blocks, y_runs, y_revokes, y_from, y_uses, y_revoked, y_had, y_data) < mu_M_down_103 a_bits (y_thrown, y_ring, y_off, y_fuse, y_steps, y_many, y_log, y_before, y_home, y_base, y_now, y_kinds, y_blocks, y_runs, y_revokes, y_from, y_uses, y_revoked, y_had, y_data) x3 x4 x5 (y_thrown, y_ring, y_off, y_fuse, y_steps, y_many_i, y_log_i, y_before, y_home_i, y_base_i, y_now, y_kinds, y_blocks, y_runs, y_revokes, y_from, y_uses, y_revoked, y_had, y_data) := by
  obtain ⟨d, run, rev, i, ⟨hd1, hw, hh, rfl⟩, hi, h4, hq, h5, rfl, rfl, rfl, rfl⟩ := hinv
  obtain ⟨m1, m2, m3, m4⟩ := dn_mu hd1 hw (Nat.le_of_lt hi)
  have e5 : x5 + 128 = nI (256 * d.1.getD i 0 + 128) := by rw [h5]; exact nI_add _ 128
  have s : sLast i a_bits = true := by
    unfold sLast
    rw [h4] at c_107
    rw [(pt_eq (k := 1) (by decide)).mp c_107]; rfl
  have w : ar_146 = _ := w_146
  exact ⟨⟨d, run, rev, i, ⟨hd1, hw, hh, rfl⟩, hi, rfl, rfl, by rw [← mh_step hh hi hq, w]; unfold mh2; rw [s]; rfl, (ld_no (by omega) (by omega)).symm⟩, dn_mu5 (a := 4) (b := 3) hd1 hw hi (by decide) (by decide)⟩
theorem vc_M_down_146_1 (a_bits : Int64) (y_thrown : Int32) (y_ring : Int32) (y_off : Int32) (y_fuse : Int32) (y_steps : Int32) (y_many : Int32) (y_log : Int32) (y_before : Int32) (y_home : Nat → Int32) (y_base : Nat → Int32) (y_now : Nat → Int32) (y_kinds : Nat → Int32) (y_blocks : Nat → Int32) (y_runs : Nat → Int32) (y_revokes : Nat → Int32) (y_from : Nat → Int32) (y_uses : Nat → Int32) (y_revoked : Nat → Int32) (y_had : Nat → Int32) (y_data : Nat → Int32) (x3 : Int32) (x4 : Int32) (x5 : Int32) (y_many_i : Int32) (y_log_i : Int32) (y_home_i : Nat → Int32) (y_base_i : Nat → Int32) (hpre : pr_M_down a_bits (y_thrown, y_ring, y_off, y_fuse, y_steps, y_many, y_log, y_before, y_home, y_base, y_now, y_kinds, y_blocks, y_runs, y_revokes, y_from, y_uses, y_revoked, y_had, y_data)) (hinv : iv_M_down_103 a_bits (y_thrown, y_ring, y_off, y_fuse, y_steps, y_many, y_log, y_before, y_home, y_base, y_now, y_kinds, y_blocks, y_runs, y_revokes, y_from, y_uses, y_revoked, y_had, y_data) x3 x4 x5 (y_thrown, y_ring, y_off, y_fuse, y_steps, y_many_i, y_log_i, y_before, y_home_i, y_base_i, y_now, y_kinds, y_blocks, y_runs, y_revokes, y_from, y_uses, y_revoked, y_had, y_data)) (c_107 : ¬ x4 = 1) (c_113 : ¬ x4 = 3) : pr_M_copy (x5 + 128) (x5 + 128) 128 16384 16384 y_base_i y_home_i := by
  obtain ⟨d, run, rev, i, ⟨hd1, hw, hh, rfl⟩, hi, h4, hq, h5, rfl, rfl, rfl, rfl⟩ := hinv
  obtain ⟨m1, m2, m3, m4⟩ := dn_mu hd1 hw (Nat.le_of_lt hi)
  have e5 : x5 + 128 = nI (256 * d.1.getD i 0 + 128) := by rw [h5]; exact nI_add _ 128
  have eb : y_base_i = d.2.2.2.2.1 := hd1.2.2.2.2.2.1
  exact ⟨256 * d.1.getD i 0 + 128, 256 * d.1.getD i 0 + 128, 128, e5, e5, rfl, by omega, by omega, by decide, by decide, by rw [eb]; exact hw.2.2.1⟩
theorem vc_M_down_149_1 (a_bits : Int64) (y_thrown : Int32) (y_ring : Int32) (y_off : Int32) (y_fuse : Int32) (y_steps : Int32) (y_many : Int32) (y_log : Int32) (y_before : Int32) (y_home : Nat → Int32) (y_base : Nat → Int32) (y_now : Nat → Int32) (y_kinds : Nat → Int32) (y_blocks : Nat → Int32) (y_runs : Nat → Int32) (y_revokes : Nat → Int32) (y_from : Nat → Int32) (y_uses : Nat → Int32) (y_revoked : Nat → Int32) (y_had : Nat → Int32) (y_data : Nat → Int32) (x3 : Int32) (x4 : Int32) (x5 : Int32) (y_many_i : Int32) (y_log_i : Int32) (y_home_i : Nat → Int32) (y_base_i : Nat → Int32) (b_ar_146 : Nat → Int32) (hpre : pr_M_down a_bits (y_thrown, y_ring, y_off, y_fuse, y_steps, y_many, y_log, y_before, y_home, y_base, y_now, y_kinds, y_blocks, y_runs, y_revokes, y_from, y_uses, y_revoked, y_had, y_data)) (hinv : iv_M_down_103 a_bits (y_thrown, y_ring, y_off, y_fuse, y_steps, y_many, y_log, y_before, y_home, y_base, y_now, y_kinds, y_blocks, y_runs, y_revokes, y_from, y_uses, y_revoked, y_had, y_data) x3 x4 x5 (y_thrown, y_ring, y_off, y_fuse, y_steps, y_many_i, y_log_i, y_before, y_home_i, y_base_i, y_now, y_kinds, y_blocks, y_runs, y_revokes, y_from, y_uses, y_revoked, y_had, y_data)) (c_107 : ¬ x4 = 1) (c_113 : ¬ x4 = 3) (w_146 : po_M_copy (x5 + 128) (x5 + 128) 128 16384 16384 y_base_i y_home_i y_base_i b_ar_146) : iv_M_down_211 a_bits (y_thrown, y_ring, y_off, y_fuse, y_steps, y_many, y_log, y_before, y_home, y_base, y_now, y_kinds, y_blocks, y_runs, y_revokes, y_from, y_uses, y_revoked, y_had, y_data) x3 (y_thrown, y_ring, y_off, y_fuse, y_steps, y_many_i, y_log_i, y_before, b_ar_146, y_base_i, y_now, y_kinds, y_blocks, y_runs, y_revokes, y_from, y_uses, y_revoked, y_had, y_data) ∧ mu_M_down_211 a_bits (y_thrown, y_ring, y_off, y_fuse, y_steps, y_many, y_log, y_before, y_home, y_base, y_now, y_kinds, y_blocks, y_runs, y_revokes, y_from, y_uses, y_revoked, y_had, y_data) x3 (y_thrown, y_ring, y_off, y_fuse, y_steps, y_many_i, y_log_i, y_before, b_ar_146, y_base_i, y_now, y_kinds, y_blocks, y_runs, y_revokes, y_from, y_uses, y_revoked, y_had, y_data) < mu_M_down_103 a_bits (y_thrown, y_ring, y_off, y_fuse, y_steps, y_many, y_log, y_before, y_home, y_base, y_now, y_kinds, y_blocks, y_runs, y_revokes, y_from, y_uses, y_revoked, y_had, y_data) x3 x4 x5 (y_thrown, y_ring, y_off, y_fuse, y_steps, y_many_i, y_log_i, y_before, y_home_i, y_base_i, y_now, y_kinds, y_blocks, y_runs, y_revokes, y_from, y_uses, y_revoked, y_had, y_data) := by
  obtain ⟨d, run, rev, i, ⟨hd1, hw, hh, rfl⟩, hi, h4, hq, h5, rfl, rfl, rfl, rfl⟩ := hinv
  obtain ⟨m1, m2, m3, m4⟩ := dn_mu hd1 hw (Nat.le_of_lt hi)
  have e5 : x5 + 128 = nI (256 * d.1.getD i 0 + 128) := by rw [h5]; exact nI_add _ 128
  have eb : y_base_i = d.2.2.2.2.1 := hd1.2.2.2.2.2.1
  have s : sLast i a_bits = false := by
    unfold sLast
    rw [h4] at c_107 c_113
    have z1 : ¬ sPart i a_bits = 1 := fun z => c_107 ((pt_eq (k := 1) (by decide)).mpr z)
    have z2 : ¬ sPart i a_bits = 3 := fun z => c_113 ((pt_eq (k := 3) (by decide)).mpr z)
    rw [beq_false_of_ne z1, beq_false_of_ne z2]; rfl
  have w := w_146 (256 * d.1.getD i 0 + 128) (256 * d.1.getD i 0 + 128) 128 e5 e5 rfl (by omega) (by omega) (by decide) (by decide)
  exact ⟨⟨d, run, rev, i, ⟨hd1, hw, hh, rfl⟩, hi, rfl, rfl, by rw [← mh_step hh hi hq, w]; unfold mh2; rw [s, eb]; rfl, (ld_no (by omega) (by omega)).symm⟩, dn_mu5 (a := 4) (b := 3) hd1 hw hi (by decide) (by decide)⟩
theorem vc_M_down_146_2 (a_bits : Int64) (y_thrown : Int32) (y_ring : Int32) (y_off : Int32) (y_fuse : Int32) (y_steps : Int32) (y_many : Int32) (y_log : Int32) (y_before : Int32) (y_home : Nat → Int32) (y_base : Nat → Int32) (y_now : Nat → Int32) (y_kinds : Nat → Int32) (y_blocks : Nat → Int32) (y_runs : Nat → Int32) (y_revokes : Nat → Int32) (y_from : Nat → Int32) (y_uses : Nat → Int32) (y_revoked : Nat → Int32) (y_had : Nat → Int32) (y_data : Nat → Int32) (x3 : Int32) (x4 : Int32) (x5 : Int32) (y_many_i : Int32) (y_log_i : Int32) (y_home_i : Nat → Int32) (y_base_i : Nat → Int32) (hpre : pr_M_down a_bits (y_thrown, y_ring, y_off, y_fuse, y_steps, y_many, y_log, y_before, y_home, y_base, y_now, y_kinds, y_blocks, y_runs, y_revokes, y_from, y_uses, y_revoked, y_had, y_data)) (hinv : iv_M_down_103 a_bits (y_thrown, y_ring, y_off, y_fuse, y_steps, y_many, y_log, y_before, y_home, y_base, y_now, y_kinds, y_blocks, y_runs, y_revokes, y_from, y_uses, y_revoked, y_had, y_data) x3 x4 x5 (y_thrown, y_ring, y_off, y_fuse, y_steps, y_many_i, y_log_i, y_before, y_home_i, y_base_i, y_now, y_kinds, y_blocks, y_runs, y_revokes, y_from, y_uses, y_revoked, y_had, y_data)) (c_107 : ¬ x4 = 1) (c_113 : x4 = 3) : pr_M_copy1 (x5 + 128) (x5 + 128) 128 16384 y_home_i := by
  obtain ⟨d, run, rev, i, ⟨hd1, hw, hh, rfl⟩, hi, h4, hq, h5, rfl, rfl, rfl, rfl⟩ := hinv
  obtain ⟨m1, m2, m3, m4⟩ := dn_mu hd1 hw (Nat.le_of_lt hi)
  have e5 : x5 + 128 = nI (256 * d.1.getD i 0 + 128) := by rw [h5]; exact nI_add _ 128
  exact ⟨256 * d.1.getD i 0 + 128, 128, e5, e5, rfl, by omega, by decide, fit_mh1 hw a_bits i⟩
theorem vc_M_down_149_2 (a_bits : Int64) (y_thrown : Int32) (y_ring : Int32) (y_off : Int32) (y_fuse : Int32) (y_steps : Int32) (y_many : Int32) (y_log : Int32) (y_before : Int32) (y_home : Nat → Int32) (y_base : Nat → Int32) (y_now : Nat → Int32) (y_kinds : Nat → Int32) (y_blocks : Nat → Int32) (y_runs : Nat → Int32) (y_revokes : Nat → Int32) (y_from : Nat → Int32) (y_uses : Nat → Int32) (y_revoked : Nat → Int32) (y_had : Nat → Int32) (y_data : Nat → Int32) (x3 : Int32) (x4 : Int32) (x5 : Int32) (y_many_i : Int32) (y_log_i : Int32) (y_home_i : Nat → Int32) (y_base_i : Nat → Int32) (ar_146 : Nat → Int32) (hpre : pr_M_down a_bits (y_thrown, y_ring, y_off, y_fuse, y_steps, y_many, y_log, y_before, y_home, y_base, y_now, y_kinds, y_blocks, y_runs, y_revokes, y_from, y_uses, y_revoked, y_had, y_data)) (hinv : iv_M_down_103 a_bits (y_thrown, y_ring, y_off, y_fuse, y_steps, y_many, y_log, y_before, y_home, y_base, y_now, y_kinds, y_blocks, y_runs, y_revokes, y_from, y_uses, y_revoked, y_had, y_data) x3 x4 x5 (y_thrown, y_ring, y_off, y_fuse, y_steps, y_many_i, y_log_i, y_before, y_home_i, y_base_i, y_now, y_kinds, y_blocks, y_runs, y_revokes, y_from, y_uses, y_revoked, y_had, y_data)) (c_107 : ¬ x4 = 1) (c_113 : x4 = 3) (w_146 : po_M_copy1 (x5 + 128) (x5 + 128) 128 16384 y_home_i ar_146) : iv_M_down_211 a_bits (y_thrown, y_ring, y_off, y_fuse, y_steps, y_many, y_log, y_before, y_home, y_base, y_now, y_kinds, y_blocks, y_runs, y_revokes, y_from, y_uses, y_revoked, y_had, y_data) x3 (y_thrown, y_ring, y_off, y_fuse, y_steps, y_many_i, y_log_i, y_before, ar_146, y_base_i, y_now, y_kinds, y_blocks, y_runs, y_revokes, y_from, y_uses, y_revoked, y_had, y_data) ∧ mu_M_down_211 a_bits (y_thrown, y_ring, y_off, y_fuse, y_steps, y_many, y_log, y_before, y_home, y_base, y_now, y_kinds, y_blocks, y_runs, y_revokes, y_from, y_uses, y_revoked, y_had, y_data) x3 (y_thrown, y_ring, y_off, y_fuse, y_steps, y_many_i, y_log_i, y_before, ar_146, y_base_i, y_now, y_kinds, y_blocks, y_runs, y_revokes, y_from, y_uses, y_revoked, y_had, y_data) < mu_M_down_103 a_bits (y_thrown, y_ring, y_off, y_fuse, y_steps, y_many, y_log, y_before, y_home, y_base, y_now, y_kinds, y_blocks, y_runs, y_revokes, y_from, y_uses, y_revoked, y_had, y_data) x3 x4 x5 (y_thrown, y_ring, y_off, y_fuse, y_steps, y_many_i, y_log_i, y_before, y_home_i, y_base_i, y_now, y_kinds, y_blocks, y_runs, y_revokes, y_from, y_uses, y_revoked, y_had, y_data) := by
  obtain ⟨d, run, rev, i, ⟨hd1, hw, hh, rfl⟩, hi, h4, hq, h5, rfl, rfl, rfl, rfl⟩ := hinv
  obtain ⟨m1, m2, m3, m4⟩ := dn_mu hd1 hw (Nat.le_of_lt hi)
  have e5 : x5 + 128 = nI (256 * d.1.getD i 0 + 128) := by rw [h5]; exact nI_add _ 128
  have s : sLast i a_bits = true := by
    unfold sLast
    rw [h4] at c_113
    rw [(pt_eq (k := 3) (by decide)).mp c_113]; rfl
  have w : ar_146 = _ := w_146
  exact ⟨⟨d, run, rev, i, ⟨hd1, hw, hh, rfl⟩, hi, rfl, rfl, by rw [← mh_step hh hi hq, w]; unfold mh2; rw [s]; rfl, (ld_no (by omega) (by omega)).symm⟩, dn_mu5 (a := 4) (b := 3) hd1 hw hi (by decide) (by decide)⟩
theorem vc_M_down_214_0 (a_bits : Int64) (y_thrown : Int32) (y_ring : Int32) (y_off : Int32) (y_fuse : Int32) (y_steps : Int32) (y_many : Int32) (y_log : Int32) (y_before : Int32) (y_home : Nat → Int32) (y_base : Nat → Int32) (y_now : Nat → Int32) (y_kinds : Nat → Int32) (y_blocks : Nat → Int32) (y_runs : Nat → Int32) (y_revokes : Nat → Int32) (y_from : Nat → Int32) (y_uses : Nat → Int32) (y_revoked : Nat → Int32) (y_had : Nat → Int32) (y_data : Nat → Int32) (x3 : Int32) (y_many_i : Int32) (y_log_i : Int32) (y_home_i : Nat → Int32) (y_base_i : Nat → Int32) (v_211 : Int32) (hpre : pr_M_down a_bits (y_thrown, y_ring, y_off, y_fuse, y_steps, y_many, y_log, y_before, y_home, y_base, y_now, y_kinds, y_blocks, y_runs, y_revokes, y_from, y_uses, y_revoked, y_had, y_data)) (hinv : iv_M_down_211 a_bits (y_thrown, y_ring, y_off, y_fuse, y_steps, y_many, y_log, y_before, y_home, y_base, y_now, y_kinds, y_blocks, y_runs, y_revokes, y_from, y_uses, y_revoked, y_had, y_data) x3 (y_thrown, y_ring, y_off, y_fuse, y_steps, y_many_i, y_log_i, y_before, y_home_i, y_base_i, y_now, y_kinds, y_blocks, y_runs, y_revokes, y_from, y_uses, y_revoked, y_had, y_data)) (e_211 : v_211 = x3 + 1) : iv_M_down_2 a_bits (y_thrown, y_ring, y_off, y_fuse, y_steps, y_many, y_log, y_before, y_home, y_base, y_now, y_kinds, y_blocks, y_runs, y_revokes, y_from, y_uses, y_revoked, y_had, y_data) v_211 (y_thrown, y_ring, y_off, y_fuse, y_steps, y_many_i, y_log_i, y_before, y_home_i, y_base_i, y_now, y_kinds, y_blocks, y_runs, y_revokes, y_from, y_uses, y_revoked, y_had, y_data) ∧ mu_M_down_2 a_bits (y_thrown, y_ring, y_off, y_fuse, y_steps, y_many, y_log, y_before, y_home, y_base, y_now, y_kinds, y_blocks, y_runs, y_revokes, y_from, y_uses, y_revoked, y_had, y_data) v_211 (y_thrown, y_ring, y_off, y_fuse, y_steps, y_many_i, y_log_i, y_before, y_home_i, y_base_i, y_now, y_kinds, y_blocks, y_runs, y_revokes, y_from, y_uses, y_revoked, y_had, y_data) < mu_M_down_211 a_bits (y_thrown, y_ring, y_off, y_fuse, y_steps, y_many, y_log, y_before, y_home, y_base, y_now, y_kinds, y_blocks, y_runs, y_revokes, y_from, y_uses, y_revoked, y_had, y_data) x3 (y_thrown, y_ring, y_off, y_fuse, y_steps, y_many_i, y_log_i, y_before, y_home_i, y_base_i, y_now, y_kinds, y_blocks, y_runs, y_revokes, y_from, y_uses, y_revoked, y_had, y_data) := by
  obtain ⟨d, run, rev, i, ⟨hd1, hw, hh, rfl⟩, hi, rfl, rfl, rfl, rfl⟩ := hinv
  obtain ⟨m1, m2, m3, m4⟩ := dn_mu hd1 hw (Nat.le_of_lt hi)
  refine ⟨⟨d, run, rev, i + 1, ⟨hd1, hw, hh, by rw [e_211]; exact nI_1 i⟩, hi, rfl, rfl, rfl, rfl⟩, ?_⟩
  have k2 := (dn_mu hd1 hw hi).1
  show 5 * (_ - v_211.toNatClampNeg) < 5 * (_ - (nI i).toNatClampNeg) - 4
  rw [e_211, nI_1, k2, m1]
  omega
theorem vc_M_down_1_0 (a_bits : Int64) (y_thrown : Int32) (y_ring : Int32) (y_off : Int32) (y_fuse : Int32) (y_steps : Int32) (y_many : Int32) (y_log : Int32) (y_before : Int32) (y_home : Nat → Int32) (y_base : Nat → Int32) (y_now : Nat → Int32) (y_kinds : Nat → Int32) (y_blocks : Nat → Int32) (y_runs : Nat → Int32) (y_revokes : Nat → Int32) (y_from : Nat → Int32) (y_uses : Nat → Int32) (y_revoked : Nat → Int32) (y_had : Nat → Int32) (y_data : Nat → Int32) (hpre : pr_M_down a_bits (y_thrown, y_ring, y_off, y_fuse, y_steps, y_many, y_log, y_before, y_home, y_base, y_now, y_kinds, y_blocks, y_runs, y_revokes, y_from, y_uses, y_revoked, y_had, y_data)) : iv_M_down_2 a_bits (y_thrown, y_ring, y_off, y_fuse, y_steps, y_many, y_log, y_before, y_home, y_base, y_now, y_kinds, y_blocks, y_runs, y_revokes, y_from, y_uses, y_revoked, y_had, y_data) 0 (y_thrown, y_ring, y_off, y_fuse, y_steps, y_many, y_log, y_before, y_home, y_base, y_now, y_kinds, y_blocks, y_runs, y_revokes, y_from, y_uses, y_revoked, y_had, y_data) ∧ True := by
  obtain ⟨d, run, rev, n, hd1, hw, hh, hrn⟩ := hpre
  exact ⟨⟨d, run, rev, 0, ⟨hd1, hw, hh, rfl⟩, Nat.zero_le _, rfl, rfl, by rw [sHi_0]; exact hd1.2.2.2.2.1, rfl⟩, trivial⟩
