theorem b2i_inj {a b : Bool} (h : b2i a = b2i b) : a = b := by cases a <;> cases b <;> first | rfl | exact absurd h (by decide)
theorem RD_inj {d d2 : Dk} {k : DKt} (h : RD d k) (w : DW d) (h2 : RD d2 k) (w2 : DW d2) : d = d2 := by
  obtain ⟨u, on, f, st, ba, ho⟩ := d
  obtain ⟨u2, on2, f2, st2, ba2, ho2⟩ := d2
  obtain ⟨uw, hm, on1, sl, st1, dn, wr, od⟩ := k
  obtain ⟨a1, a2, a3, a4, a5, a6, a7, a8⟩ := h
  obtain ⟨b1, b2, b3, b4, b5, b6, b7, b8⟩ := h2
  have hl : u.length ≤ 200 := w.1
  have hl2 : u2.length ≤ 200 := w2.1
  have e1 : u.length = u2.length := (nI_eq (by omega) (by omega)).mp (a1.symm.trans b1)
  have eu : u = u2 := by
    refine List.ext_getElem e1 (fun i q1 q2 => ?_)
    have z := (a2 i q1).symm.trans (b2 i q2)
    have k1 := w.2.1 _ (getD_mem q1)
    have k2 := w2.2.1 _ (getD_mem q2)
    have z2 := (nI_eq (by omega) (by omega)).mp z
    rw [getD_get q1, getD_get q2] at z2
    exact z2
  have eo : on = on2 := b2i_inj (a4.symm.trans b4)
  subst eu eo
  rw [show f = f2 from a5.symm.trans b5, show st = st2 from a6.symm.trans b6, show ba = ba2 from a7.symm.trans b7, show ho = ho2 from a8.symm.trans b8]
def sBi (d : Dk) (bits : Int64) (i : Nat) : Nat → Int32 := fun j => if j / 256 < 64 ∧ j / 256 ∈ d.1.take i then sByte d.1 bits d.2.2.2.2.1 d.2.2.2.2.2 j else d.2.2.2.2.1 j
def sHi (d : Dk) (bits : Int64) (i : Nat) : Nat → Int32 := fun j => if j / 256 < 64 ∧ j / 256 ∈ d.1.take i then sByte d.1 bits d.2.2.2.2.1 d.2.2.2.2.2 j else d.2.2.2.2.2 j
def hb (c : Bool) (q lo : Nat) (f g : Nat → Int32) : Nat → Int32 := if c = true ∧ q < 64 then va_cpy f g (q * 256 + lo) (q * 256 + lo) 128 else g
def sh1 (d : Dk) (bits : Int64) (i : Nat) : Nat → Int32 := hb (sFirst i bits) (d.1.getD i 0) 0 (sHi d bits i) (sBi d bits i)
def sh2 (d : Dk) (bits : Int64) (i : Nat) : Nat → Int32 := hb (sLast i bits) (d.1.getD i 0) 128 (sHi d bits i) (sh1 d bits i)
def wBH (d : Dk) (b h : Nat → Int32) : Dk := (d.1, d.2.1, d.2.2.1, d.2.2.2.1, b, h)
theorem fit_sByte {u : List Nat} {bits : Int64} {ba ho : Nat → Int32} (h1 : sb_Fit ba) (h2 : sb_Fit ho) (j : Nat) : fits .byte (.int (sByte u bits ba ho j)) = true := by
  unfold sByte
  repeat' split
  all_goals first | exact h1 j | exact h2 j
theorem fit_sHi {d : Dk} (h1 : sb_Fit d.2.2.2.2.1) (h2 : sb_Fit d.2.2.2.2.2) (bits : Int64) (i : Nat) : sb_Fit (sHi d bits i) := by
  intro j
  unfold sHi
  split
  · exact fit_sByte h1 h2 j
  · exact h2 j
theorem fit_sBi {d : Dk} (h1 : sb_Fit d.2.2.2.2.1) (h2 : sb_Fit d.2.2.2.2.2) (bits : Int64) (i : Nat) : sb_Fit (sBi d bits i) := by
  intro j
  unfold sBi
  split
  · exact fit_sByte h1 h2 j
  · exact h1 j
theorem getD_take {u : List Nat} {i j : Nat} (h : j < i) : (u.take i).getD j 0 = u.getD j 0 := by
  rw [List.getD_eq_getElem?_getD, List.getD_eq_getElem?_getD, List.getElem?_take_of_lt h]
theorem hd_notin {u : List Nat} (h : hd u) {i : Nat} (hi : i < u.length) (hq : u.getD i 0 < 64) : u.getD i 0 ∉ u.take i := by
  intro hm
  obtain ⟨j, hj, e⟩ := mem_getD hm
  have hj2 : j < i ∧ j < u.length := by
    rw [List.length_take] at hj; omega
  rw [getD_take hj2.1] at e
  have := h j i hj2.2 hi e (by rw [e]; exact hq)
  omega
theorem hd_idx {u : List Nat} (h : hd u) {i : Nat} (hi : i < u.length) (hq : u.getD i 0 < 64) : u.idxOf (u.getD i 0) = i :=
  idxOf_first hi rfl (fun j hj e => by
    have := h j i (by omega) hi e (by rw [e]; exact hq)
    omega)
theorem hd_step {d : Dk} {bits : Int64} {i : Nat} (h : hd d.1) (hi : i < d.1.length) : sh2 d bits i = sBi d bits (i + 1) ∧ (if d.1.getD i 0 < 64 then va_cpy (sBi d bits (i + 1)) (sHi d bits i) (d.1.getD i 0 * 256) (d.1.getD i 0 * 256) 256 else sHi d bits i) = sHi d bits (i + 1) := by
  have ht := take_succ_getD hi
  obtain ⟨q, hqe⟩ : ∃ q, q = d.1.getD i 0 := ⟨_, rfl⟩
  rw [← hqe] at ht
  have hmem : ∀ j, j / 256 ≠ q → ((j / 256 < 64 ∧ j / 256 ∈ d.1.take (i + 1)) ↔ (j / 256 < 64 ∧ j / 256 ∈ d.1.take i)) := by
    intro j hj
    rw [ht, List.mem_append, List.mem_singleton]
    exact ⟨fun z => ⟨z.1, z.2.elim id (fun e => absurd e hj)⟩, fun z => ⟨z.1, Or.inl z.2⟩⟩
  by_cases hq : q < 64
  · have hni : q ∉ d.1.take i := by rw [hqe]; exact hd_notin h hi (by rw [← hqe]; exact hq)
    have hix : d.1.idxOf q = i := by rw [hqe]; exact hd_idx h hi (by rw [← hqe]; exact hq)
    have hin : q ∈ d.1 := by rw [hqe]; exact getD_mem hi
    have e1 : ∀ j, j / 256 = q → sBi d bits i j = d.2.2.2.2.1 j := fun j hj => by unfold sBi; rw [hj, if_neg (fun z => hni z.2)]
    have e2 : ∀ j, j / 256 = q → sHi d bits i j = d.2.2.2.2.2 j := fun j hj => by unfold sHi; rw [hj, if_neg (fun z => hni z.2)]
    have e3 : ∀ j, j / 256 = q → (j / 256 < 64 ∧ j / 256 ∈ d.1.take (i + 1)) := fun j hj => by rw [hj, ht]; exact ⟨hq, List.mem_append.mpr (Or.inr (List.mem_singleton.mpr rfl))⟩
    have e4 : ∀ j, j / 256 = q → sByte d.1 bits d.2.2.2.2.1 d.2.2.2.2.2 j = if (if j % 256 < 128 then sFirst i bits else sLast i bits) = true then d.2.2.2.2.2 j else d.2.2.2.2.1 j := fun j hj => by
      unfold sByte; rw [hj, if_pos ⟨hq, hin⟩, hix]
    have E1 : ∀ j, sh2 d bits i j = sBi d bits (i + 1) j := by
      intro j
      unfold sh2 sh1 hb
      rw [← hqe]
      by_cases hj : j / 256 = q
      · have r : sBi d bits (i + 1) j = sByte d.1 bits d.2.2.2.2.1 d.2.2.2.2.2 j := by unfold sBi; rw [if_pos (e3 j hj)]
        rw [r, e4 j hj]
        by_cases hl : j % 256 < 128
        · rw [if_pos hl]
          have out : ∀ f g : Nat → Int32, va_cpy f g (q * 256 + 128) (q * 256 + 128) 128 j = g j := fun f g => pk_cpy_out (by omega)
          have inn : ∀ f g : Nat → Int32, va_cpy f g (q * 256 + 0) (q * 256 + 0) 128 j = f j := fun f g => by rw [pk_cpy_in (by omega) (by omega), show q * 256 + 0 + (j - (q * 256 + 0)) = j by omega]
          have s1 : (if sLast i bits = true ∧ q < 64 then va_cpy (sHi d bits i) (if sFirst i bits = true ∧ q < 64 then va_cpy (sHi d bits i) (sBi d bits i) (q * 256 + 0) (q * 256 + 0) 128 else sBi d bits i) (q * 256 + 128) (q * 256 + 128) 128 else (if sFirst i bits = true ∧ q < 64 then va_cpy (sHi d bits i) (sBi d bits i) (q * 256 + 0) (q * 256 + 0) 128 else sBi d bits i)) j = (if sFirst i bits = true ∧ q < 64 then va_cpy (sHi d bits i) (sBi d bits i) (q * 256 + 0) (q * 256 + 0) 128 else sBi d bits i) j := by
            split
            · exact out _ _
            · rfl
          rw [s1]
          by_cases c : sFirst i bits = true
          · rw [if_pos ⟨c, hq⟩, if_pos c, inn, e2 j hj]
          · rw [if_neg (fun z => c z.1), if_neg c, e1 j hj]
        · rw [if_neg hl]
          have out : ∀ f g : Nat → Int32, va_cpy f g (q * 256 + 0) (q * 256 + 0) 128 j = g j := fun f g => pk_cpy_out (by omega)
          have inn : ∀ f g : Nat → Int32, va_cpy f g (q * 256 + 128) (q * 256 + 128) 128 j = f j := fun f g => by rw [pk_cpy_in (by omega) (by omega), show q * 256 + 128 + (j - (q * 256 + 128)) = j by omega]
          have s1 : (if sFirst i bits = true ∧ q < 64 then va_cpy (sHi d bits i) (sBi d bits i) (q * 256 + 0) (q * 256 + 0) 128 else sBi d bits i) j = sBi d bits i j := by
            split
            · exact out _ _
            · rfl
          by_cases c : sLast i bits = true
          · rw [if_pos ⟨c, hq⟩, if_pos c, inn, e2 j hj]
          · rw [if_neg (fun z => c z.1), if_neg c, s1, e1 j hj]
      · have r : sBi d bits (i + 1) j = sBi d bits i j := by
          unfold sBi
          by_cases z : j / 256 < 64 ∧ j / 256 ∈ d.1.take i
          · rw [if_pos z, if_pos ((hmem j hj).mpr z)]
          · rw [if_neg z, if_neg (fun y => z ((hmem j hj).mp y))]
        rw [r]
        have out : ∀ (lo : Nat) (f g : Nat → Int32), lo ≤ 128 → va_cpy f g (q * 256 + lo) (q * 256 + lo) 128 j = g j := fun lo f g hlo => pk_cpy_out (by omega)
        have s1 : (if sFirst i bits = true ∧ q < 64 then va_cpy (sHi d bits i) (sBi d bits i) (q * 256 + 0) (q * 256 + 0) 128 else sBi d bits i) j = sBi d bits i j := by
          split
          · exact out 0 _ _ (by decide)
          · rfl
        split
        · rw [out 128 _ _ (by decide), s1]
        · exact s1
    refine ⟨funext E1, ?_⟩
    rw [← hqe, if_pos hq]
    funext j
    by_cases hj : j / 256 = q
    · rw [pk_cpy_in (by omega) (by omega), show q * 256 + (j - q * 256) = j by omega]
      unfold sBi sHi
      rw [if_pos (e3 j hj), if_pos (e3 j hj)]
    · rw [pk_cpy_out (by omega)]
      unfold sHi
      by_cases z : j / 256 < 64 ∧ j / 256 ∈ d.1.take i
      · rw [if_pos z, if_pos ((hmem j hj).mpr z)]
      · rw [if_neg z, if_neg (fun y => z ((hmem j hj).mp y))]
  · have hb' : ∀ (c : Bool) (lo : Nat) (f g : Nat → Int32), hb c q lo f g = g := fun c lo f g => by unfold hb; rw [if_neg (fun z => hq z.2)]
    have hm2 : ∀ j, ((j / 256 < 64 ∧ j / 256 ∈ d.1.take (i + 1)) ↔ (j / 256 < 64 ∧ j / 256 ∈ d.1.take i)) := by
      intro j
      by_cases hj : j / 256 = q
      · rw [hj]; exact ⟨fun z => absurd z.1 hq, fun z => absurd z.1 hq⟩
      · exact hmem j hj
    refine ⟨?_, ?_⟩
    · unfold sh2 sh1
      rw [← hqe, hb', hb']
      funext j
      unfold sBi
      by_cases z : j / 256 < 64 ∧ j / 256 ∈ d.1.take i
      · rw [if_pos z, if_pos ((hm2 j).mpr z)]
      · rw [if_neg z, if_neg (fun y => z ((hm2 j).mp y))]
    · rw [← hqe, if_neg hq]
      funext j
      unfold sHi
      by_cases z : j / 256 < 64 ∧ j / 256 ∈ d.1.take i
      · rw [if_pos z, if_pos ((hm2 j).mpr z)]
      · rw [if_neg z, if_neg (fun y => z ((hm2 j).mp y))]
def iv_Disk_settle_2 (bits : Int64) (k0 : DKt) (x3 : Int32) (k : DKt) : Prop := ∃ (d : Dk) (i : Nat), RD d k0 ∧ DW d ∧ hd d.1 ∧ x3 = nI i ∧ i ≤ d.1.length ∧ RD (wBH d (sBi d bits i) (sHi d bits i)) k
def iv_Disk_settle_36 (bits : Int64) (k0 : DKt) (x3 x4 : Int32) (k : DKt) : Prop := ∃ (d : Dk) (i : Nat), RD d k0 ∧ DW d ∧ hd d.1 ∧ x3 = nI i ∧ i < d.1.length ∧ x4 = nI (d.1.getD i 0) ∧ RD (wBH d (sh1 d bits i) (sHi d bits i)) k
def iv_Disk_settle_56 (bits : Int64) (k0 : DKt) (x3 x4 : Int32) (k : DKt) : Prop := ∃ (d : Dk) (i : Nat), RD d k0 ∧ DW d ∧ hd d.1 ∧ x3 = nI i ∧ i < d.1.length ∧ x4 = nI (d.1.getD i 0) ∧ RD (wBH d (sBi d bits (i + 1)) (sHi d bits i)) k
def iv_Disk_settle_90 (bits : Int64) (k0 : DKt) (x3 : Int32) (k : DKt) : Prop := ∃ (d : Dk) (i : Nat), RD d k0 ∧ DW d ∧ hd d.1 ∧ x3 = nI i ∧ i < d.1.length ∧ RD (wBH d (sBi d bits (i + 1)) (sHi d bits (i + 1))) k
def mu_Disk_settle_2 (_ : Int64) (k0 : DKt) (x3 : Int32) (_ : DKt) : Nat := 4 * (k0.1.toNatClampNeg - x3.toNatClampNeg)
def mu_Disk_settle_36 (_ : Int64) (k0 : DKt) (x3 _ : Int32) (_ : DKt) : Nat := 4 * (k0.1.toNatClampNeg - x3.toNatClampNeg) - 1
def mu_Disk_settle_56 (_ : Int64) (k0 : DKt) (x3 _ : Int32) (_ : DKt) : Nat := 4 * (k0.1.toNatClampNeg - x3.toNatClampNeg) - 2
def mu_Disk_settle_90 (_ : Int64) (k0 : DKt) (x3 : Int32) (_ : DKt) : Nat := 4 * (k0.1.toNatClampNeg - x3.toNatClampNeg) - 3
theorem st_mu {d : Dk} {k0 : DKt} {i : Nat} (h : RD d k0) (w : DW d) (hi : i < d.1.length) : (k0.1.toNatClampNeg - (nI i).toNatClampNeg) = d.1.length - i ∧ i < 2 ^ 31 - 1 := by
  obtain ⟨u, on, f, st, ba, ho⟩ := d
  obtain ⟨uw, hm, on1, sl, st1, dn, wr, od⟩ := k0
  have hl : u.length ≤ 200 := w.1
  have hi : i < u.length := hi
  have b1 : uw = nI u.length := h.1
  show uw.toNatClampNeg - _ = u.length - i ∧ _
  rw [b1, nI_clamp (by omega), nI_clamp (by omega)]
  exact ⟨rfl, by omega⟩

theorem vc_Disk_settle_97_0 (a_bits : Int64) (k_underWay : Int32) (k_homesUnderWay : Int64) (k_on : Int32) (k_stepsLeft : Int32) (k_steps : Int32) (k_down : Nat → Int32) (k_written : Nat → Int32) (k_order : Nat → Int32) (x3 : Int32) (k_underWay_i : Int32) (k_homesUnderWay_i : Int64) (k_down_i : Nat → Int32) (k_written_i : Nat → Int32) (hpre : pr_Disk_settle a_bits (k_underWay, k_homesUnderWay, k_on, k_stepsLeft, k_steps, k_down, k_written, k_order)) (hinv : iv_Disk_settle_2 a_bits (k_underWay, k_homesUnderWay, k_on, k_stepsLeft, k_steps, k_down, k_written, k_order) x3 (k_underWay_i, k_homesUnderWay_i, k_on, k_stepsLeft, k_steps, k_down_i, k_written_i, k_order)) (c_7 : k_underWay_i ≤ x3) : pr_Disk_forgetUnderWay (k_underWay_i, k_homesUnderWay_i, k_on, k_stepsLeft, k_steps, k_down_i, k_written_i, k_order) := by
  trivial
theorem vc_Disk_settle_100_0 (a_bits : Int64) (k_underWay : Int32) (k_homesUnderWay : Int64) (k_on : Int32) (k_stepsLeft : Int32) (k_steps : Int32) (k_down : Nat → Int32) (k_written : Nat → Int32) (k_order : Nat → Int32) (x3 : Int32) (k_underWay_i : Int32) (k_homesUnderWay_i : Int64) (k_down_i : Nat → Int32) (k_written_i : Nat → Int32) (k_underWay_97 : Int32) (k_homesUnderWay_97 : Int64) (hpre : pr_Disk_settle a_bits (k_underWay, k_homesUnderWay, k_on, k_stepsLeft, k_steps, k_down, k_written, k_order)) (hinv : iv_Disk_settle_2 a_bits (k_underWay, k_homesUnderWay, k_on, k_stepsLeft, k_steps, k_down, k_written, k_order) x3 (k_underWay_i, k_homesUnderWay_i, k_on, k_stepsLeft, k_steps, k_down_i, k_written_i, k_order)) (c_7 : k_underWay_i ≤ x3) (w_97 : po_Disk_forgetUnderWay (k_underWay_i, k_homesUnderWay_i, k_on, k_stepsLeft, k_steps, k_down_i, k_written_i, k_order) (k_underWay_97, k_homesUnderWay_97, k_on, k_stepsLeft, k_steps, k_down_i, k_written_i, k_order)) : po_Disk_settle a_bits (k_underWay, k_homesUnderWay, k_on, k_stepsLeft, k_steps, k_down, k_written, k_order) (k_underWay_97, k_homesUnderWay_97, k_on, k_stepsLeft, k_steps, k_down_i, k_written_i, k_order) := by
  intro d2 hd2 hw2 hh2
  obtain ⟨d, i, h0, hw, hh, rfl, hi, hk⟩ := hinv
  have e := RD_inj h0 hw hd2 hw2
  subst e
  obtain ⟨u, on, f, st, ba, ho⟩ := d
  obtain ⟨b1, b2, b3, b4, b5, b6, b7, b8⟩ := hk
  have hl : u.length ≤ 200 := hw.1
  have hi : i ≤ u.length := hi
  rw [b1] at c_7
  have h2 : u.length ≤ i := (nI_leI (by show u.length < _; omega) (by omega)).mp c_7
  have w : (k_underWay_97, k_homesUnderWay_97, k_on, k_stepsLeft, k_steps, k_down_i, k_written_i, k_order) = ((0, 0, k_on, k_stepsLeft, k_steps, k_down_i, k_written_i, k_order) : DKt) := w_97
  rw [w]
  refine ⟨rfl, fun j hj => absurd hj (Nat.not_lt_zero _), fun c _ => by rw [bt_zero]; rfl, b4, b5, b6, ?_, ?_⟩
  · rw [b7]
    funext j
    show (if j / 256 < 64 ∧ j / 256 ∈ u.take i then _ else _) = sByteB u a_bits ba ho j
    rw [List.take_of_length_le h2]
    rfl
  · rw [b8]
    funext j
    show (if j / 256 < 64 ∧ j / 256 ∈ u.take i then sByte u a_bits ba ho j else ho j) = sByte u a_bits ba ho j
    rw [List.take_of_length_le h2]
    by_cases z : j / 256 < 64 ∧ j / 256 ∈ u
    · rw [if_pos z]
    · rw [if_neg z]; unfold sByte; rw [if_neg z]
theorem vc_Disk_settle_15_0 (a_bits : Int64) (k_underWay : Int32) (k_homesUnderWay : Int64) (k_on : Int32) (k_stepsLeft : Int32) (k_steps : Int32) (k_down : Nat → Int32) (k_written : Nat → Int32) (k_order : Nat → Int32) (x3 : Int32) (k_underWay_i : Int32) (k_homesUnderWay_i : Int64) (k_down_i : Nat → Int32) (k_written_i : Nat → Int32) (hpre : pr_Disk_settle a_bits (k_underWay, k_homesUnderWay, k_on, k_stepsLeft, k_steps, k_down, k_written, k_order)) (hinv : iv_Disk_settle_2 a_bits (k_underWay, k_homesUnderWay, k_on, k_stepsLeft, k_steps, k_down, k_written, k_order) x3 (k_underWay_i, k_homesUnderWay_i, k_on, k_stepsLeft, k_steps, k_down_i, k_written_i, k_order)) (c_7 : ¬ k_underWay_i ≤ x3) : vp_in x3 264 := by
  obtain ⟨d, i, h0, hw, hh, rfl, hi, hk⟩ := hinv
  obtain ⟨u, on, f, st, ba, ho⟩ := d
  have hl : u.length ≤ 200 := hw.1
  have hi : i ≤ u.length := hi
  have b1 : k_underWay_i = nI u.length := hk.1
  have h3 : ¬ u.length ≤ i := fun z => c_7 (by rw [b1]; exact nI_le z (by omega))
  exact vp_in_nI (by omega) (by decide)
theorem vc_Disk_settle_20_0 (a_bits : Int64) (k_underWay : Int32) (k_homesUnderWay : Int64) (k_on : Int32) (k_stepsLeft : Int32) (k_steps : Int32) (k_down : Nat → Int32) (k_written : Nat → Int32) (k_order : Nat → Int32) (x3 : Int32) (k_underWay_i : Int32) (k_homesUnderWay_i : Int64) (k_down_i : Nat → Int32) (k_written_i : Nat → Int32) (v_15 : Int32) (hpre : pr_Disk_settle a_bits (k_underWay, k_homesUnderWay, k_on, k_stepsLeft, k_steps, k_down, k_written, k_order)) (hinv : iv_Disk_settle_2 a_bits (k_underWay, k_homesUnderWay, k_on, k_stepsLeft, k_steps, k_down, k_written, k_order) x3 (k_underWay_i, k_homesUnderWay_i, k_on, k_stepsLeft, k_steps, k_down_i, k_written_i, k_order)) (c_7 : ¬ k_underWay_i ≤ x3) (e_15 : v_15 = (k_order (x3).toNatClampNeg)) : pr_Disk_isFirstHalfDown x3 a_bits := by
  obtain ⟨d, i, h0, hw, hh, rfl, hi, hk⟩ := hinv
  have hl := hw.1
  exact ⟨i, by obtain ⟨u, on, f, st, ba, ho⟩ := d; have hl : u.length ≤ 200 := hw.1; have hi : i ≤ u.length := hi; omega, rfl⟩
theorem vc_Disk_settle_23_0 (a_bits : Int64) (k_underWay : Int32) (k_homesUnderWay : Int64) (k_on : Int32) (k_stepsLeft : Int32) (k_steps : Int32) (k_down : Nat → Int32) (k_written : Nat → Int32) (k_order : Nat → Int32) (x3 : Int32) (k_underWay_i : Int32) (k_homesUnderWay_i : Int64) (k_down_i : Nat → Int32) (k_written_i : Nat → Int32) (v_15 : Int32) (r_20 : Int32) (hpre : pr_Disk_settle a_bits (k_underWay, k_homesUnderWay, k_on, k_stepsLeft, k_steps, k_down, k_written, k_order)) (hinv : iv_Disk_settle_2 a_bits (k_underWay, k_homesUnderWay, k_on, k_stepsLeft, k_steps, k_down, k_written, k_order) x3 (k_underWay_i, k_homesUnderWay_i, k_on, k_stepsLeft, k_steps, k_down_i, k_written_i, k_order)) (c_7 : ¬ k_underWay_i ≤ x3) (e_15 : v_15 = (k_order (x3).toNatClampNeg)) (w_20 : po_Disk_isFirstHalfDown x3 a_bits r_20) (c_23 : r_20 = 0) : iv_Disk_settle_36 a_bits (k_underWay, k_homesUnderWay, k_on, k_stepsLeft, k_steps, k_down, k_written, k_order) x3 v_15 (k_underWay_i, k_homesUnderWay_i, k_on, k_stepsLeft, k_steps, k_down_i, k_written_i, k_order) ∧ mu_Disk_settle_36 a_bits (k_underWay, k_homesUnderWay, k_on, k_stepsLeft, k_steps, k_down, k_written, k_order) x3 v_15 (k_underWay_i, k_homesUnderWay_i, k_on, k_stepsLeft, k_steps, k_down_i, k_written_i, k_order) < mu_Disk_settle_2 a_bits (k_underWay, k_homesUnderWay, k_on, k_stepsLeft, k_steps, k_down, k_written, k_order) x3 (k_underWay_i, k_homesUnderWay_i, k_on, k_stepsLeft, k_steps, k_down_i, k_written_i, k_order) := by
  obtain ⟨d, i, h0, hw, hh, rfl, hi, hk⟩ := hinv
  have hl : d.1.length ≤ 200 := hw.1
  have b1 : k_underWay_i = nI d.1.length := hk.1
  have h3 : ¬ d.1.length ≤ i := fun z => c_7 (by rw [b1]; exact nI_le z (by omega))
  have hlt : i < d.1.length := by omega
  have e4 : v_15 = nI (d.1.getD i 0) := by rw [e_15, nI_clamp (by omega)]; exact hk.2.1 i hlt
  have w : r_20 = b2i (sFirst i a_bits) := w_20 i (by omega) rfl
  have c : sFirst i a_bits = false := b2i_0.mp (w.symm.trans c_23)
  have m := st_mu h0 hw hlt
  refine ⟨⟨d, i, h0, hw, hh, rfl, hlt, e4, ?_⟩, ?_⟩
  · have e : sh1 d a_bits i = sBi d a_bits i := by unfold sh1 hb; rw [c]; rfl
    rw [e]; exact hk
  · show 4 * _ - 1 < 4 * _
    rw [m.1]; omega
theorem vc_Disk_settle_33_0 (a_bits : Int64) (k_underWay : Int32) (k_homesUnderWay : Int64) (k_on : Int32) (k_stepsLeft : Int32) (k_steps : Int32) (k_down : Nat → Int32) (k_written : Nat → Int32) (k_order : Nat → Int32) (x3 : Int32) (k_underWay_i : Int32) (k_homesUnderWay_i : Int64) (k_down_i : Nat → Int32) (k_written_i : Nat → Int32) (v_15 : Int32) (r_20 : Int32) (hpre : pr_Disk_settle a_bits (k_underWay, k_homesUnderWay, k_on, k_stepsLeft, k_steps, k_down, k_written, k_order)) (hinv : iv_Disk_settle_2 a_bits (k_underWay, k_homesUnderWay, k_on, k_stepsLeft, k_steps, k_down, k_written, k_order) x3 (k_underWay_i, k_homesUnderWay_i, k_on, k_stepsLeft, k_steps, k_down_i, k_written_i, k_order)) (c_7 : ¬ k_underWay_i ≤ x3) (e_15 : v_15 = (k_order (x3).toNatClampNeg)) (w_20 : po_Disk_isFirstHalfDown x3 a_bits r_20) (c_23 : ¬ r_20 = 0) : pr_Disk_bringDown v_15 0 128 (k_underWay_i, k_homesUnderWay_i, k_on, k_stepsLeft, k_steps, k_down_i, k_written_i, k_order) := by
  obtain ⟨d, i, h0, hw, hh, rfl, hi, hk⟩ := hinv
  have hl : d.1.length ≤ 200 := hw.1
  have b1 : k_underWay_i = nI d.1.length := hk.1
  have h3 : ¬ d.1.length ≤ i := fun z => c_7 (by rw [b1]; exact nI_le z (by omega))
  have hlt : i < d.1.length := by omega
  have e4 : v_15 = nI (d.1.getD i 0) := by rw [e_15, nI_clamp (by omega)]; exact hk.2.1 i hlt
  have b8 : k_written_i = sHi d a_bits i := hk.2.2.2.2.2.2.2
  exact ⟨by rw [b8]; exact fit_sHi hw.2.2.1 hw.2.2.2 _ _, d.1.getD i 0, 0, 128, e4, hw.2.1 _ (getD_mem hlt), rfl, rfl, by decide⟩
theorem vc_Disk_settle_33_1 (a_bits : Int64) (k_underWay : Int32) (k_homesUnderWay : Int64) (k_on : Int32) (k_stepsLeft : Int32) (k_steps : Int32) (k_down : Nat → Int32) (k_written : Nat → Int32) (k_order : Nat → Int32) (x3 : Int32) (k_underWay_i : Int32) (k_homesUnderWay_i : Int64) (k_down_i : Nat → Int32) (k_written_i : Nat → Int32) (v_15 : Int32) (r_20 : Int32) (k_down_33 : Nat → Int32) (hpre : pr_Disk_settle a_bits (k_underWay, k_homesUnderWay, k_on, k_stepsLeft, k_steps, k_down, k_written, k_order)) (hinv : iv_Disk_settle_2 a_bits (k_underWay, k_homesUnderWay, k_on, k_stepsLeft, k_steps, k_down, k_written, k_order) x3 (k_underWay_i, k_homesUnderWay_i, k_on, k_stepsLeft, k_steps, k_down_i, k_written_i, k_order)) (c_7 : ¬ k_underWay_i ≤ x3) (e_15 : v_15 = (k_order (x3).toNatClampNeg)) (w_20 : po_Disk_isFirstHalfDown x3 a_bits r_20) (c_23 : ¬ r_20 = 0) (w_33 : po_Disk_bringDown v_15 0 128 (k_underWay_i, k_homesUnderWay_i, k_on, k_stepsLeft, k_steps, k_down_i, k_written_i, k_order) (k_underWay_i, k_homesUnderWay_i, k_on, k_stepsLeft, k_steps, k_down_33, k_written_i, k_order)) : iv_Disk_settle_36 a_bits (k_underWay, k_homesUnderWay, k_on, k_stepsLeft, k_steps, k_down, k_written, k_order) x3 v_15 (k_underWay_i, k_homesUnderWay_i, k_on, k_stepsLeft, k_steps, k_down_33, k_written_i, k_order) ∧ mu_Disk_settle_36 a_bits (k_underWay, k_homesUnderWay, k_on, k_stepsLeft, k_steps, k_down, k_written, k_order) x3 v_15 (k_underWay_i, k_homesUnderWay_i, k_on, k_stepsLeft, k_steps, k_down_33, k_written_i, k_order) < mu_Disk_settle_2 a_bits (k_underWay, k_homesUnderWay, k_on, k_stepsLeft, k_steps, k_down, k_written, k_order) x3 (k_underWay_i, k_homesUnderWay_i, k_on, k_stepsLeft, k_steps, k_down_i, k_written_i, k_order) := by
  obtain ⟨d, i, h0, hw, hh, rfl, hi, hk⟩ := hinv
  have hl : d.1.length ≤ 200 := hw.1
  have b1 : k_underWay_i = nI d.1.length := hk.1
  have h3 : ¬ d.1.length ≤ i := fun z => c_7 (by rw [b1]; exact nI_le z (by omega))
  have hlt : i < d.1.length := by omega
  have e4 : v_15 = nI (d.1.getD i 0) := by rw [e_15, nI_clamp (by omega)]; exact hk.2.1 i hlt
  have w : r_20 = b2i (sFirst i a_bits) := w_20 i (by omega) rfl
  have c : sFirst i a_bits = true := b2i_n0.mp (fun z => c_23 (w.trans z))
  have m := st_mu h0 hw hlt
  have w3 := w_33 (d.1.getD i 0) 0 128 e4 (hw.2.1 _ (getD_mem hlt)) rfl rfl (by decide)
  have w7 : k_down_33 = (if d.1.getD i 0 < 64 then va_cpy k_written_i k_down_i (d.1.getD i 0 * 256 + 0) (d.1.getD i 0 * 256 + 0) 128 else k_down_i) := congrArg (fun z : DKt => z.2.2.2.2.2.1) w3
  obtain ⟨a1, a2, a3, a4, a5, a6, a7, a8⟩ := hk
  refine ⟨⟨d, i, h0, hw, hh, rfl, hlt, e4, a1, a2, a3, a4, a5, a6, ?_, a8⟩, ?_⟩
  · rw [w7, a7, a8]
    unfold sh1 hb
    rw [c]
    by_cases z : d.1.getD i 0 < 64
    · rw [if_pos z, if_pos ⟨rfl, z⟩]
    · rw [if_neg z, if_neg (fun y => z y.2)]
  · show 4 * _ - 1 < 4 * _
    rw [m.1]; omega
theorem vc_Disk_settle_38_0 (a_bits : Int64) (k_underWay : Int32) (k_homesUnderWay : Int64) (k_on : Int32) (k_stepsLeft : Int32) (k_steps : Int32) (k_down : Nat → Int32) (k_written : Nat → Int32) (k_order : Nat → Int32) (x3 : Int32) (x4 : Int32) (k_underWay_i : Int32) (k_homesUnderWay_i : Int64) (k_down_i : Nat → Int32) (k_written_i : Nat → Int32) (hpre : pr_Disk_settle a_bits (k_underWay, k_homesUnderWay, k_on, k_stepsLeft, k_steps, k_down, k_written, k_order)) (hinv : iv_Disk_settle_36 a_bits (k_underWay, k_homesUnderWay, k_on, k_stepsLeft, k_steps, k_down, k_written, k_order) x3 x4 (k_underWay_i, k_homesUnderWay_i, k_on, k_stepsLeft, k_steps, k_down_i, k_written_i, k_order)) : pr_Disk_isLastHalfDown x3 a_bits := by
  obtain ⟨d, i, h0, hw, hh, rfl, hlt, e4, hk⟩ := hinv
  have hl : d.1.length ≤ 200 := hw.1
  exact ⟨i, by omega, rfl⟩
theorem vc_Disk_settle_41_0 (a_bits : Int64) (k_underWay : Int32) (k_homesUnderWay : Int64) (k_on : Int32) (k_stepsLeft : Int32) (k_steps : Int32) (k_down : Nat → Int32) (k_written : Nat → Int32) (k_order : Nat → Int32) (x3 : Int32) (x4 : Int32) (k_underWay_i : Int32) (k_homesUnderWay_i : Int64) (k_down_i : Nat → Int32) (k_written_i : Nat → Int32) (r_38 : Int32) (hpre : pr_Disk_settle a_bits (k_underWay, k_homesUnderWay, k_on, k_stepsLeft, k_steps, k_down, k_written, k_order)) (hinv : iv_Disk_settle_36 a_bits (k_underWay, k_homesUnderWay, k_on, k_stepsLeft, k_steps, k_down, k_written, k_order) x3 x4 (k_underWay_i, k_homesUnderWay_i, k_on, k_stepsLeft, k_steps, k_down_i, k_written_i, k_order)) (w_38 : po_Disk_isLastHalfDown x3 a_bits r_38) (c_41 : r_38 = 0) : iv_Disk_settle_56 a_bits (k_underWay, k_homesUnderWay, k_on, k_stepsLeft, k_steps, k_down, k_written, k_order) x3 x4 (k_underWay_i, k_homesUnderWay_i, k_on, k_stepsLeft, k_steps, k_down_i, k_written_i, k_order) ∧ mu_Disk_settle_56 a_bits (k_underWay, k_homesUnderWay, k_on, k_stepsLeft, k_steps, k_down, k_written, k_order) x3 x4 (k_underWay_i, k_homesUnderWay_i, k_on, k_stepsLeft, k_steps, k_down_i, k_written_i, k_order) < mu_Disk_settle_36 a_bits (k_underWay, k_homesUnderWay, k_on, k_stepsLeft, k_steps, k_down, k_written, k_order) x3 x4 (k_underWay_i, k_homesUnderWay_i, k_on, k_stepsLeft, k_steps, k_down_i, k_written_i, k_order) := by
  obtain ⟨d, i, h0, hw, hh, rfl, hlt, e4, hk⟩ := hinv
  have hl : d.1.length ≤ 200 := hw.1
  have w : r_38 = b2i (sLast i a_bits) := w_38 i (by omega) rfl
  have c : sLast i a_bits = false := b2i_0.mp (w.symm.trans c_41)
  have m := st_mu h0 hw hlt
  refine ⟨⟨d, i, h0, hw, hh, rfl, hlt, e4, ?_⟩, ?_⟩
  · have e : sh2 d a_bits i = sh1 d a_bits i := by unfold sh2 hb; rw [c]; rfl
    rw [← (hd_step (bits := a_bits) hh hlt).1, e]; exact hk
  · show 4 * _ - 2 < 4 * _ - 1
    rw [m.1]; omega
theorem vc_Disk_settle_53_0 (a_bits : Int64) (k_underWay : Int32) (k_homesUnderWay : Int64) (k_on : Int32) (k_stepsLeft : Int32) (k_steps : Int32) (k_down : Nat → Int32) (k_written : Nat → Int32) (k_order : Nat → Int32) (x3 : Int32) (x4 : Int32) (k_underWay_i : Int32) (k_homesUnderWay_i : Int64) (k_down_i : Nat → Int32) (k_written_i : Nat → Int32) (r_38 : Int32) (hpre : pr_Disk_settle a_bits (k_underWay, k_homesUnderWay, k_on, k_stepsLeft, k_steps, k_down, k_written, k_order)) (hinv : iv_Disk_settle_36 a_bits (k_underWay, k_homesUnderWay, k_on, k_stepsLeft, k_steps, k_down, k_written, k_order) x3 x4 (k_underWay_i, k_homesUnderWay_i, k_on, k_stepsLeft, k_steps, k_down_i, k_written_i, k_order)) (w_38 : po_Disk_isLastHalfDown x3 a_bits r_38) (c_41 : ¬ r_38 = 0) : pr_Disk_bringDown x4 128 128 (k_underWay_i, k_homesUnderWay_i, k_on, k_stepsLeft, k_steps, k_down_i, k_written_i, k_order) := by
  obtain ⟨d, i, h0, hw, hh, rfl, hlt, e4, hk⟩ := hinv
  have b8 : k_written_i = sHi d a_bits i := hk.2.2.2.2.2.2.2
  exact ⟨by rw [b8]; exact fit_sHi hw.2.2.1 hw.2.2.2 _ _, d.1.getD i 0, 128, 128, e4, hw.2.1 _ (getD_mem hlt), rfl, rfl, by decide⟩
theorem vc_Disk_settle_53_1 (a_bits : Int64) (k_underWay : Int32) (k_homesUnderWay : Int64) (k_on : Int32) (k_stepsLeft : Int32) (k_steps : Int32) (k_down : Nat → Int32) (k_written : Nat → Int32) (k_order : Nat → Int32) (x3 : Int32) (x4 : Int32) (k_underWay_i : Int32) (k_homesUnderWay_i : Int64) (k_down_i : Nat → Int32) (k_written_i : Nat → Int32) (r_38 : Int32) (k_down_53 : Nat → Int32) (hpre : pr_Disk_settle a_bits (k_underWay, k_homesUnderWay, k_on, k_stepsLeft, k_steps, k_down, k_written, k_order)) (hinv : iv_Disk_settle_36 a_bits (k_underWay, k_homesUnderWay, k_on, k_stepsLeft, k_steps, k_down, k_written, k_order) x3 x4 (k_underWay_i, k_homesUnderWay_i, k_on, k_stepsLeft, k_steps, k_down_i, k_written_i, k_order)) (w_38 : po_Disk_isLastHalfDown x3 a_bits r_38) (c_41 : ¬ r_38 = 0) (w_53 : po_Disk_bringDown x4 128 128 (k_underWay_i, k_homesUnderWay_i, k_on, k_stepsLeft, k_steps, k_down_i, k_written_i, k_order) (k_underWay_i, k_homesUnderWay_i, k_on, k_stepsLeft, k_steps, k_down_53, k_written_i, k_order)) : iv_Disk_settle_56 a_bits (k_underWay, k_homesUnderWay, k_on, k_stepsLeft, k_steps, k_down, k_written, k_order) x3 x4 (k_underWay_i, k_homesUnderWay_i, k_on, k_stepsLeft, k_steps, k_down_53, k_written_i, k_order) ∧ mu_Disk_settle_56 a_bits (k_underWay, k_homesUnderWay, k_on, k_stepsLeft, k_steps, k_down, k_written, k_order) x3 x4 (k_underWay_i, k_homesUnderWay_i, k_on, k_stepsLeft, k_steps, k_down_53, k_written_i, k_order) < mu_Disk_settle_36 a_bits (k_underWay, k_homesUnderWay, k_on, k_stepsLeft, k_steps, k_down, k_written, k_order) x3 x4 (k_underWay_i, k_homesUnderWay_i, k_on, k_stepsLeft, k_steps, k_down_i, k_written_i, k_order) := by
  obtain ⟨d, i, h0, hw, hh, rfl, hlt, e4, hk⟩ := hinv
  have hl : d.1.length ≤ 200 := hw.1
  have w : r_38 = b2i (sLast i a_bits) := w_38 i (by omega) rfl
  have c : sLast i a_bits = true := b2i_n0.mp (fun z => c_41 (w.trans z))
  have m := st_mu h0 hw hlt
  have w3 := w_53 (d.1.getD i 0) 128 128 e4 (hw.2.1 _ (getD_mem hlt)) rfl rfl (by decide)
  have w7 : k_down_53 = (if d.1.getD i 0 < 64 then va_cpy k_written_i k_down_i (d.1.getD i 0 * 256 + 128) (d.1.getD i 0 * 256 + 128) 128 else k_down_i) := congrArg (fun z : DKt => z.2.2.2.2.2.1) w3
  obtain ⟨a1, a2, a3, a4, a5, a6, a7, a8⟩ := hk
  refine ⟨⟨d, i, h0, hw, hh, rfl, hlt, e4, a1, a2, a3, a4, a5, a6, ?_, a8⟩, ?_⟩
  · rw [← (hd_step (bits := a_bits) hh hlt).1, w7, a7, a8]
    show _ = sh2 d a_bits i
    unfold sh2 hb
    rw [c]
    by_cases z : d.1.getD i 0 < 64
    · rw [if_pos z, if_pos ⟨rfl, z⟩]
    · rw [if_neg z, if_neg (fun y => z y.2)]
  · show 4 * _ - 2 < 4 * _ - 1
    rw [m.1]; omega
theorem vc_Disk_settle_58_0 (a_bits : Int64) (k_underWay : Int32) (k_homesUnderWay : Int64) (k_on : Int32) (k_stepsLeft : Int32) (k_steps : Int32) (k_down : Nat → Int32) (k_written : Nat → Int32) (k_order : Nat → Int32) (x3 : Int32) (x4 : Int32) (k_underWay_i : Int32) (k_homesUnderWay_i : Int64) (k_down_i : Nat → Int32) (k_written_i : Nat → Int32) (hpre : pr_Disk_settle a_bits (k_underWay, k_homesUnderWay, k_on, k_stepsLeft, k_steps, k_down, k_written, k_order)) (hinv : iv_Disk_settle_56 a_bits (k_underWay, k_homesUnderWay, k_on, k_stepsLeft, k_steps, k_down, k_written, k_order) x3 x4 (k_underWay_i, k_homesUnderWay_i, k_on, k_stepsLeft, k_steps, k_down_i, k_written_i, k_order)) : pr_isHome x4 := by
  trivial
theorem vc_Disk_settle_61_0 (a_bits : Int64) (k_underWay : Int32) (k_homesUnderWay : Int64) (k_on : Int32) (k_stepsLeft : Int32) (k_steps : Int32) (k_down : Nat → Int32) (k_written : Nat → Int32) (k_order : Nat → Int32) (x3 : Int32) (x4 : Int32) (k_underWay_i : Int32) (k_homesUnderWay_i : Int64) (k_down_i : Nat → Int32) (k_written_i : Nat → Int32) (r_58 : Int32) (hpre : pr_Disk_settle a_bits (k_underWay, k_homesUnderWay, k_on, k_stepsLeft, k_steps, k_down, k_written, k_order)) (hinv : iv_Disk_settle_56 a_bits (k_underWay, k_homesUnderWay, k_on, k_stepsLeft, k_steps, k_down, k_written, k_order) x3 x4 (k_underWay_i, k_homesUnderWay_i, k_on, k_stepsLeft, k_steps, k_down_i, k_written_i, k_order)) (w_58 : po_isHome x4 r_58) (c_61 : r_58 = 0) : iv_Disk_settle_90 a_bits (k_underWay, k_homesUnderWay, k_on, k_stepsLeft, k_steps, k_down, k_written, k_order) x3 (k_underWay_i, k_homesUnderWay_i, k_on, k_stepsLeft, k_steps, k_down_i, k_written_i, k_order) ∧ mu_Disk_settle_90 a_bits (k_underWay, k_homesUnderWay, k_on, k_stepsLeft, k_steps, k_down, k_written, k_order) x3 (k_underWay_i, k_homesUnderWay_i, k_on, k_stepsLeft, k_steps, k_down_i, k_written_i, k_order) < mu_Disk_settle_56 a_bits (k_underWay, k_homesUnderWay, k_on, k_stepsLeft, k_steps, k_down, k_written, k_order) x3 x4 (k_underWay_i, k_homesUnderWay_i, k_on, k_stepsLeft, k_steps, k_down_i, k_written_i, k_order) := by
  obtain ⟨d, i, h0, hw, hh, rfl, hlt, e4, hk⟩ := hinv
  have m := st_mu h0 hw hlt
  have hq := hw.2.1 _ (getD_mem hlt)
  subst e4
  have h := (nI_home (by omega)).mp (it0.mp (Eq.trans (Eq.symm w_58) c_61))
  refine ⟨⟨d, i, h0, hw, hh, rfl, hlt, ?_⟩, ?_⟩
  · have e := (hd_step (bits := a_bits) hh hlt).2
    rw [if_neg (by omega)] at e
    rw [← e]; exact hk
  · show 4 * _ - 3 < 4 * _ - 2
    rw [m.1]; omega
theorem vc_Disk_settle_87_0 (a_bits : Int64) (k_underWay : Int32) (k_homesUnderWay : Int64) (k_on : Int32) (k_stepsLeft : Int32) (k_steps : Int32) (k_down : Nat → Int32) (k_written : Nat → Int32) (k_order : Nat → Int32) (x3 : Int32) (x4 : Int32) (k_underWay_i : Int32) (k_homesUnderWay_i : Int64) (k_down_i : Nat → Int32) (k_written_i : Nat → Int32) (r_58 : Int32) (hpre : pr_Disk_settle a_bits (k_underWay, k_homesUnderWay, k_on, k_stepsLeft, k_steps, k_down, k_written, k_order)) (hinv : iv_Disk_settle_56 a_bits (k_underWay, k_homesUnderWay, k_on, k_stepsLeft, k_steps, k_down, k_written, k_order) x3 x4 (k_underWay_i, k_homesUnderWay_i, k_on, k_stepsLeft, k_steps, k_down_i, k_written_i, k_order)) (w_58 : po_isHome x4 r_58) (c_61 : ¬ r_58 = 0) : ¬ (x4 * 256) < 0 ∧ ¬ (x4 * 256) < 0 ∧ ¬ (256 : Int32) < 0 ∧ ((x4 * 256)).toNatClampNeg + (256 : Int32).toNatClampNeg ≤ 16384 ∧ ((x4 * 256)).toNatClampNeg + (256 : Int32).toNatClampNeg ≤ 16384 ∧ ∀ i, i < (256 : Int32).toNatClampNeg → fits .byte (.int (k_down_i (((x4 * 256)).toNatClampNeg + i))) = true := by
  obtain ⟨d, i, h0, hw, hh, rfl, hlt, e4, hk⟩ := hinv
  have hq := hw.2.1 _ (getD_mem hlt)
  subst e4
  have h : ¬ 64 ≤ d.1.getD i 0 := fun h => c_61 (Eq.trans w_58 (it0.mpr ((nI_home (by omega)).mpr h)))
  generalize d.1.getD i 0 = q at h hq ⊢
  have e : nI q * 256 = nI (q * 256) := pk_mul q 256
  have e2 : (256 : Int32).toNatClampNeg = 256 := by decide
  rw [e, e2, nI_clamp (n := q * 256) (by omega)]
  have b7 : k_down_i = sBi d a_bits (i + 1) := hk.2.2.2.2.2.2.1
  exact ⟨nI_pos (by omega), nI_pos (by omega), by decide, by omega, by omega, fun j _ => by rw [b7]; exact fit_sBi hw.2.2.1 hw.2.2.2 _ _ _⟩
theorem vc_Disk_settle_87_1 (a_bits : Int64) (k_underWay : Int32) (k_homesUnderWay : Int64) (k_on : Int32) (k_stepsLeft : Int32) (k_steps : Int32) (k_down : Nat → Int32) (k_written : Nat → Int32) (k_order : Nat → Int32) (x3 : Int32) (x4 : Int32) (k_underWay_i : Int32) (k_homesUnderWay_i : Int64) (k_down_i : Nat → Int32) (k_written_i : Nat → Int32) (r_58 : Int32) (hpre : pr_Disk_settle a_bits (k_underWay, k_homesUnderWay, k_on, k_stepsLeft, k_steps, k_down, k_written, k_order)) (hinv : iv_Disk_settle_56 a_bits (k_underWay, k_homesUnderWay, k_on, k_stepsLeft, k_steps, k_down, k_written, k_order) x3 x4 (k_underWay_i, k_homesUnderWay_i, k_on, k_stepsLeft, k_steps, k_down_i, k_written_i, k_order)) (w_58 : po_isHome x4 r_58) (c_61 : ¬ r_58 = 0) : iv_Disk_settle_90 a_bits (k_underWay, k_homesUnderWay, k_on, k_stepsLeft, k_steps, k_down, k_written, k_order) x3 (k_underWay_i, k_homesUnderWay_i, k_on, k_stepsLeft, k_steps, k_down_i, (va_cpy k_down_i k_written_i ((x4 * 256)).toNatClampNeg ((x4 * 256)).toNatClampNeg (256 : Int32).toNatClampNeg), k_order) ∧ mu_Disk_settle_90 a_bits (k_underWay, k_homesUnderWay, k_on, k_stepsLeft, k_steps, k_down, k_written, k_order) x3 (k_underWay_i, k_homesUnderWay_i, k_on, k_stepsLeft, k_steps, k_down_i, (va_cpy k_down_i k_written_i ((x4 * 256)).toNatClampNeg ((x4 * 256)).toNatClampNeg (256 : Int32).toNatClampNeg), k_order) < mu_Disk_settle_56 a_bits (k_underWay, k_homesUnderWay, k_on, k_stepsLeft, k_steps, k_down, k_written, k_order) x3 x4 (k_underWay_i, k_homesUnderWay_i, k_on, k_stepsLeft, k_steps, k_down_i, k_written_i, k_order) := by
  obtain ⟨d, i, h0, hw, hh, rfl, hlt, e4, hk⟩ := hinv
  have m := st_mu h0 hw hlt
  have hq := hw.2.1 _ (getD_mem hlt)
  subst e4
  have h : ¬ 64 ≤ d.1.getD i 0 := fun h => c_61 (Eq.trans w_58 (it0.mpr ((nI_home (by omega)).mpr h)))
  have e : nI (d.1.getD i 0) * 256 = nI (d.1.getD i 0 * 256) := pk_mul _ 256
  have e2 : (256 : Int32).toNatClampNeg = 256 := by decide
  rw [e, e2, nI_clamp (n := d.1.getD i 0 * 256) (by omega)]
  obtain ⟨a1, a2, a3, a4, a5, a6, a7, a8⟩ := hk
  refine ⟨⟨d, i, h0, hw, hh, rfl, hlt, a1, a2, a3, a4, a5, a6, a7, ?_⟩, ?_⟩
  · have e := (hd_step (bits := a_bits) hh hlt).2
    rw [if_pos (by omega)] at e
    rw [a7, a8]; exact e
  · show 4 * _ - 3 < 4 * _ - 2
    rw [m.1]; omega
theorem vc_Disk_settle_93_0 (a_bits : Int64) (k_underWay : Int32) (k_homesUnderWay : Int64) (k_on : Int32) (k_stepsLeft : Int32) (k_steps : Int32) (k_down : Nat → Int32) (k_written : Nat → Int32) (k_order : Nat → Int32) (x3 : Int32) (k_underWay_i : Int32) (k_homesUnderWay_i : Int64) (k_down_i : Nat → Int32) (k_written_i : Nat → Int32) (v_90 : Int32) (hpre : pr_Disk_settle a_bits (k_underWay, k_homesUnderWay, k_on, k_stepsLeft, k_steps, k_down, k_written, k_order)) (hinv : iv_Disk_settle_90 a_bits (k_underWay, k_homesUnderWay, k_on, k_stepsLeft, k_steps, k_down, k_written, k_order) x3 (k_underWay_i, k_homesUnderWay_i, k_on, k_stepsLeft, k_steps, k_down_i, k_written_i, k_order)) (e_90 : v_90 = x3 + 1) : iv_Disk_settle_2 a_bits (k_underWay, k_homesUnderWay, k_on, k_stepsLeft, k_steps, k_down, k_written, k_order) v_90 (k_underWay_i, k_homesUnderWay_i, k_on, k_stepsLeft, k_steps, k_down_i, k_written_i, k_order) ∧ mu_Disk_settle_2 a_bits (k_underWay, k_homesUnderWay, k_on, k_stepsLeft, k_steps, k_down, k_written, k_order) v_90 (k_underWay_i, k_homesUnderWay_i, k_on, k_stepsLeft, k_steps, k_down_i, k_written_i, k_order) < mu_Disk_settle_90 a_bits (k_underWay, k_homesUnderWay, k_on, k_stepsLeft, k_steps, k_down, k_written, k_order) x3 (k_underWay_i, k_homesUnderWay_i, k_on, k_stepsLeft, k_steps, k_down_i, k_written_i, k_order) := by
  obtain ⟨d, i, h0, hw, hh, rfl, hlt, hk⟩ := hinv
  have m := st_mu h0 hw hlt
  have hl : d.1.length ≤ 200 := hw.1
  refine ⟨⟨d, i + 1, h0, hw, hh, by rw [e_90]; exact nI_1 i, hlt, hk⟩, ?_⟩
  show 4 * (_ - v_90.toNatClampNeg) < 4 * _ - 3
  rw [e_90, nI_1, nI_clamp (n := i + 1) (by omega), m.1]
  have b1 : k_underWay = nI d.1.length := h0.1
  show 4 * (k_underWay.toNatClampNeg - _) < _
  rw [b1, nI_clamp (by omega)]
  omega
theorem vc_Disk_settle_1_0 (a_bits : Int64) (k_underWay : Int32) (k_homesUnderWay : Int64) (k_on : Int32) (k_stepsLeft : Int32) (k_steps : Int32) (k_down : Nat → Int32) (k_written : Nat → Int32) (k_order : Nat → Int32) (hpre : pr_Disk_settle a_bits (k_underWay, k_homesUnderWay, k_on, k_stepsLeft, k_steps, k_down, k_written, k_order)) : iv_Disk_settle_2 a_bits (k_underWay, k_homesUnderWay, k_on, k_stepsLeft, k_steps, k_down, k_written, k_order) 0 (k_underWay, k_homesUnderWay, k_on, k_stepsLeft, k_steps, k_down, k_written, k_order) ∧ True := by
  obtain ⟨d, h0, hw, hh⟩ := hpre
  refine ⟨⟨d, 0, h0, hw, hh, rfl, Nat.zero_le _, ?_⟩, trivial⟩
  obtain ⟨u, on, f, st, ba, ho⟩ := d
  have e1 : sBi (u, on, f, st, ba, ho) a_bits 0 = ba := by funext j; unfold sBi; rw [if_neg (fun z => by simp at z)]
  have e2 : sHi (u, on, f, st, ba, ho) a_bits 0 = ho := by funext j; unfold sHi; rw [if_neg (fun z => by simp at z)]
  rw [e1, e2]
  exact h0
