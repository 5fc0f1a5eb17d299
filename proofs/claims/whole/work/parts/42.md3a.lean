theorem lg_n {g g2 : Lg} {y : MDt} (h : lgN g.1 y) (o : okG g) (h2 : lgN g2.1 y) (o2 : okG g2) : g.1 = g2.1 := by
  have a := (okG_n (n := g.1) o).1
  have b := (okG_n (n := g2.1) o2).1
  obtain ⟨a1, a2, a3, a4, a5, a6, a7, a8, r⟩ := y
  exact (nI_eq (by omega) (by omega)).mp (Eq.trans (Eq.symm h) h2)
def toldN (g : Lg) (q i : Nat) : Int32 := if bitt (lyN g.2.1 g.2.2.1 i) q then nI (match laN g.2.1 q i with
  | none => 0
  | some t => g.2.2.2.2.1 t + rk (g.2.1 t) q) else -1
theorem told_e (g : Lg) (q : Nat) : sTold g q = toldN g q g.1 := rfl
theorem told_0 (g : Lg) (q : Nat) : toldN g q 0 = -1 := by
  unfold toldN
  rw [show lyN g.2.1 g.2.2.1 0 = 0 from rfl, bt_zero]
  rfl
theorem ly_s (blk rvk : Nat → Int64) (t : Nat) {q : Nat} (hq : q < 64) : bitt (lyN blk rvk (t + 1)) q = ((bitt (lyN blk rvk t) q && !bitt (rvk t) q) || bitt (blk t) q) := by
  rw [show lyN blk rvk (t + 1) = (lyN blk rvk t &&& (rvk t ^^^ (-1))) ||| blk t from rfl, bt_or, bt_and, bt_not _ hq]
theorem told_hit {g : Lg} {q t : Nat} (hq : q < 64) (h : bitt (g.2.1 t) q = true) : toldN g q (t + 1) = nI (g.2.2.2.2.1 t + rk (g.2.1 t) q) := by
  unfold toldN
  have e : laN g.2.1 q (t + 1) = some t := if_pos h
  rw [ly_s _ _ _ hq, h, Bool.or_true, e]
  rfl
theorem told_rev {g : Lg} {q t : Nat} (hq : q < 64) (h : bitt (g.2.2.1 t) q = true) (h2 : bitt (g.2.1 t) q = false) : toldN g q (t + 1) = -1 := by
  unfold toldN
  rw [ly_s _ _ _ hq, h, h2]
  simp
theorem told_skip {g : Lg} {q t : Nat} (hq : q < 64) (h : bitt (g.2.2.1 t) q = false) (h2 : bitt (g.2.1 t) q = false) : toldN g q (t + 1) = toldN g q t := by
  unfold toldN
  have e : laN g.2.1 q (t + 1) = laN g.2.1 q t := by
    show (if bitt (g.2.1 t) q = true then _ else _) = _
    rw [h2]; rfl
  rw [ly_s _ _ _ hq, h, h2, e]
  simp
theorem sel {x : Int64} : ∀ (b j : Nat), j < rk x b → ∃ c, c < b ∧ bitt x c = true ∧ rk x c = j := by
  intro b
  induction b with
  | zero => intro j h; exact absurd h (Nat.not_lt_zero _)
  | succ b ih =>
    intro j h
    rcases Nat.lt_or_ge j (rk x b) with z | z
    · obtain ⟨c, h1, h2, h3⟩ := ih j z
      exact ⟨c, by omega, h2, h3⟩
    · rw [rk_s] at h
      cases e : bitt x b
      · rw [e] at h; simp at h; omega
      · rw [e] at h
        simp at h
        exact ⟨b, by omega, e, by omega⟩
theorem lw_fst {g : Lg} (o : okG g) {t : Nat} (ht : t < g.1) : g.2.2.2.2.1 (t + 1) = g.2.2.2.2.1 t + cnt (g.2.1 t) ∧ g.2.2.2.2.1 t + cnt (g.2.1 t) ≤ 199 ∧ g.2.1 t &&& g.2.2.1 t = 0 := by
  obtain ⟨n, blk, rvk, use, fst, im⟩ := g
  have ht : t < n := ht
  have on := okG_n o
  obtain ⟨ring, ⟨h1, h2, h3, h4⟩, h5⟩ := o
  have a := fst_mono (fun t ht => (h2 t ht).1) (n - (t + 1)) (t + 1) (by omega)
  rw [show t + 1 + (n - (t + 1)) = n by omega] at a
  have b := (h2 t ht).1
  have c : fst t + cnt (blk t) ≤ 199 := by omega
  exact ⟨b, c, (h2 t ht).2.2.2⟩
theorem lg_n2 {g : Lg} {n : Nat} {y : MDt} (h : lgN g.1 y) (o : okG g) (h2 : lgN n y) (hn : n ≤ 99) : g.1 = n := by
  have a := (okG_n (n := g.1) o).1
  obtain ⟨a1, a2, a3, a4, a5, a6, a7, a8, r⟩ := y
  exact (nI_eq (by omega) (by omega)).mp (Eq.trans (Eq.symm h) h2)
theorem dj {x y : Int64} (h : x &&& y = 0) {q : Nat} (hy : bitt y q = true) : bitt x q = false := by
  have e := bt_and x y q
  rw [h, bt_zero, hy, Bool.and_true] at e
  exact e.symm
def iv_M_told_7 (b : Int32) (y : MDt) (x2 : Int32) (_ : MDt) : Prop := ∃ n i q : Nat, n ≤ 99 ∧ lgN n y ∧ x2 = nI i - 1 ∧ i ≤ n ∧ b = nI q ∧ q < 64 ∧ (∃ g : Lg, RMl g y ∧ okG g ∧ g.1 = n) ∧ ∀ g : Lg, RMl g y → okG g → g.1 = n → sTold g q = toldN g q i
def iv_M_told_34 (b : Int32) (y : MDt) (x2 x3 : Int32) (_ : MDt) : Prop := ∃ n t q K : Nat, n ≤ 99 ∧ lgN n y ∧ x2 = nI t ∧ t < n ∧ b = nI q ∧ q < 64 ∧ x3 = nI K ∧ (∃ g : Lg, RMl g y ∧ okG g ∧ g.1 = n) ∧ ∀ g : Lg, RMl g y → okG g → g.1 = n → sTold g q = toldN g q (t + 1) ∧ bitt (g.2.2.1 t) q = false ∧ ∃ j : Nat, K = g.2.2.2.2.1 t + j ∧ j ≤ cnt (g.2.1 t) ∧ (bitt (g.2.1 t) q = true → j ≤ rk (g.2.1 t) q)
def mu_M_told_7 (_ : Int32) (_ : MDt) (x2 : Int32) (_ : MDt) : Nat := 300 * (x2 + 1).toNatClampNeg
def mu_M_told_34 (_ : Int32) (_ : MDt) (x2 x3 : Int32) (_ : MDt) : Nat := 300 * (x2 + 1).toNatClampNeg - 1 - x3.toNatClampNeg

theorem vc_M_told_71_0 (a_b : Int32) (y_thrown : Int32) (y_ring : Int32) (y_off : Int32) (y_fuse : Int32) (y_steps : Int32) (y_many : Int32) (y_log : Int32) (y_before : Int32) (y_home : Nat → Int32) (y_base : Nat → Int32) (y_now : Nat → Int32) (y_kinds : Nat → Int32) (y_blocks : Nat → Int32) (y_runs : Nat → Int32) (y_revokes : Nat → Int32) (y_from : Nat → Int32) (y_uses : Nat → Int32) (y_revoked : Nat → Int32) (y_had : Nat → Int32) (y_data : Nat → Int32) (x2 : Int32) (hpre : pr_M_told a_b (y_thrown, y_ring, y_off, y_fuse, y_steps, y_many, y_log, y_before, y_home, y_base, y_now, y_kinds, y_blocks, y_runs, y_revokes, y_from, y_uses, y_revoked, y_had, y_data)) (hinv : iv_M_told_7 a_b (y_thrown, y_ring, y_off, y_fuse, y_steps, y_many, y_log, y_before, y_home, y_base, y_now, y_kinds, y_blocks, y_runs, y_revokes, y_from, y_uses, y_revoked, y_had, y_data) x2 (y_thrown, y_ring, y_off, y_fuse, y_steps, y_many, y_log, y_before, y_home, y_base, y_now, y_kinds, y_blocks, y_runs, y_revokes, y_from, y_uses, y_revoked, y_had, y_data)) (c_8 : x2 < 0) : po_M_told a_b (y_thrown, y_ring, y_off, y_fuse, y_steps, y_many, y_log, y_before, y_home, y_base, y_now, y_kinds, y_blocks, y_runs, y_revokes, y_from, y_uses, y_revoked, y_had, y_data) (-1) := by
  intro g q2 hg hl ho eb hq2
  obtain ⟨n, i, q, hn, hlg, rfl, hi, rfl, hq, ⟨g0, hg0, ho0, hn0⟩, h⟩ := hinv
  have hz : i = 0 := by
    rcases Nat.eq_zero_or_pos i with z | z
    · exact z
    · rw [nI_s1 z] at c_8
      exact absurd c_8 (nI_pos (by omega))
  subst hz
  have e := (nI_eq (by omega) (by omega)).mp eb
  subst e
  have en : g.1 = n := lg_n2 hl ho hlg hn
  rw [h g hg ho en, told_0]
theorem vc_M_told_21_0 (a_b : Int32) (y_thrown : Int32) (y_ring : Int32) (y_off : Int32) (y_fuse : Int32) (y_steps : Int32) (y_many : Int32) (y_log : Int32) (y_before : Int32) (y_home : Nat → Int32) (y_base : Nat → Int32) (y_now : Nat → Int32) (y_kinds : Nat → Int32) (y_blocks : Nat → Int32) (y_runs : Nat → Int32) (y_revokes : Nat → Int32) (y_from : Nat → Int32) (y_uses : Nat → Int32) (y_revoked : Nat → Int32) (y_had : Nat → Int32) (y_data : Nat → Int32) (x2 : Int32) (hpre : pr_M_told a_b (y_thrown, y_ring, y_off, y_fuse, y_steps, y_many, y_log, y_before, y_home, y_base, y_now, y_kinds, y_blocks, y_runs, y_revokes, y_from, y_uses, y_revoked, y_had, y_data)) (hinv : iv_M_told_7 a_b (y_thrown, y_ring, y_off, y_fuse, y_steps, y_many, y_log, y_before, y_home, y_base, y_now, y_kinds, y_blocks, y_runs, y_revokes, y_from, y_uses, y_revoked, y_had, y_data) x2 (y_thrown, y_ring, y_off, y_fuse, y_steps, y_many, y_log, y_before, y_home, y_base, y_now, y_kinds, y_blocks, y_runs, y_revokes, y_from, y_uses, y_revoked, y_had, y_data)) (c_8 : ¬ x2 < 0) : vp_in ((64 * x2) + a_b) 6464 := by
  obtain ⟨n, i, q, hn, hlg, rfl, hi, rfl, hq, ⟨g0, hg0, ho0, hn0⟩, h⟩ := hinv
  have hz : 0 < i := Nat.pos_of_ne_zero (fun z => c_8 (by rw [z]; exact nI_neg1))
  obtain ⟨t, rfl⟩ : ∃ t, i = t + 1 := ⟨i - 1, by omega⟩
  have ex : nI (t + 1) - 1 = nI t := nI_s1 hz
  have eix : (64 : Int32) * nI t + nI q = nI (64 * t + q) := by rw [show (64 : Int32) * nI t = nI (64 * t) from pk_mul 64 t, nI_add]
  rw [ex, eix]
  exact vp_in_nI (by omega) (by decide)
theorem vc_M_told_32_0 (a_b : Int32) (y_thrown : Int32) (y_ring : Int32) (y_off : Int32) (y_fuse : Int32) (y_steps : Int32) (y_many : Int32) (y_log : Int32) (y_before : Int32) (y_home : Nat → Int32) (y_base : Nat → Int32) (y_now : Nat → Int32) (y_kinds : Nat → Int32) (y_blocks : Nat → Int32) (y_runs : Nat → Int32) (y_revokes : Nat → Int32) (y_from : Nat → Int32) (y_uses : Nat → Int32) (y_revoked : Nat → Int32) (y_had : Nat → Int32) (y_data : Nat → Int32) (x2 : Int32) (v_21 : Int32) (hpre : pr_M_told a_b (y_thrown, y_ring, y_off, y_fuse, y_steps, y_many, y_log, y_before, y_home, y_base, y_now, y_kinds, y_blocks, y_runs, y_revokes, y_from, y_uses, y_revoked, y_had, y_data)) (hinv : iv_M_told_7 a_b (y_thrown, y_ring, y_off, y_fuse, y_steps, y_many, y_log, y_before, y_home, y_base, y_now, y_kinds, y_blocks, y_runs, y_revokes, y_from, y_uses, y_revoked, y_had, y_data) x2 (y_thrown, y_ring, y_off, y_fuse, y_steps, y_many, y_log, y_before, y_home, y_base, y_now, y_kinds, y_blocks, y_runs, y_revokes, y_from, y_uses, y_revoked, y_had, y_data)) (c_8 : ¬ x2 < 0) (e_21 : v_21 = (y_revoked (((64 * x2) + a_b)).toNatClampNeg)) (c_22 : v_21 = 0) : vp_in x2 102 := by
  obtain ⟨n, i, q, hn, hlg, rfl, hi, rfl, hq, ⟨g0, hg0, ho0, hn0⟩, h⟩ := hinv
  have hz : 0 < i := Nat.pos_of_ne_zero (fun z => c_8 (by rw [z]; exact nI_neg1))
  obtain ⟨t, rfl⟩ : ∃ t, i = t + 1 := ⟨i - 1, by omega⟩
  have ex : nI (t + 1) - 1 = nI t := nI_s1 hz
  rw [ex]
  exact vp_in_nI (by omega) (by decide)
theorem vc_M_told_33_0 (a_b : Int32) (y_thrown : Int32) (y_ring : Int32) (y_off : Int32) (y_fuse : Int32) (y_steps : Int32) (y_many : Int32) (y_log : Int32) (y_before : Int32) (y_home : Nat → Int32) (y_base : Nat → Int32) (y_now : Nat → Int32) (y_kinds : Nat → Int32) (y_blocks : Nat → Int32) (y_runs : Nat → Int32) (y_revokes : Nat → Int32) (y_from : Nat → Int32) (y_uses : Nat → Int32) (y_revoked : Nat → Int32) (y_had : Nat → Int32) (y_data : Nat → Int32) (x2 : Int32) (v_21 : Int32) (v_32 : Int32) (hpre : pr_M_told a_b (y_thrown, y_ring, y_off, y_fuse, y_steps, y_many, y_log, y_before, y_home, y_base, y_now, y_kinds, y_blocks, y_runs, y_revokes, y_from, y_uses, y_revoked, y_had, y_data)) (hinv : iv_M_told_7 a_b (y_thrown, y_ring, y_off, y_fuse, y_steps, y_many, y_log, y_before, y_home, y_base, y_now, y_kinds, y_blocks, y_runs, y_revokes, y_from, y_uses, y_revoked, y_had, y_data) x2 (y_thrown, y_ring, y_off, y_fuse, y_steps, y_many, y_log, y_before, y_home, y_base, y_now, y_kinds, y_blocks, y_runs, y_revokes, y_from, y_uses, y_revoked, y_had, y_data)) (c_8 : ¬ x2 < 0) (e_21 : v_21 = (y_revoked (((64 * x2) + a_b)).toNatClampNeg)) (c_22 : v_21 = 0) (e_32 : v_32 = (y_from (x2).toNatClampNeg)) : iv_M_told_34 a_b (y_thrown, y_ring, y_off, y_fuse, y_steps, y_many, y_log, y_before, y_home, y_base, y_now, y_kinds, y_blocks, y_runs, y_revokes, y_from, y_uses, y_revoked, y_had, y_data) x2 v_32 (y_thrown, y_ring, y_off, y_fuse, y_steps, y_many, y_log, y_before, y_home, y_base, y_now, y_kinds, y_blocks, y_runs, y_revokes, y_from, y_uses, y_revoked, y_had, y_data) ∧ mu_M_told_34 a_b (y_thrown, y_ring, y_off, y_fuse, y_steps, y_many, y_log, y_before, y_home, y_base, y_now, y_kinds, y_blocks, y_runs, y_revokes, y_from, y_uses, y_revoked, y_had, y_data) x2 v_32 (y_thrown, y_ring, y_off, y_fuse, y_steps, y_many, y_log, y_before, y_home, y_base, y_now, y_kinds, y_blocks, y_runs, y_revokes, y_from, y_uses, y_revoked, y_had, y_data) < mu_M_told_7 a_b (y_thrown, y_ring, y_off, y_fuse, y_steps, y_many, y_log, y_before, y_home, y_base, y_now, y_kinds, y_blocks, y_runs, y_revokes, y_from, y_uses, y_revoked, y_had, y_data) x2 (y_thrown, y_ring, y_off, y_fuse, y_steps, y_many, y_log, y_before, y_home, y_base, y_now, y_kinds, y_blocks, y_runs, y_revokes, y_from, y_uses, y_revoked, y_had, y_data) := by
  obtain ⟨n, i, q, hn, hlg, rfl, hi, rfl, hq, ⟨g0, hg0, ho0, hn0⟩, h⟩ := hinv
  have hz : 0 < i := Nat.pos_of_ne_zero (fun z => c_8 (by rw [z]; exact nI_neg1))
  obtain ⟨t, rfl⟩ : ∃ t, i = t + 1 := ⟨i - 1, by omega⟩
  have ex : nI (t + 1) - 1 = nI t := nI_s1 hz
  have eix : (64 : Int32) * nI t + nI q = nI (64 * t + q) := by rw [show (64 : Int32) * nI t = nI (64 * t) from pk_mul 64 t, nI_add]
  rw [ex] at e_21 e_32 ⊢
  rw [eix, nI_clamp (by omega)] at e_21
  rw [nI_clamp (by omega)] at e_32
  have hon0 := lw_fst (t := t) ho0 (by omega)
  have ef0 : v_32 = nI (g0.2.2.2.2.1 t) := by
    rw [e_32]
    exact hg0.1 t (by omega)
  refine ⟨⟨n, t, q, g0.2.2.2.2.1 t, hn, hlg, rfl, by omega, rfl, hq, ef0, ⟨g0, hg0, ho0, hn0⟩, fun g hg ho en => ⟨h g hg ho en, ?_, 0, ?_, Nat.zero_le _, fun _ => Nat.zero_le _⟩⟩, ?_⟩
  · have r := ((hg.2.1 t (by rw [en]; omega)).2 q hq).1
    rw [r] at e_21
    exact b2i_0.mp (e_21.symm.trans c_22)
  · have hon := lw_fst (t := t) ho (by omega)
    have ef : v_32 = nI (g.2.2.2.2.1 t) := by
      rw [e_32]
      exact hg.1 t (by rw [en]; omega)
    rw [Nat.add_zero]
    exact (nI_eq (by omega) (by omega)).mp (ef0.symm.trans ef)
  · show 300 * (nI t + 1).toNatClampNeg - 1 - v_32.toNatClampNeg < 300 * (nI t + 1).toNatClampNeg
    rw [nI_1, nI_clamp (n := t + 1) (by omega)]
    omega
theorem vc_M_told_26_0 (a_b : Int32) (y_thrown : Int32) (y_ring : Int32) (y_off : Int32) (y_fuse : Int32) (y_steps : Int32) (y_many : Int32) (y_log : Int32) (y_before : Int32) (y_home : Nat → Int32) (y_base : Nat → Int32) (y_now : Nat → Int32) (y_kinds : Nat → Int32) (y_blocks : Nat → Int32) (y_runs : Nat → Int32) (y_revokes : Nat → Int32) (y_from : Nat → Int32) (y_uses : Nat → Int32) (y_revoked : Nat → Int32) (y_had : Nat → Int32) (y_data : Nat → Int32) (x2 : Int32) (v_21 : Int32) (hpre : pr_M_told a_b (y_thrown, y_ring, y_off, y_fuse, y_steps, y_many, y_log, y_before, y_home, y_base, y_now, y_kinds, y_blocks, y_runs, y_revokes, y_from, y_uses, y_revoked, y_had, y_data)) (hinv : iv_M_told_7 a_b (y_thrown, y_ring, y_off, y_fuse, y_steps, y_many, y_log, y_before, y_home, y_base, y_now, y_kinds, y_blocks, y_runs, y_revokes, y_from, y_uses, y_revoked, y_had, y_data) x2 (y_thrown, y_ring, y_off, y_fuse, y_steps, y_many, y_log, y_before, y_home, y_base, y_now, y_kinds, y_blocks, y_runs, y_revokes, y_from, y_uses, y_revoked, y_had, y_data)) (c_8 : ¬ x2 < 0) (e_21 : v_21 = (y_revoked (((64 * x2) + a_b)).toNatClampNeg)) (c_22 : ¬ v_21 = 0) : po_M_told a_b (y_thrown, y_ring, y_off, y_fuse, y_steps, y_many, y_log, y_before, y_home, y_base, y_now, y_kinds, y_blocks, y_runs, y_revokes, y_from, y_uses, y_revoked, y_had, y_data) (-1) := by
  intro g q2 hg hl ho eb hq2
  obtain ⟨n, i, q, hn, hlg, rfl, hi, rfl, hq, ⟨g0, hg0, ho0, hn0⟩, h⟩ := hinv
  have hz : 0 < i := Nat.pos_of_ne_zero (fun z => c_8 (by rw [z]; exact nI_neg1))
  obtain ⟨t, rfl⟩ : ∃ t, i = t + 1 := ⟨i - 1, by omega⟩
  have ex : nI (t + 1) - 1 = nI t := nI_s1 hz
  have eix : (64 : Int32) * nI t + nI q = nI (64 * t + q) := by rw [show (64 : Int32) * nI t = nI (64 * t) from pk_mul 64 t, nI_add]
  have e := (nI_eq (by omega) (by omega)).mp eb
  subst e
  have en : g.1 = n := lg_n2 hl ho hlg hn
  rw [ex, eix, nI_clamp (by omega)] at e_21
  have r := ((hg.2.1 t (by rw [en]; omega)).2 q hq).1
  rw [r] at e_21
  have hr := b2i_n0.mp (fun z => c_22 (e_21.trans z))
  have hon := lw_fst (t := t) ho (by omega)
  rw [h g hg ho en, told_rev hq hr (dj hon.2.2 hr)]
theorem vc_M_told_42_0 (a_b : Int32) (y_thrown : Int32) (y_ring : Int32) (y_off : Int32) (y_fuse : Int32) (y_steps : Int32) (y_many : Int32) (y_log : Int32) (y_before : Int32) (y_home : Nat → Int32) (y_base : Nat → Int32) (y_now : Nat → Int32) (y_kinds : Nat → Int32) (y_blocks : Nat → Int32) (y_runs : Nat → Int32) (y_revokes : Nat → Int32) (y_from : Nat → Int32) (y_uses : Nat → Int32) (y_revoked : Nat → Int32) (y_had : Nat → Int32) (y_data : Nat → Int32) (x2 : Int32) (x3 : Int32) (hpre : pr_M_told a_b (y_thrown, y_ring, y_off, y_fuse, y_steps, y_many, y_log, y_before, y_home, y_base, y_now, y_kinds, y_blocks, y_runs, y_revokes, y_from, y_uses, y_revoked, y_had, y_data)) (hinv : iv_M_told_34 a_b (y_thrown, y_ring, y_off, y_fuse, y_steps, y_many, y_log, y_before, y_home, y_base, y_now, y_kinds, y_blocks, y_runs, y_revokes, y_from, y_uses, y_revoked, y_had, y_data) x2 x3 (y_thrown, y_ring, y_off, y_fuse, y_steps, y_many, y_log, y_before, y_home, y_base, y_now, y_kinds, y_blocks, y_runs, y_revokes, y_from, y_uses, y_revoked, y_had, y_data)) : vp_in (x2 + 1) 102 := by
  obtain ⟨n, t, q, K, hn, hlg, rfl, ht, rfl, hq, rfl, ⟨g0, hg0, ho0, hn0⟩, h⟩ := hinv
  rw [nI_1]
  exact vp_in_nI (by omega) (by decide)
theorem vc_M_told_67_0 (a_b : Int32) (y_thrown : Int32) (y_ring : Int32) (y_off : Int32) (y_fuse : Int32) (y_steps : Int32) (y_many : Int32) (y_log : Int32) (y_before : Int32) (y_home : Nat → Int32) (y_base : Nat → Int32) (y_now : Nat → Int32) (y_kinds : Nat → Int32) (y_blocks : Nat → Int32) (y_runs : Nat → Int32) (y_revokes : Nat → Int32) (y_from : Nat → Int32) (y_uses : Nat → Int32) (y_revoked : Nat → Int32) (y_had : Nat → Int32) (y_data : Nat → Int32) (x2 : Int32) (x3 : Int32) (v_42 : Int32) (v_64 : Int32) (hpre : pr_M_told a_b (y_thrown, y_ring, y_off, y_fuse, y_steps, y_many, y_log, y_before, y_home, y_base, y_now, y_kinds, y_blocks, y_runs, y_revokes, y_from, y_uses, y_revoked, y_had, y_data)) (hinv : iv_M_told_34 a_b (y_thrown, y_ring, y_off, y_fuse, y_steps, y_many, y_log, y_before, y_home, y_base, y_now, y_kinds, y_blocks, y_runs, y_revokes, y_from, y_uses, y_revoked, y_had, y_data) x2 x3 (y_thrown, y_ring, y_off, y_fuse, y_steps, y_many, y_log, y_before, y_home, y_base, y_now, y_kinds, y_blocks, y_runs, y_revokes, y_from, y_uses, y_revoked, y_had, y_data)) (e_42 : v_42 = (y_from ((x2 + 1)).toNatClampNeg)) (c_43 : v_42 ≤ x3) (e_64 : v_64 = x2 + (-1)) : iv_M_told_7 a_b (y_thrown, y_ring, y_off, y_fuse, y_steps, y_many, y_log, y_before, y_home, y_base, y_now, y_kinds, y_blocks, y_runs, y_revokes, y_from, y_uses, y_revoked, y_had, y_data) v_64 (y_thrown, y_ring, y_off, y_fuse, y_steps, y_many, y_log, y_before, y_home, y_base, y_now, y_kinds, y_blocks, y_runs, y_revokes, y_from, y_uses, y_revoked, y_had, y_data) ∧ mu_M_told_7 a_b (y_thrown, y_ring, y_off, y_fuse, y_steps, y_many, y_log, y_before, y_home, y_base, y_now, y_kinds, y_blocks, y_runs, y_revokes, y_from, y_uses, y_revoked, y_had, y_data) v_64 (y_thrown, y_ring, y_off, y_fuse, y_steps, y_many, y_log, y_before, y_home, y_base, y_now, y_kinds, y_blocks, y_runs, y_revokes, y_from, y_uses, y_revoked, y_had, y_data) < mu_M_told_34 a_b (y_thrown, y_ring, y_off, y_fuse, y_steps, y_many, y_log, y_before, y_home, y_base, y_now, y_kinds, y_blocks, y_runs, y_revokes, y_from, y_uses, y_revoked, y_had, y_data) x2 x3 (y_thrown, y_ring, y_off, y_fuse, y_steps, y_many, y_log, y_before, y_home, y_base, y_now, y_kinds, y_blocks, y_runs, y_revokes, y_from, y_uses, y_revoked, y_had, y_data) := by
  obtain ⟨n, t, q, K, hn, hlg, rfl, ht, rfl, hq, rfl, ⟨g0, hg0, ho0, hn0⟩, h⟩ := hinv
  rw [nI_1, nI_clamp (by omega)] at e_42
  obtain ⟨p1, p2, j0, pj, pk, pl⟩ := h g0 hg0 ho0 hn0
  have hon0 := lw_fst (t := t) ho0 (by omega)
  have ef0 : v_42 = nI (g0.2.2.2.2.1 t + cnt (g0.2.1 t)) := by
    rw [e_42, ← hon0.1]
    exact hg0.1 (t + 1) (by omega)
  rw [ef0] at c_43
  have hK := (nI_leI (by omega) (by omega)).mp c_43
  have ev : v_64 = nI t - 1 := by rw [e_64, Int32.sub_eq_add_neg]
  refine ⟨⟨n, t, q, hn, hlg, ev, by omega, rfl, hq, ⟨g0, hg0, ho0, hn0⟩, fun g hg ho en => ?_⟩, ?_⟩
  · obtain ⟨q1, q2, j, qj, qk, ql⟩ := h g hg ho en
    have hon := lw_fst (t := t) ho (by omega)
    have ef : v_42 = nI (g.2.2.2.2.1 t + cnt (g.2.1 t)) := by
      rw [e_42, ← hon.1]
      exact hg.1 (t + 1) (by omega)
    rw [← ef0, ef] at c_43
    have hK2 := (nI_leI (by omega) (by omega)).mp c_43
    have hf : bitt (g.2.1 t) q = false := by
      cases z : bitt (g.2.1 t) q
      · rfl
      · have a := ql z
        have b := rk_lt hq z
        omega
    rw [q1, told_skip hq q2 hf]
  · show 300 * (v_64 + 1).toNatClampNeg < 300 * (nI t + 1).toNatClampNeg - 1 - (nI K).toNatClampNeg
    rw [ev, nI_m1p, nI_1, nI_clamp (n := t) (by omega), nI_clamp (n := t + 1) (by omega), nI_clamp (n := K) (by omega)]
    omega
theorem vc_M_told_51_0 (a_b : Int32) (y_thrown : Int32) (y_ring : Int32) (y_off : Int32) (y_fuse : Int32) (y_steps : Int32) (y_many : Int32) (y_log : Int32) (y_before : Int32) (y_home : Nat → Int32) (y_base : Nat → Int32) (y_now : Nat → Int32) (y_kinds : Nat → Int32) (y_blocks : Nat → Int32) (y_runs : Nat → Int32) (y_revokes : Nat → Int32) (y_from : Nat → Int32) (y_uses : Nat → Int32) (y_revoked : Nat → Int32) (y_had : Nat → Int32) (y_data : Nat → Int32) (x2 : Int32) (x3 : Int32) (v_42 : Int32) (hpre : pr_M_told a_b (y_thrown, y_ring, y_off, y_fuse, y_steps, y_many, y_log, y_before, y_home, y_base, y_now, y_kinds, y_blocks, y_runs, y_revokes, y_from, y_uses, y_revoked, y_had, y_data)) (hinv : iv_M_told_34 a_b (y_thrown, y_ring, y_off, y_fuse, y_steps, y_many, y_log, y_before, y_home, y_base, y_now, y_kinds, y_blocks, y_runs, y_revokes, y_from, y_uses, y_revoked, y_had, y_data) x2 x3 (y_thrown, y_ring, y_off, y_fuse, y_steps, y_many, y_log, y_before, y_home, y_base, y_now, y_kinds, y_blocks, y_runs, y_revokes, y_from, y_uses, y_revoked, y_had, y_data)) (e_42 : v_42 = (y_from ((x2 + 1)).toNatClampNeg)) (c_43 : ¬ v_42 ≤ x3) : vp_in x3 200 := by
  obtain ⟨n, t, q, K, hn, hlg, rfl, ht, rfl, hq, rfl, ⟨g0, hg0, ho0, hn0⟩, h⟩ := hinv
  rw [nI_1, nI_clamp (by omega)] at e_42
  obtain ⟨p1, p2, j0, pj, pk, pl⟩ := h g0 hg0 ho0 hn0
  have hon0 := lw_fst (t := t) ho0 (by omega)
  have ef0 : v_42 = nI (g0.2.2.2.2.1 t + cnt (g0.2.1 t)) := by
    rw [e_42, ← hon0.1]
    exact hg0.1 (t + 1) (by omega)
  have hK : K < g0.2.2.2.2.1 t + cnt (g0.2.1 t) := by
    rcases Nat.lt_or_ge K (g0.2.2.2.2.1 t + cnt (g0.2.1 t)) with z | z
    · exact z
    · exact absurd (by rw [ef0]; exact nI_le z (by omega)) c_43
  exact vp_in_nI (by omega) (by decide)
theorem vc_M_told_61_0 (a_b : Int32) (y_thrown : Int32) (y_ring : Int32) (y_off : Int32) (y_fuse : Int32) (y_steps : Int32) (y_many : Int32) (y_log : Int32) (y_before : Int32) (y_home : Nat → Int32) (y_base : Nat → Int32) (y_now : Nat → Int32) (y_kinds : Nat → Int32) (y_blocks : Nat → Int32) (y_runs : Nat → Int32) (y_revokes : Nat → Int32) (y_from : Nat → Int32) (y_uses : Nat → Int32) (y_revoked : Nat → Int32) (y_had : Nat → Int32) (y_data : Nat → Int32) (x2 : Int32) (x3 : Int32) (v_42 : Int32) (v_51 : Int32) (v_58 : Int32) (hpre : pr_M_told a_b (y_thrown, y_ring, y_off, y_fuse, y_steps, y_many, y_log, y_before, y_home, y_base, y_now, y_kinds, y_blocks, y_runs, y_revokes, y_from, y_uses, y_revoked, y_had, y_data)) (hinv : iv_M_told_34 a_b (y_thrown, y_ring, y_off, y_fuse, y_steps, y_many, y_log, y_before, y_home, y_base, y_now, y_kinds, y_blocks, y_runs, y_revokes, y_from, y_uses, y_revoked, y_had, y_data) x2 x3 (y_thrown, y_ring, y_off, y_fuse, y_steps, y_many, y_log, y_before, y_home, y_base, y_now, y_kinds, y_blocks, y_runs, y_revokes, y_from, y_uses, y_revoked, y_had, y_data)) (e_42 : v_42 = (y_from ((x2 + 1)).toNatClampNeg)) (c_43 : ¬ v_42 ≤ x3) (e_51 : v_51 = (y_had (x3).toNatClampNeg)) (c_53 : ¬ v_51 = a_b) (e_58 : v_58 = x3 + 1) : iv_M_told_34 a_b (y_thrown, y_ring, y_off, y_fuse, y_steps, y_many, y_log, y_before, y_home, y_base, y_now, y_kinds, y_blocks, y_runs, y_revokes, y_from, y_uses, y_revoked, y_had, y_data) x2 v_58 (y_thrown, y_ring, y_off, y_fuse, y_steps, y_many, y_log, y_before, y_home, y_base, y_now, y_kinds, y_blocks, y_runs, y_revokes, y_from, y_uses, y_revoked, y_had, y_data) ∧ mu_M_told_34 a_b (y_thrown, y_ring, y_off, y_fuse, y_steps, y_many, y_log, y_before, y_home, y_base, y_now, y_kinds, y_blocks, y_runs, y_revokes, y_from, y_uses, y_revoked, y_had, y_data) x2 v_58 (y_thrown, y_ring, y_off, y_fuse, y_steps, y_many, y_log, y_before, y_home, y_base, y_now, y_kinds, y_blocks, y_runs, y_revokes, y_from, y_uses, y_revoked, y_had, y_data) < mu_M_told_34 a_b (y_thrown, y_ring, y_off, y_fuse, y_steps, y_many, y_log, y_before, y_home, y_base, y_now, y_kinds, y_blocks, y_runs, y_revokes, y_from, y_uses, y_revoked, y_had, y_data) x2 x3 (y_thrown, y_ring, y_off, y_fuse, y_steps, y_many, y_log, y_before, y_home, y_base, y_now, y_kinds, y_blocks, y_runs, y_revokes, y_from, y_uses, y_revoked, y_had, y_data) := by
  obtain ⟨n, t, q, K, hn, hlg, rfl, ht, rfl, hq, rfl, ⟨g0, hg0, ho0, hn0⟩, h⟩ := hinv
  rw [nI_1, nI_clamp (by omega)] at e_42
  obtain ⟨p1, p2, j0, pj, pk, pl⟩ := h g0 hg0 ho0 hn0
  have hon0 := lw_fst (t := t) ho0 (by omega)
  have ef0 : v_42 = nI (g0.2.2.2.2.1 t + cnt (g0.2.1 t)) := by
    rw [e_42, ← hon0.1]
    exact hg0.1 (t + 1) (by omega)
  have hK : K < g0.2.2.2.2.1 t + cnt (g0.2.1 t) := by
    rcases Nat.lt_or_ge K (g0.2.2.2.2.1 t + cnt (g0.2.1 t)) with z | z
    · exact z
    · exact absurd (by rw [ef0]; exact nI_le z (by omega)) c_43
  rw [nI_clamp (by omega)] at e_51
  refine ⟨⟨n, t, q, K + 1, hn, hlg, rfl, ht, rfl, hq, by rw [e_58]; exact nI_1 K, ⟨g0, hg0, ho0, hn0⟩, fun g hg ho en => ?_⟩, ?_⟩
  · obtain ⟨q1, q2, j, qj, qk, ql⟩ := h g hg ho en
    have hon := lw_fst (t := t) ho (by omega)
    have ef : v_42 = nI (g.2.2.2.2.1 t + cnt (g.2.1 t)) := by
      rw [e_42, ← hon.1]
      exact hg.1 (t + 1) (by omega)
    have hK2 : K < g.2.2.2.2.1 t + cnt (g.2.1 t) := by
      rcases Nat.lt_or_ge K (g.2.2.2.2.1 t + cnt (g.2.1 t)) with z | z
      · exact z
      · exact absurd (by rw [ef]; exact nI_le z (by omega)) c_43
    refine ⟨q1, q2, j + 1, by omega, by omega, fun z => ?_⟩
    have a := ql z
    have hne : ¬ j = rk (g.2.1 t) q := fun y => c_53 (by
      rw [e_51, qj, y]
      exact ((hg.2.1 t (by rw [en]; exact ht)).2 q hq).2 z)
    omega
  · show 300 * (nI t + 1).toNatClampNeg - 1 - v_58.toNatClampNeg < 300 * (nI t + 1).toNatClampNeg - 1 - (nI K).toNatClampNeg
    rw [e_58, nI_1, nI_1, nI_clamp (n := K + 1) (by omega), nI_clamp (n := t + 1) (by omega), nI_clamp (n := K) (by omega)]
    omega
theorem vc_M_told_57_0 (a_b : Int32) (y_thrown : Int32) (y_ring : Int32) (y_off : Int32) (y_fuse : Int32) (y_steps : Int32) (y_many : Int32) (y_log : Int32) (y_before : Int32) (y_home : Nat → Int32) (y_base : Nat → Int32) (y_now : Nat → Int32) (y_kinds : Nat → Int32) (y_blocks : Nat → Int32) (y_runs : Nat → Int32) (y_revokes : Nat → Int32) (y_from : Nat → Int32) (y_uses : Nat → Int32) (y_revoked : Nat → Int32) (y_had : Nat → Int32) (y_data : Nat → Int32) (x2 : Int32) (x3 : Int32) (v_42 : Int32) (v_51 : Int32) (hpre : pr_M_told a_b (y_thrown, y_ring, y_off, y_fuse, y_steps, y_many, y_log, y_before, y_home, y_base, y_now, y_kinds, y_blocks, y_runs, y_revokes, y_from, y_uses, y_revoked, y_had, y_data)) (hinv : iv_M_told_34 a_b (y_thrown, y_ring, y_off, y_fuse, y_steps, y_many, y_log, y_before, y_home, y_base, y_now, y_kinds, y_blocks, y_runs, y_revokes, y_from, y_uses, y_revoked, y_had, y_data) x2 x3 (y_thrown, y_ring, y_off, y_fuse, y_steps, y_many, y_log, y_before, y_home, y_base, y_now, y_kinds, y_blocks, y_runs, y_revokes, y_from, y_uses, y_revoked, y_had, y_data)) (e_42 : v_42 = (y_from ((x2 + 1)).toNatClampNeg)) (c_43 : ¬ v_42 ≤ x3) (e_51 : v_51 = (y_had (x3).toNatClampNeg)) (c_53 : v_51 = a_b) : po_M_told a_b (y_thrown, y_ring, y_off, y_fuse, y_steps, y_many, y_log, y_before, y_home, y_base, y_now, y_kinds, y_blocks, y_runs, y_revokes, y_from, y_uses, y_revoked, y_had, y_data) x3 := by
  intro g q2 hg hl ho eb hq2
  obtain ⟨n, t, q, K, hn, hlg, rfl, ht, rfl, hq, rfl, ⟨g0, hg0, ho0, hn0⟩, h⟩ := hinv
  rw [nI_1, nI_clamp (by omega)] at e_42
  obtain ⟨p1, p2, j0, pj, pk, pl⟩ := h g0 hg0 ho0 hn0
  have hon0 := lw_fst (t := t) ho0 (by omega)
  have ef0 : v_42 = nI (g0.2.2.2.2.1 t + cnt (g0.2.1 t)) := by
    rw [e_42, ← hon0.1]
    exact hg0.1 (t + 1) (by omega)
  have hK : K < g0.2.2.2.2.1 t + cnt (g0.2.1 t) := by
    rcases Nat.lt_or_ge K (g0.2.2.2.2.1 t + cnt (g0.2.1 t)) with z | z
    · exact z
    · exact absurd (by rw [ef0]; exact nI_le z (by omega)) c_43
  rw [nI_clamp (by omega)] at e_51
  have e := (nI_eq (by omega) (by omega)).mp eb
  subst e
  have en : g.1 = n := lg_n2 hl ho hlg hn
  obtain ⟨q1, q2, j, qj, qk, ql⟩ := h g hg ho en
  have hon := lw_fst (t := t) ho (by omega)
  have ef : v_42 = nI (g.2.2.2.2.1 t + cnt (g.2.1 t)) := by
    rw [e_42, ← hon.1]
    exact hg.1 (t + 1) (by omega)
  have hK2 : K < g.2.2.2.2.1 t + cnt (g.2.1 t) := by
    rcases Nat.lt_or_ge K (g.2.2.2.2.1 t + cnt (g.2.1 t)) with z | z
    · exact z
    · exact absurd (by rw [ef]; exact nI_le z (by omega)) c_43
  obtain ⟨c, hc, hb, hr⟩ := sel (x := g.2.1 t) 64 j (by rw [rk_64]; omega)
  have hh := ((hg.2.1 t (by rw [en]; exact ht)).2 c hc).2 hb
  have e3 : nI c = nI q := by
    rw [← hh, hr, ← qj, ← e_51, c_53]
  have e4 := (nI_eq (by omega) (by omega)).mp e3
  subst e4
  rw [q1, told_hit hq hb, qj, hr]
theorem vc_M_told_6_0 (a_b : Int32) (y_thrown : Int32) (y_ring : Int32) (y_off : Int32) (y_fuse : Int32) (y_steps : Int32) (y_many : Int32) (y_log : Int32) (y_before : Int32) (y_home : Nat → Int32) (y_base : Nat → Int32) (y_now : Nat → Int32) (y_kinds : Nat → Int32) (y_blocks : Nat → Int32) (y_runs : Nat → Int32) (y_revokes : Nat → Int32) (y_from : Nat → Int32) (y_uses : Nat → Int32) (y_revoked : Nat → Int32) (y_had : Nat → Int32) (y_data : Nat → Int32) (v_6 : Int32) (hpre : pr_M_told a_b (y_thrown, y_ring, y_off, y_fuse, y_steps, y_many, y_log, y_before, y_home, y_base, y_now, y_kinds, y_blocks, y_runs, y_revokes, y_from, y_uses, y_revoked, y_had, y_data)) (e_6 : v_6 = (y_log - 1)) : iv_M_told_7 a_b (y_thrown, y_ring, y_off, y_fuse, y_steps, y_many, y_log, y_before, y_home, y_base, y_now, y_kinds, y_blocks, y_runs, y_revokes, y_from, y_uses, y_revoked, y_had, y_data) v_6 (y_thrown, y_ring, y_off, y_fuse, y_steps, y_many, y_log, y_before, y_home, y_base, y_now, y_kinds, y_blocks, y_runs, y_revokes, y_from, y_uses, y_revoked, y_had, y_data) ∧ True := by
  obtain ⟨g0, q, hg0, hl0, ho0, rfl, hq⟩ := hpre
  have hn := (okG_n (n := g0.1) ho0).1
  have e : y_log = nI g0.1 := hl0
  exact ⟨⟨g0.1, g0.1, q, hn, hl0, by rw [e_6, e], Nat.le_refl _, rfl, hq, ⟨g0, hg0, ho0, rfl⟩, fun g hg ho en => by rw [told_e, en]⟩, trivial⟩
def iv_M_used_4 (y : MDt) (x1 x2 : Int32) (_ : MDt) : Prop := ∃ n i : Nat, n ≤ 99 ∧ lgN n y ∧ x2 = nI i ∧ i ≤ n ∧ ∀ g : Lg, RMl g y → lgN g.1 y → okG g → g.1 = n ∧ x1 = nI (sumN g.2.2.2.1 i)
def mu_M_used_4 : MDt → Int32 → Int32 → MDt → Nat
  | (_, _, _, _, _, _, log, _, _, _, _, _, _, _, _, _, _, _, _, _), _, x2, _ => log.toNatClampNeg - x2.toNatClampNeg

theorem vc_M_used_28_0 (y_thrown : Int32) (y_ring : Int32) (y_off : Int32) (y_fuse : Int32) (y_steps : Int32) (y_many : Int32) (y_log : Int32) (y_before : Int32) (y_home : Nat → Int32) (y_base : Nat → Int32) (y_now : Nat → Int32) (y_kinds : Nat → Int32) (y_blocks : Nat → Int32) (y_runs : Nat → Int32) (y_revokes : Nat → Int32) (y_from : Nat → Int32) (y_uses : Nat → Int32) (y_revoked : Nat → Int32) (y_had : Nat → Int32) (y_data : Nat → Int32) (x1 : Int32) (x2 : Int32) (hpre : pr_M_used (y_thrown, y_ring, y_off, y_fuse, y_steps, y_many, y_log, y_before, y_home, y_base, y_now, y_kinds, y_blocks, y_runs, y_revokes, y_from, y_uses, y_revoked, y_had, y_data)) (hinv : iv_M_used_4 (y_thrown, y_ring, y_off, y_fuse, y_steps, y_many, y_log, y_before, y_home, y_base, y_now, y_kinds, y_blocks, y_runs, y_revokes, y_from, y_uses, y_revoked, y_had, y_data) x1 x2 (y_thrown, y_ring, y_off, y_fuse, y_steps, y_many, y_log, y_before, y_home, y_base, y_now, y_kinds, y_blocks, y_runs, y_revokes, y_from, y_uses, y_revoked, y_had, y_data)) (c_9 : y_log ≤ x2) : po_M_used (y_thrown, y_ring, y_off, y_fuse, y_steps, y_many, y_log, y_before, y_home, y_base, y_now, y_kinds, y_blocks, y_runs, y_revokes, y_from, y_uses, y_revoked, y_had, y_data) x1 := by
  intro g hg hl ho
  obtain ⟨n, i, hn, e, rfl, hi, h⟩ := hinv
  have e : y_log = nI n := e
  obtain ⟨h1, h2⟩ := h g hg hl ho
  rw [e] at c_9
  have h3 : n ≤ i := (nI_leI (by omega) (by omega)).mp c_9
  obtain ⟨n2, blk, rvk, use, fst, im⟩ := g
  have h1 : n2 = n := h1
  subst h1
  rw [h2, show i = n2 by omega]
  rfl
theorem vc_M_used_18_0 (y_thrown : Int32) (y_ring : Int32) (y_off : Int32) (y_fuse : Int32) (y_steps : Int32) (y_many : Int32) (y_log : Int32) (y_before : Int32) (y_home : Nat → Int32) (y_base : Nat → Int32) (y_now : Nat → Int32) (y_kinds : Nat → Int32) (y_blocks : Nat → Int32) (y_runs : Nat → Int32) (y_revokes : Nat → Int32) (y_from : Nat → Int32) (y_uses : Nat → Int32) (y_revoked : Nat → Int32) (y_had : Nat → Int32) (y_data : Nat → Int32) (x1 : Int32) (x2 : Int32) (hpre : pr_M_used (y_thrown, y_ring, y_off, y_fuse, y_steps, y_many, y_log, y_before, y_home, y_base, y_now, y_kinds, y_blocks, y_runs, y_revokes, y_from, y_uses, y_revoked, y_had, y_data)) (hinv : iv_M_used_4 (y_thrown, y_ring, y_off, y_fuse, y_steps, y_many, y_log, y_before, y_home, y_base, y_now, y_kinds, y_blocks, y_runs, y_revokes, y_from, y_uses, y_revoked, y_had, y_data) x1 x2 (y_thrown, y_ring, y_off, y_fuse, y_steps, y_many, y_log, y_before, y_home, y_base, y_now, y_kinds, y_blocks, y_runs, y_revokes, y_from, y_uses, y_revoked, y_had, y_data)) (c_9 : ¬ y_log ≤ x2) : vp_in x2 101 := by
  obtain ⟨n, i, hn, e, rfl, hi, h⟩ := hinv
  have e : y_log = nI n := e
  have h3 : ¬ n ≤ i := fun z => c_9 (by rw [e]; exact nI_le z (by omega))
  exact vp_in_nI (by omega) (by decide)
theorem vc_M_used_24_0 (y_thrown : Int32) (y_ring : Int32) (y_off : Int32) (y_fuse : Int32) (y_steps : Int32) (y_many : Int32) (y_log : Int32) (y_before : Int32) (y_home : Nat → Int32) (y_base : Nat → Int32) (y_now : Nat → Int32) (y_kinds : Nat → Int32) (y_blocks : Nat → Int32) (y_runs : Nat → Int32) (y_revokes : Nat → Int32) (y_from : Nat → Int32) (y_uses : Nat → Int32) (y_revoked : Nat → Int32) (y_had : Nat → Int32) (y_data : Nat → Int32) (x1 : Int32) (x2 : Int32) (v_18 : Int32) (v_20 : Int32) (v_21 : Int32) (hpre : pr_M_used (y_thrown, y_ring, y_off, y_fuse, y_steps, y_many, y_log, y_before, y_home, y_base, y_now, y_kinds, y_blocks, y_runs, y_revokes, y_from, y_uses, y_revoked, y_had, y_data)) (hinv : iv_M_used_4 (y_thrown, y_ring, y_off, y_fuse, y_steps, y_many, y_log, y_before, y_home, y_base, y_now, y_kinds, y_blocks, y_runs, y_revokes, y_from, y_uses, y_revoked, y_had, y_data) x1 x2 (y_thrown, y_ring, y_off, y_fuse, y_steps, y_many, y_log, y_before, y_home, y_base, y_now, y_kinds, y_blocks, y_runs, y_revokes, y_from, y_uses, y_revoked, y_had, y_data)) (c_9 : ¬ y_log ≤ x2) (e_18 : v_18 = (y_uses (x2).toNatClampNeg)) (e_20 : v_20 = (x1 + v_18)) (e_21 : v_21 = x2 + 1) : iv_M_used_4 (y_thrown, y_ring, y_off, y_fuse, y_steps, y_many, y_log, y_before, y_home, y_base, y_now, y_kinds, y_blocks, y_runs, y_revokes, y_from, y_uses, y_revoked, y_had, y_data) v_20 v_21 (y_thrown, y_ring, y_off, y_fuse, y_steps, y_many, y_log, y_before, y_home, y_base, y_now, y_kinds, y_blocks, y_runs, y_revokes, y_from, y_uses, y_revoked, y_had, y_data) ∧ mu_M_used_4 (y_thrown, y_ring, y_off, y_fuse, y_steps, y_many, y_log, y_before, y_home, y_base, y_now, y_kinds, y_blocks, y_runs, y_revokes, y_from, y_uses, y_revoked, y_had, y_data) v_20 v_21 (y_thrown, y_ring, y_off, y_fuse, y_steps, y_many, y_log, y_before, y_home, y_base, y_now, y_kinds, y_blocks, y_runs, y_revokes, y_from, y_uses, y_revoked, y_had, y_data) < mu_M_used_4 (y_thrown, y_ring, y_off, y_fuse, y_steps, y_many, y_log, y_before, y_home, y_base, y_now, y_kinds, y_blocks, y_runs, y_revokes, y_from, y_uses, y_revoked, y_had, y_data) x1 x2 (y_thrown, y_ring, y_off, y_fuse, y_steps, y_many, y_log, y_before, y_home, y_base, y_now, y_kinds, y_blocks, y_runs, y_revokes, y_from, y_uses, y_revoked, y_had, y_data) := by
  obtain ⟨n, i, hn, e, rfl, hi, h⟩ := hinv
  have e0 := e
  have e : y_log = nI n := e
  have h3 : ¬ n ≤ i := fun z => c_9 (by rw [e]; exact nI_le z (by omega))
  refine ⟨⟨n, i + 1, hn, e0, by rw [e_21]; exact nI_1 i, by omega, fun g hg hl ho => ?_⟩, ?_⟩
  · obtain ⟨h1, h2⟩ := h g hg hl ho
    refine ⟨h1, ?_⟩
    have u := (hg.2.1 i (by omega)).1
    rw [e_20, e_18, nI_clamp (by omega), u, h2, nI_add]
    rfl
  · show y_log.toNatClampNeg - v_21.toNatClampNeg < y_log.toNatClampNeg - (nI i).toNatClampNeg
    rw [e_21, nI_1, e, nI_clamp (n := n) (by omega), nI_clamp (n := i + 1) (by omega), nI_clamp (n := i) (by omega)]
    omega
theorem vc_M_used_3_0 (y_thrown : Int32) (y_ring : Int32) (y_off : Int32) (y_fuse : Int32) (y_steps : Int32) (y_many : Int32) (y_log : Int32) (y_before : Int32) (y_home : Nat → Int32) (y_base : Nat → Int32) (y_now : Nat → Int32) (y_kinds : Nat → Int32) (y_blocks : Nat → Int32) (y_runs : Nat → Int32) (y_revokes : Nat → Int32) (y_from : Nat → Int32) (y_uses : Nat → Int32) (y_revoked : Nat → Int32) (y_had : Nat → Int32) (y_data : Nat → Int32) (hpre : pr_M_used (y_thrown, y_ring, y_off, y_fuse, y_steps, y_many, y_log, y_before, y_home, y_base, y_now, y_kinds, y_blocks, y_runs, y_revokes, y_from, y_uses, y_revoked, y_had, y_data)) : iv_M_used_4 (y_thrown, y_ring, y_off, y_fuse, y_steps, y_many, y_log, y_before, y_home, y_base, y_now, y_kinds, y_blocks, y_runs, y_revokes, y_from, y_uses, y_revoked, y_had, y_data) 0 0 (y_thrown, y_ring, y_off, y_fuse, y_steps, y_many, y_log, y_before, y_home, y_base, y_now, y_kinds, y_blocks, y_runs, y_revokes, y_from, y_uses, y_revoked, y_had, y_data) ∧ True := by
  obtain ⟨g0, hg0, hl0, ho0⟩ := hpre
  have hn := (okG_n (n := g0.1) ho0).1
  exact ⟨⟨g0.1, 0, hn, hl0, rfl, Nat.zero_le _, fun g hg hl ho => ⟨lg_n hl ho hl0 ho0, rfl⟩⟩, trivial⟩
def iv_M_isRevoked_5 (t b : Int32) (y : MDt) (x3 x4 : Int32) (_ : MDt) : Prop := ∃ (n i a q : Nat) (c : Bool), n ≤ 99 ∧ lgN n y ∧ x4 = nI i ∧ i ≤ n ∧ t = nI a ∧ a < n ∧ b = nI q ∧ q < 64 ∧ x3 = b2i c ∧ ∀ g : Lg, RMl g y → lgN g.1 y → okG g → g.1 = n ∧ rvd g.2.2.1 q a (n - a) = (c || rvd g.2.2.1 q i (n - i))
def mu_M_isRevoked_5 (_ _ : Int32) : MDt → Int32 → Int32 → MDt → Nat
  | (_, _, _, _, _, _, log, _, _, _, _, _, _, _, _, _, _, _, _, _), _, x4, _ => log.toNatClampNeg - x4.toNatClampNeg

theorem vc_M_isRevoked_46_0 (a_t : Int32) (a_b : Int32) (y_thrown : Int32) (y_ring : Int32) (y_off : Int32) (y_fuse : Int32) (y_steps : Int32) (y_many : Int32) (y_log : Int32) (y_before : Int32) (y_home : Nat → Int32) (y_base : Nat → Int32) (y_now : Nat → Int32) (y_kinds : Nat → Int32) (y_blocks : Nat → Int32) (y_runs : Nat → Int32) (y_revokes : Nat → Int32) (y_from : Nat → Int32) (y_uses : Nat → Int32) (y_revoked : Nat → Int32) (y_had : Nat → Int32) (y_data : Nat → Int32) (x3 : Int32) (x4 : Int32) (hpre : pr_M_isRevoked a_t a_b (y_thrown, y_ring, y_off, y_fuse, y_steps, y_many, y_log, y_before, y_home, y_base, y_now, y_kinds, y_blocks, y_runs, y_revokes, y_from, y_uses, y_revoked, y_had, y_data)) (hinv : iv_M_isRevoked_5 a_t a_b (y_thrown, y_ring, y_off, y_fuse, y_steps, y_many, y_log, y_before, y_home, y_base, y_now, y_kinds, y_blocks, y_runs, y_revokes, y_from, y_uses, y_revoked, y_had, y_data) x3 x4 (y_thrown, y_ring, y_off, y_fuse, y_steps, y_many, y_log, y_before, y_home, y_base, y_now, y_kinds, y_blocks, y_runs, y_revokes, y_from, y_uses, y_revoked, y_had, y_data)) (c_11 : y_log ≤ x4) : po_M_isRevoked a_t a_b (y_thrown, y_ring, y_off, y_fuse, y_steps, y_many, y_log, y_before, y_home, y_base, y_now, y_kinds, y_blocks, y_runs, y_revokes, y_from, y_uses, y_revoked, y_had, y_data) x3 := by
  intro g a2 q2 hg hl ho ea ha2 eb hq2
  obtain ⟨n, i, a, q, c, hn, hlg, rfl, hi, rfl, ha, rfl, hq, rfl, h⟩ := hinv
  have el : y_log = nI n := hlg
  rw [el] at c_11
  have h3 : n ≤ i := (nI_leI (by omega) (by omega)).mp c_11
  obtain ⟨h1, h2⟩ := h g hg hl ho
  have e1 := (nI_eq (by omega) (by omega)).mp ea
  have e2 := (nI_eq (by omega) (by omega)).mp eb
  subst e1 e2
  rw [show n - i = 0 by omega] at h2
  have e3 : rvd g.2.2.1 q i 0 = false := rfl
  rw [e3, Bool.or_false] at h2
  rw [h1, h2]
theorem vc_M_isRevoked_46_1 (a_t : Int32) (a_b : Int32) (y_thrown : Int32) (y_ring : Int32) (y_off : Int32) (y_fuse : Int32) (y_steps : Int32) (y_many : Int32) (y_log : Int32) (y_before : Int32) (y_home : Nat → Int32) (y_base : Nat → Int32) (y_now : Nat → Int32) (y_kinds : Nat → Int32) (y_blocks : Nat → Int32) (y_runs : Nat → Int32) (y_revokes : Nat → Int32) (y_from : Nat → Int32) (y_uses : Nat → Int32) (y_revoked : Nat → Int32) (y_had : Nat → Int32) (y_data : Nat → Int32) (x3 : Int32) (x4 : Int32) (hpre : pr_M_isRevoked a_t a_b (y_thrown, y_ring, y_off, y_fuse, y_steps, y_many, y_log, y_before, y_home, y_base, y_now, y_kinds, y_blocks, y_runs, y_revokes, y_from, y_uses, y_revoked, y_had, y_data)) (hinv : iv_M_isRevoked_5 a_t a_b (y_thrown, y_ring, y_off, y_fuse, y_steps, y_many, y_log, y_before, y_home, y_base, y_now, y_kinds, y_blocks, y_runs, y_revokes, y_from, y_uses, y_revoked, y_had, y_data) x3 x4 (y_thrown, y_ring, y_off, y_fuse, y_steps, y_many, y_log, y_before, y_home, y_base, y_now, y_kinds, y_blocks, y_runs, y_revokes, y_from, y_uses, y_revoked, y_had, y_data)) (c_11 : y_log ≤ x4) : narrow .boolean (.int x3) = .int x3 := by
  obtain ⟨n, i, a, q, c, hn, hlg, rfl, hi, rfl, ha, rfl, hq, rfl, h⟩ := hinv
  have el : y_log = nI n := hlg
  exact nar_b2i _
theorem vc_M_isRevoked_42_0 (a_t : Int32) (a_b : Int32) (y_thrown : Int32) (y_ring : Int32) (y_off : Int32) (y_fuse : Int32) (y_steps : Int32) (y_many : Int32) (y_log : Int32) (y_before : Int32) (y_home : Nat → Int32) (y_base : Nat → Int32) (y_now : Nat → Int32) (y_kinds : Nat → Int32) (y_blocks : Nat → Int32) (y_runs : Nat → Int32) (y_revokes : Nat → Int32) (y_from : Nat → Int32) (y_uses : Nat → Int32) (y_revoked : Nat → Int32) (y_had : Nat → Int32) (y_data : Nat → Int32) (x3 : Int32) (x4 : Int32) (v_39 : Int32) (hpre : pr_M_isRevoked a_t a_b (y_thrown, y_ring, y_off, y_fuse, y_steps, y_many, y_log, y_before, y_home, y_base, y_now, y_kinds, y_blocks, y_runs, y_revokes, y_from, y_uses, y_revoked, y_had, y_data)) (hinv : iv_M_isRevoked_5 a_t a_b (y_thrown, y_ring, y_off, y_fuse, y_steps, y_many, y_log, y_before, y_home, y_base, y_now, y_kinds, y_blocks, y_runs, y_revokes, y_from, y_uses, y_revoked, y_had, y_data) x3 x4 (y_thrown, y_ring, y_off, y_fuse, y_steps, y_many, y_log, y_before, y_home, y_base, y_now, y_kinds, y_blocks, y_runs, y_revokes, y_from, y_uses, y_revoked, y_had, y_data)) (c_11 : ¬ y_log ≤ x4) (c_15 : ¬ x3 = 0) (e_39 : v_39 = x4 + 1) : iv_M_isRevoked_5 a_t a_b (y_thrown, y_ring, y_off, y_fuse, y_steps, y_many, y_log, y_before, y_home, y_base, y_now, y_kinds, y_blocks, y_runs, y_revokes, y_from, y_uses, y_revoked, y_had, y_data) 1 v_39 (y_thrown, y_ring, y_off, y_fuse, y_steps, y_many, y_log, y_before, y_home, y_base, y_now, y_kinds, y_blocks, y_runs, y_revokes, y_from, y_uses, y_revoked, y_had, y_data) ∧ mu_M_isRevoked_5 a_t a_b (y_thrown, y_ring, y_off, y_fuse, y_steps, y_many, y_log, y_before, y_home, y_base, y_now, y_kinds, y_blocks, y_runs, y_revokes, y_from, y_uses, y_revoked, y_had, y_data) 1 v_39 (y_thrown, y_ring, y_off, y_fuse, y_steps, y_many, y_log, y_before, y_home, y_base, y_now, y_kinds, y_blocks, y_runs, y_revokes, y_from, y_uses, y_revoked, y_had, y_data) < mu_M_isRevoked_5 a_t a_b (y_thrown, y_ring, y_off, y_fuse, y_steps, y_many, y_log, y_before, y_home, y_base, y_now, y_kinds, y_blocks, y_runs, y_revokes, y_from, y_uses, y_revoked, y_had, y_data) x3 x4 (y_thrown, y_ring, y_off, y_fuse, y_steps, y_many, y_log, y_before, y_home, y_base, y_now, y_kinds, y_blocks, y_runs, y_revokes, y_from, y_uses, y_revoked, y_had, y_data) := by
  obtain ⟨n, i, a, q, c, hn, hlg, rfl, hi, rfl, ha, rfl, hq, rfl, h⟩ := hinv
  have el : y_log = nI n := hlg
  have h3 : ¬ n ≤ i := fun z => c_11 (by rw [el]; exact nI_le z (by omega))
  have hc := b2i_n0.mp c_15
  subst hc
  refine ⟨⟨n, i + 1, a, q, true, hn, hlg, by rw [e_39]; exact nI_1 i, by omega, rfl, ha, rfl, hq, rfl, fun g hg hl ho => ?_⟩, ?_⟩
  · obtain ⟨h1, h2⟩ := h g hg hl ho
    have es : rvd g.2.2.1 q i (n - i) = (bitt (g.2.2.1 i) q || rvd g.2.2.1 q (i + 1) (n - (i + 1))) := by
      rw [show n - i = (n - (i + 1)) + 1 by omega]; rfl
    refine ⟨h1, ?_⟩
    rw [h2, es]
    rfl
  · show y_log.toNatClampNeg - v_39.toNatClampNeg < y_log.toNatClampNeg - (nI i).toNatClampNeg
    rw [e_39, nI_1, el, nI_clamp (n := n) (by omega), nI_clamp (n := i + 1) (by omega), nI_clamp (n := i) (by omega)]
    omega
theorem vc_M_isRevoked_29_0 (a_t : Int32) (a_b : Int32) (y_thrown : Int32) (y_ring : Int32) (y_off : Int32) (y_fuse : Int32) (y_steps : Int32) (y_many : Int32) (y_log : Int32) (y_before : Int32) (y_home : Nat → Int32) (y_base : Nat → Int32) (y_now : Nat → Int32) (y_kinds : Nat → Int32) (y_blocks : Nat → Int32) (y_runs : Nat → Int32) (y_revokes : Nat → Int32) (y_from : Nat → Int32) (y_uses : Nat → Int32) (y_revoked : Nat → Int32) (y_had : Nat → Int32) (y_data : Nat → Int32) (x3 : Int32) (x4 : Int32) (hpre : pr_M_isRevoked a_t a_b (y_thrown, y_ring, y_off, y_fuse, y_steps, y_many, y_log, y_before, y_home, y_base, y_now, y_kinds, y_blocks, y_runs, y_revokes, y_from, y_uses, y_revoked, y_had, y_data)) (hinv : iv_M_isRevoked_5 a_t a_b (y_thrown, y_ring, y_off, y_fuse, y_steps, y_many, y_log, y_before, y_home, y_base, y_now, y_kinds, y_blocks, y_runs, y_revokes, y_from, y_uses, y_revoked, y_had, y_data) x3 x4 (y_thrown, y_ring, y_off, y_fuse, y_steps, y_many, y_log, y_before, y_home, y_base, y_now, y_kinds, y_blocks, y_runs, y_revokes, y_from, y_uses, y_revoked, y_had, y_data)) (c_11 : ¬ y_log ≤ x4) (c_15 : x3 = 0) : vp_in ((64 * x4) + a_b) 6464 := by
  obtain ⟨n, i, a, q, c, hn, hlg, rfl, hi, rfl, ha, rfl, hq, rfl, h⟩ := hinv
  have el : y_log = nI n := hlg
  have h3 : ¬ n ≤ i := fun z => c_11 (by rw [el]; exact nI_le z (by omega))
  have eix : (64 : Int32) * nI i + nI q = nI (64 * i + q) := by rw [show (64 : Int32) * nI i = nI (64 * i) from pk_mul 64 i, nI_add]
  rw [eix]
  exact vp_in_nI (by omega) (by decide)
theorem vc_M_isRevoked_42_1 (a_t : Int32) (a_b : Int32) (y_thrown : Int32) (y_ring : Int32) (y_off : Int32) (y_fuse : Int32) (y_steps : Int32) (y_many : Int32) (y_log : Int32) (y_before : Int32) (y_home : Nat → Int32) (y_base : Nat → Int32) (y_now : Nat → Int32) (y_kinds : Nat → Int32) (y_blocks : Nat → Int32) (y_runs : Nat → Int32) (y_revokes : Nat → Int32) (y_from : Nat → Int32) (y_uses : Nat → Int32) (y_revoked : Nat → Int32) (y_had : Nat → Int32) (y_data : Nat → Int32) (x3 : Int32) (x4 : Int32) (v_29 : Int32) (v_39 : Int32) (hpre : pr_M_isRevoked a_t a_b (y_thrown, y_ring, y_off, y_fuse, y_steps, y_many, y_log, y_before, y_home, y_base, y_now, y_kinds, y_blocks, y_runs, y_revokes, y_from, y_uses, y_revoked, y_had, y_data)) (hinv : iv_M_isRevoked_5 a_t a_b (y_thrown, y_ring, y_off, y_fuse, y_steps, y_many, y_log, y_before, y_home, y_base, y_now, y_kinds, y_blocks, y_runs, y_revokes, y_from, y_uses, y_revoked, y_had, y_data) x3 x4 (y_thrown, y_ring, y_off, y_fuse, y_steps, y_many, y_log, y_before, y_home, y_base, y_now, y_kinds, y_blocks, y_runs, y_revokes, y_from, y_uses, y_revoked, y_had, y_data)) (c_11 : ¬ y_log ≤ x4) (c_15 : x3 = 0) (e_29 : v_29 = (y_revoked (((64 * x4) + a_b)).toNatClampNeg)) (c_30 : v_29 = 0) (e_39 : v_39 = x4 + 1) : iv_M_isRevoked_5 a_t a_b (y_thrown, y_ring, y_off, y_fuse, y_steps, y_many, y_log, y_before, y_home, y_base, y_now, y_kinds, y_blocks, y_runs, y_revokes, y_from, y_uses, y_revoked, y_had, y_data) 0 v_39 (y_thrown, y_ring, y_off, y_fuse, y_steps, y_many, y_log, y_before, y_home, y_base, y_now, y_kinds, y_blocks, y_runs, y_revokes, y_from, y_uses, y_revoked, y_had, y_data) ∧ mu_M_isRevoked_5 a_t a_b (y_thrown, y_ring, y_off, y_fuse, y_steps, y_many, y_log, y_before, y_home, y_base, y_now, y_kinds, y_blocks, y_runs, y_revokes, y_from, y_uses, y_revoked, y_had, y_data) 0 v_39 (y_thrown, y_ring, y_off, y_fuse, y_steps, y_many, y_log, y_before, y_home, y_base, y_now, y_kinds, y_blocks, y_runs, y_revokes, y_from, y_uses, y_revoked, y_had, y_data) < mu_M_isRevoked_5 a_t a_b (y_thrown, y_ring, y_off, y_fuse, y_steps, y_many, y_log, y_before, y_home, y_base, y_now, y_kinds, y_blocks, y_runs, y_revokes, y_from, y_uses, y_revoked, y_had, y_data) x3 x4 (y_thrown, y_ring, y_off, y_fuse, y_steps, y_many, y_log, y_before, y_home, y_base, y_now, y_kinds, y_blocks, y_runs, y_revokes, y_from, y_uses, y_revoked, y_had, y_data) := by
  obtain ⟨n, i, a, q, c, hn, hlg, rfl, hi, rfl, ha, rfl, hq, rfl, h⟩ := hinv
  have el : y_log = nI n := hlg
  have h3 : ¬ n ≤ i := fun z => c_11 (by rw [el]; exact nI_le z (by omega))
  have eix : (64 : Int32) * nI i + nI q = nI (64 * i + q) := by rw [show (64 : Int32) * nI i = nI (64 * i) from pk_mul 64 i, nI_add]
  have hc := b2i_0.mp c_15
  subst hc
  rw [eix, nI_clamp (by omega)] at e_29
  refine ⟨⟨n, i + 1, a, q, false, hn, hlg, by rw [e_39]; exact nI_1 i, by omega, rfl, ha, rfl, hq, rfl, fun g hg hl ho => ?_⟩, ?_⟩
  · obtain ⟨h1, h2⟩ := h g hg hl ho
    have r := ((hg.2.1 i (by omega)).2 q hq).1
    rw [r] at e_29
    have hb : bitt (g.2.2.1 i) q = false := b2i_0.mp (e_29.symm.trans c_30)
    have es : rvd g.2.2.1 q i (n - i) = (bitt (g.2.2.1 i) q || rvd g.2.2.1 q (i + 1) (n - (i + 1))) := by
      rw [show n - i = (n - (i + 1)) + 1 by omega]; rfl
    refine ⟨h1, ?_⟩
    rw [h2, es]
    rw [hb]
    rfl
  · show y_log.toNatClampNeg - v_39.toNatClampNeg < y_log.toNatClampNeg - (nI i).toNatClampNeg
    rw [e_39, nI_1, el, nI_clamp (n := n) (by omega), nI_clamp (n := i + 1) (by omega), nI_clamp (n := i) (by omega)]
    omega
theorem vc_M_isRevoked_42_2 (a_t : Int32) (a_b : Int32) (y_thrown : Int32) (y_ring : Int32) (y_off : Int32) (y_fuse : Int32) (y_steps : Int32) (y_many : Int32) (y_log : Int32) (y_before : Int32) (y_home : Nat → Int32) (y_base : Nat → Int32) (y_now : Nat → Int32) (y_kinds : Nat → Int32) (y_blocks : Nat → Int32) (y_runs : Nat → Int32) (y_revokes : Nat → Int32) (y_from : Nat → Int32) (y_uses : Nat → Int32) (y_revoked : Nat → Int32) (y_had : Nat → Int32) (y_data : Nat → Int32) (x3 : Int32) (x4 : Int32) (v_29 : Int32) (v_39 : Int32) (hpre : pr_M_isRevoked a_t a_b (y_thrown, y_ring, y_off, y_fuse, y_steps, y_many, y_log, y_before, y_home, y_base, y_now, y_kinds, y_blocks, y_runs, y_revokes, y_from, y_uses, y_revoked, y_had, y_data)) (hinv : iv_M_isRevoked_5 a_t a_b (y_thrown, y_ring, y_off, y_fuse, y_steps, y_many, y_log, y_before, y_home, y_base, y_now, y_kinds, y_blocks, y_runs, y_revokes, y_from, y_uses, y_revoked, y_had, y_data) x3 x4 (y_thrown, y_ring, y_off, y_fuse, y_steps, y_many, y_log, y_before, y_home, y_base, y_now, y_kinds, y_blocks, y_runs, y_revokes, y_from, y_uses, y_revoked, y_had, y_data)) (c_11 : ¬ y_log ≤ x4) (c_15 : x3 = 0) (e_29 : v_29 = (y_revoked (((64 * x4) + a_b)).toNatClampNeg)) (c_30 : ¬ v_29 = 0) (e_39 : v_39 = x4 + 1) : iv_M_isRevoked_5 a_t a_b (y_thrown, y_ring, y_off, y_fuse, y_steps, y_many, y_log, y_before, y_home, y_base, y_now, y_kinds, y_blocks, y_runs, y_revokes, y_from, y_uses, y_revoked, y_had, y_data) 1 v_39 (y_thrown, y_ring, y_off, y_fuse, y_steps, y_many, y_log, y_before, y_home, y_base, y_now, y_kinds, y_blocks, y_runs, y_revokes, y_from, y_uses, y_revoked, y_had, y_data) ∧ mu_M_isRevoked_5 a_t a_b (y_thrown, y_ring, y_off, y_fuse, y_steps, y_many, y_log, y_before, y_home, y_base, y_now, y_kinds, y_blocks, y_runs, y_revokes, y_from, y_uses, y_revoked, y_had, y_data) 1 v_39 (y_thrown, y_ring, y_off, y_fuse, y_steps, y_many, y_log, y_before, y_home, y_base, y_now, y_kinds, y_blocks, y_runs, y_revokes, y_from, y_uses, y_revoked, y_had, y_data) < mu_M_isRevoked_5 a_t a_b (y_thrown, y_ring, y_off, y_fuse, y_steps, y_many, y_log, y_before, y_home, y_base, y_now, y_kinds, y_blocks, y_runs, y_revokes, y_from, y_uses, y_revoked, y_had, y_data) x3 x4 (y_thrown, y_ring, y_off, y_fuse, y_steps, y_many, y_log, y_before, y_home, y_base, y_now, y_kinds, y_blocks, y_runs, y_revokes, y_from, y_uses, y_revoked, y_had, y_data) := by
  obtain ⟨n, i, a, q, c, hn, hlg, rfl, hi, rfl, ha, rfl, hq, rfl, h⟩ := hinv
  have el : y_log = nI n := hlg
  have h3 : ¬ n ≤ i := fun z => c_11 (by rw [el]; exact nI_le z (by omega))
  have eix : (64 : Int32) * nI i + nI q = nI (64 * i + q) := by rw [show (64 : Int32) * nI i = nI (64 * i) from pk_mul 64 i, nI_add]
  have hc := b2i_0.mp c_15
  subst hc
  rw [eix, nI_clamp (by omega)] at e_29
  refine ⟨⟨n, i + 1, a, q, true, hn, hlg, by rw [e_39]; exact nI_1 i, by omega, rfl, ha, rfl, hq, rfl, fun g hg hl ho => ?_⟩, ?_⟩
  · obtain ⟨h1, h2⟩ := h g hg hl ho
    have r := ((hg.2.1 i (by omega)).2 q hq).1
    rw [r] at e_29
    have hb : bitt (g.2.2.1 i) q = true := b2i_n0.mp (fun z => c_30 (e_29.trans z))
    have es : rvd g.2.2.1 q i (n - i) = (bitt (g.2.2.1 i) q || rvd g.2.2.1 q (i + 1) (n - (i + 1))) := by
      rw [show n - i = (n - (i + 1)) + 1 by omega]; rfl
    refine ⟨h1, ?_⟩
    rw [h2, es]
    rw [hb]
    rfl
  · show y_log.toNatClampNeg - v_39.toNatClampNeg < y_log.toNatClampNeg - (nI i).toNatClampNeg
    rw [e_39, nI_1, el, nI_clamp (n := n) (by omega), nI_clamp (n := i + 1) (by omega), nI_clamp (n := i) (by omega)]
    omega
theorem vc_M_isRevoked_3_0 (a_t : Int32) (a_b : Int32) (y_thrown : Int32) (y_ring : Int32) (y_off : Int32) (y_fuse : Int32) (y_steps : Int32) (y_many : Int32) (y_log : Int32) (y_before : Int32) (y_home : Nat → Int32) (y_base : Nat → Int32) (y_now : Nat → Int32) (y_kinds : Nat → Int32) (y_blocks : Nat → Int32) (y_runs : Nat → Int32) (y_revokes : Nat → Int32) (y_from : Nat → Int32) (y_uses : Nat → Int32) (y_revoked : Nat → Int32) (y_had : Nat → Int32) (y_data : Nat → Int32) (hpre : pr_M_isRevoked a_t a_b (y_thrown, y_ring, y_off, y_fuse, y_steps, y_many, y_log, y_before, y_home, y_base, y_now, y_kinds, y_blocks, y_runs, y_revokes, y_from, y_uses, y_revoked, y_had, y_data)) : iv_M_isRevoked_5 a_t a_b (y_thrown, y_ring, y_off, y_fuse, y_steps, y_many, y_log, y_before, y_home, y_base, y_now, y_kinds, y_blocks, y_runs, y_revokes, y_from, y_uses, y_revoked, y_had, y_data) 0 a_t (y_thrown, y_ring, y_off, y_fuse, y_steps, y_many, y_log, y_before, y_home, y_base, y_now, y_kinds, y_blocks, y_runs, y_revokes, y_from, y_uses, y_revoked, y_had, y_data) ∧ True := by
  obtain ⟨g0, i, q, hg0, hl0, ho0, rfl, hi, rfl, hq⟩ := hpre
  have hn := (okG_n (n := g0.1) ho0).1
  exact ⟨⟨g0.1, i, i, q, false, hn, hl0, rfl, by omega, rfl, hi, rfl, hq, rfl, fun g hg hl ho => ⟨lg_n hl ho hl0 ho0, by rw [Bool.false_or]⟩⟩, trivial⟩
