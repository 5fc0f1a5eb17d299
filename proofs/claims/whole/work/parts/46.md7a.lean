def yHome : MDt → Nat → Int32
  | (_, _, _, _, _, _, _, _, home, _, _, _, _, _, _, _, _, _, _, _) => home
def sH (h : Nat → Int32) : MDt → MDt
  | (th, rg, off, fuse, steps, many, log, before, home, base, nw, kinds, blocks, runs, revokes, frm, uses, revoked, had, data) => (th, rg, off, fuse, steps, many, log, before, h, base, nw, kinds, blocks, runs, revokes, frm, uses, revoked, had, data)
def iv_M_direct_84 (b v : Int32) (y : MDt) (x3 : Int32) (y2 : MDt) : Prop := ∃ q k : Nat, q < 64 ∧ b = nI q ∧ ¬ v < 0 ∧ ¬ 255 < v ∧ k ≤ 256 ∧ x3 = nI k ∧ yHome y2 = fillF (yHome y) (256 * q) k v.toInt8.toInt32 ∧ yNow y2 = fillF (yNow y) (256 * q) k v.toInt8.toInt32 ∧ yOff y = 0 ∧ ∀ (ring : Nat) (run rev : Int64) (now : Nat → Int32) (d : Dk) (g : Lg), RM (ring, run, rev, now, d, g) y → SW (ring, run, rev, now, d, g) → (¬ bitt ((run ||| rev) ||| sLying g) q = true) ∧ (sBar d).1 = true ∧ (sMark q (sBar d).2).1 = true ∧ RMs (sMark q (sBar d).2).2 run rev (sH (yHome y) y2)
def mu_M_direct_84 (_ _ : Int32) (_ : MDt) (x3 : Int32) (_ : MDt) : Nat := 256 - x3.toNatClampNeg
theorem fit_fill {f : Nat → Int32} (h : sb_Fit f) (a n : Nat) (v : Int32) : sb_Fit (fillF f a n v.toInt8.toInt32) := by
  intro j
  unfold fillF
  split
  · exact pk_fb _
  · exact h j
theorem cpy_fill (f g : Nat → Int32) (a n : Nat) (v : Int32) : va_cpy (fillF f a n v) g a a n = fillF g a n v := by
  funext j
  by_cases q : a ≤ j ∧ j < a + n
  · rw [pk_cpy_in q.1 q.2]
    unfold fillF
    rw [if_pos (by omega), if_pos q]
  · rw [pk_cpy_out (by omega)]
    unfold fillF
    rw [if_neg q]
theorem bar_off {d : Dk} (h : (sBar d).1 = false) : (sBar d).2.2.1 = false := by
  obtain ⟨u, on, f, st, ba, ho⟩ := d
  cases z : (sStep (u, on, f, st, ba, ho)).1
  · rw [bar_f z, (st_f z).2]
  · rw [bar_t z] at h; cases h
theorem ring_off {k : Nat} {d : Dk} (h : (sRing k d).1 = false) : (sRing k d).2.2.1 = false := by
  obtain ⟨u, on, f, st, ba, ho⟩ := d
  cases z : (sStep (u, on, f, st, ba, ho)).1
  · rw [rg_f z, (st_f z).2]
  · rw [rg_t z] at h; cases h
theorem home_off {b sp : Nat} {f : Nat → Int32} {d : Dk} (h : (sHome b f sp d).1 = false) : (sHome b f sp d).2.2.1 = false ∧ (sHome b f sp d).2.1 = d.1 := by
  obtain ⟨u, on, fu, st, ba, ho⟩ := d
  cases z : (sStep (u, on, fu, st, ba, ho)).1
  · rw [hm_f z, (st_f z).2]; exact ⟨rfl, rfl⟩
  · rw [hm_t z] at h; cases h
theorem bar_on {d : Dk} (h : (sBar d).1 = true) : (sBar d).2.2.1 = d.2.1 := by
  obtain ⟨u, on, f, st, ba, ho⟩ := d
  cases z : (sStep (u, on, f, st, ba, ho)).1
  · rw [bar_f z] at h; cases h
  · rw [bar_t z]
theorem ring_on {k : Nat} {d : Dk} (h : (sRing k d).1 = true) : (sRing k d).2.2.1 = d.2.1 := by
  obtain ⟨u, on, f, st, ba, ho⟩ := d
  cases z : (sStep (u, on, f, st, ba, ho)).1
  · rw [rg_f z] at h; cases h
  · rw [rg_t z]
theorem home_on {b sp : Nat} {f : Nat → Int32} {d : Dk} (h : (sHome b f sp d).1 = true) : (sHome b f sp d).2.2.1 = d.2.1 := by
  obtain ⟨u, on, fu, st, ba, ho⟩ := d
  cases z : (sStep (u, on, fu, st, ba, ho)).1
  · rw [hm_f z] at h; cases h
  · rw [hm_t z]
theorem RMo_off {ring : Nat} {on : Bool} {now : Nat → Int32} {y : MDt} {on2 : Bool} {now2 : Nat → Int32} (h : RMo ring on now y) (e : on2 = false) (t : ∀ j, 16384 ≤ j → now2 j = now j) : RMo ring on2 now2 y := by
  obtain ⟨a1, a2, a3, a4, a5, a6, a7, a8, a9, a10, a11, r⟩ := y
  exact ⟨h.1, fun z => absurd (e.symm.trans z) (by decide), fun j hj => (h.2.2 j hj).trans (t j hj).symm⟩
theorem fill_tail {f : Nat → Int32} {q : Nat} {v : Int32} (hq : q < 64) : ∀ j, 16384 ≤ j → fillF f (q * 256) 256 v j = f j := by
  intro j hj
  unfold fillF
  rw [if_neg (by omega)]
theorem dir_free {run rev : Int64} {g : Lg} {q : Nat} {v1 v2 r : Int32} (o : okG g) (hq : q < 64) (e1 : v1 = b2i (bitt run q)) (c1 : v1 = 0) (e2 : v2 = b2i (bitt rev q)) (c2 : v2 = 0) (w : r = sTold g q) (c : r < 0) : ¬ bitt ((run ||| rev) ||| sLying g) q = true := by
  rw [bt_or, bt_or, b2i_0.mp (e1.symm.trans c1), b2i_0.mp (e2.symm.trans c2), told_ne o hq (by rw [← w]; exact c)]
  decide

theorem vc_M_direct_128_0 (a_b : Int32) (a_v : Int32) (y_thrown : Int32) (y_ring : Int32) (y_off : Int32) (y_fuse : Int32) (y_steps : Int32) (y_many : Int32) (y_log : Int32) (y_before : Int32) (y_home : Nat → Int32) (y_base : Nat → Int32) (y_now : Nat → Int32) (y_kinds : Nat → Int32) (y_blocks : Nat → Int32) (y_runs : Nat → Int32) (y_revokes : Nat → Int32) (y_from : Nat → Int32) (y_uses : Nat → Int32) (y_revoked : Nat → Int32) (y_had : Nat → Int32) (y_data : Nat → Int32) (x3 : Int32) (y_thrown_i : Int32) (y_off_i : Int32) (y_fuse_i : Int32) (y_steps_i : Int32) (y_many_i : Int32) (y_home_i : Nat → Int32) (y_base_i : Nat → Int32) (y_now_i : Nat → Int32) (y_kinds_i : Nat → Int32) (y_blocks_i : Nat → Int32) (y_runs_i : Nat → Int32) (y_revokes_i : Nat → Int32) (hpre : pr_M_direct a_b a_v (y_thrown, y_ring, y_off, y_fuse, y_steps, y_many, y_log, y_before, y_home, y_base, y_now, y_kinds, y_blocks, y_runs, y_revokes, y_from, y_uses, y_revoked, y_had, y_data)) (hinv : iv_M_direct_84 a_b a_v (y_thrown, y_ring, y_off, y_fuse, y_steps, y_many, y_log, y_before, y_home, y_base, y_now, y_kinds, y_blocks, y_runs, y_revokes, y_from, y_uses, y_revoked, y_had, y_data) x3 (y_thrown_i, y_ring, y_off_i, y_fuse_i, y_steps_i, y_many_i, y_log, y_before, y_home_i, y_base_i, y_now_i, y_kinds_i, y_blocks_i, y_runs_i, y_revokes_i, y_from, y_uses, y_revoked, y_had, y_data)) (c_88 : 256 ≤ x3) : pr_M_step 4 0 (y_thrown_i, y_ring, y_off_i, y_fuse_i, y_steps_i, y_many_i, y_log, y_before, y_home_i, y_base_i, y_now_i, y_kinds_i, y_blocks_i, y_runs_i, y_revokes_i, y_from, y_uses, y_revoked, y_had, y_data) := by
  obtain ⟨q, k, hq, rfl, v1, v2, hk, rfl, i1, i2, c_9, h⟩ := hinv
  have i1 : y_home_i = fillF y_home (256 * q) k a_v.toInt8.toInt32 := i1
  have i2 : y_now_i = fillF y_now (256 * q) k a_v.toInt8.toInt32 := i2
  have hk2 : 256 ≤ k := (nI_leI (a := 256) (by decide) (by omega)).mp c_88
  have ek : k = 256 := by omega
  subst ek
  obtain ⟨σ, hr, hsw⟩ := hpre
  obtain ⟨ring, run, rev, now, d, g⟩ := σ
  obtain ⟨o, a1, a2, a3, a4, a5, a6, a7, a8, a9, a10, a11, a12, a13, a14⟩ := m_al hr hsw c_9
  obtain ⟨fr, z1, z2, d2⟩ := h ring run rev now d g hr hsw
  have hfit : sb_Fit (fillF now (q * 256) 256 a_v.toInt8.toInt32) := fit_fill a11 _ _ _
  obtain ⟨m1, m2, m3⟩ := mark_home (b := q) (sp := q * 256) (f := fillF now (q * 256) 256 a_v.toInt8.toInt32) (d := (sBar d).2)
  have hh : hs (sBar d).2.1 := by rw [bar_nil z1]; exact hs_nil
  obtain ⟨k1, k2⟩ := DW_home (b := q) (sp := q * 256) (DW_bar a7) hh hq hfit
  have kl := hs_len64 k2
  obtain ⟨r1, r2⟩ := RMs_home (h2 := y_home_i) d2
  have r1 : y_home = (sMark q (sBar d).2).2.2.2.2.2.2 := r1
  have ed : (sHome q (fillF now (q * 256) 256 a_v.toInt8.toInt32) (q * 256) (sBar d).2).2 = ((sMark q (sBar d).2).2.1, (sMark q (sBar d).2).2.2.1, (sMark q (sBar d).2).2.2.2.1, (sMark q (sBar d).2).2.2.2.2.1, (sMark q (sBar d).2).2.2.2.2.2.1, y_home_i) := by
    rw [m3 z2, Nat.mul_comm 256 q, cpy_fill, ← r1, Nat.mul_comm q 256, ← i1]
  have r3 := r2
  rw [← ed] at r3
  exact ⟨_, run, rev, 4, 0, r3, k1, by omega, rfl, by decide, rfl, fun z => (nomatch z)⟩
theorem vc_M_direct_139_0 (a_b : Int32) (a_v : Int32) (y_thrown : Int32) (y_ring : Int32) (y_off : Int32) (y_fuse : Int32) (y_steps : Int32) (y_many : Int32) (y_log : Int32) (y_before : Int32) (y_home : Nat → Int32) (y_base : Nat → Int32) (y_now : Nat → Int32) (y_kinds : Nat → Int32) (y_blocks : Nat → Int32) (y_runs : Nat → Int32) (y_revokes : Nat → Int32) (y_from : Nat → Int32) (y_uses : Nat → Int32) (y_revoked : Nat → Int32) (y_had : Nat → Int32) (y_data : Nat → Int32) (x3 : Int32) (y_thrown_i : Int32) (y_off_i : Int32) (y_fuse_i : Int32) (y_steps_i : Int32) (y_many_i : Int32) (y_home_i : Nat → Int32) (y_base_i : Nat → Int32) (y_now_i : Nat → Int32) (y_kinds_i : Nat → Int32) (y_blocks_i : Nat → Int32) (y_runs_i : Nat → Int32) (y_revokes_i : Nat → Int32) (r_128 : Int32) (y_off_128 : Int32) (y_fuse_128 : Int32) (y_steps_128 : Int32) (y_many_128 : Int32) (y_base_128 : Nat → Int32) (y_kinds_128 : Nat → Int32) (y_blocks_128 : Nat → Int32) (y_runs_128 : Nat → Int32) (y_revokes_128 : Nat → Int32) (hpre : pr_M_direct a_b a_v (y_thrown, y_ring, y_off, y_fuse, y_steps, y_many, y_log, y_before, y_home, y_base, y_now, y_kinds, y_blocks, y_runs, y_revokes, y_from, y_uses, y_revoked, y_had, y_data)) (hinv : iv_M_direct_84 a_b a_v (y_thrown, y_ring, y_off, y_fuse, y_steps, y_many, y_log, y_before, y_home, y_base, y_now, y_kinds, y_blocks, y_runs, y_revokes, y_from, y_uses, y_revoked, y_had, y_data) x3 (y_thrown_i, y_ring, y_off_i, y_fuse_i, y_steps_i, y_many_i, y_log, y_before, y_home_i, y_base_i, y_now_i, y_kinds_i, y_blocks_i, y_runs_i, y_revokes_i, y_from, y_uses, y_revoked, y_had, y_data)) (c_88 : 256 ≤ x3) (w_128 : po_M_step 4 0 (y_thrown_i, y_ring, y_off_i, y_fuse_i, y_steps_i, y_many_i, y_log, y_before, y_home_i, y_base_i, y_now_i, y_kinds_i, y_blocks_i, y_runs_i, y_revokes_i, y_from, y_uses, y_revoked, y_had, y_data) r_128 (y_thrown_i, y_ring, y_off_128, y_fuse_128, y_steps_128, y_many_128, y_log, y_before, y_home_i, y_base_128, y_now_i, y_kinds_128, y_blocks_128, y_runs_128, y_revokes_128, y_from, y_uses, y_revoked, y_had, y_data)) (c_131 : r_128 = 0) : po_M_direct a_b a_v (y_thrown, y_ring, y_off, y_fuse, y_steps, y_many, y_log, y_before, y_home, y_base, y_now, y_kinds, y_blocks, y_runs, y_revokes, y_from, y_uses, y_revoked, y_had, y_data) (-1) (y_thrown_i, y_ring, y_off_128, y_fuse_128, y_steps_128, y_many_128, y_log, y_before, y_home_i, y_base_128, y_now_i, y_kinds_128, y_blocks_128, y_runs_128, y_revokes_128, y_from, y_uses, y_revoked, y_had, y_data) := by
  intro σ hr hsw
  obtain ⟨ring, run, rev, now, d, g⟩ := σ
  obtain ⟨q, k, hq, rfl, v1, v2, hk, rfl, i1, i2, c_9, h⟩ := hinv
  have i1 : y_home_i = fillF y_home (256 * q) k a_v.toInt8.toInt32 := i1
  have i2 : y_now_i = fillF y_now (256 * q) k a_v.toInt8.toInt32 := i2
  have hk2 : 256 ≤ k := (nI_leI (a := 256) (by decide) (by omega)).mp c_88
  have ek : k = 256 := by omega
  subst ek
  obtain ⟨o, a1, a2, a3, a4, a5, a6, a7, a8, a9, a10, a11, a12, a13, a14⟩ := m_al hr hsw c_9
  obtain ⟨fr, z1, z2, d2⟩ := h ring run rev now d g hr hsw
  have hfit : sb_Fit (fillF now (q * 256) 256 a_v.toInt8.toInt32) := fit_fill a11 _ _ _
  obtain ⟨m1, m2, m3⟩ := mark_home (b := q) (sp := q * 256) (f := fillF now (q * 256) 256 a_v.toInt8.toInt32) (d := (sBar d).2)
  have hh : hs (sBar d).2.1 := by rw [bar_nil z1]; exact hs_nil
  obtain ⟨k1, k2⟩ := DW_home (b := q) (sp := q * 256) (DW_bar a7) hh hq hfit
  have kl := hs_len64 k2
  obtain ⟨r1, r2⟩ := RMs_home (h2 := y_home_i) d2
  have r1 : y_home = (sMark q (sBar d).2).2.2.2.2.2.2 := r1
  have ed : (sHome q (fillF now (q * 256) 256 a_v.toInt8.toInt32) (q * 256) (sBar d).2).2 = ((sMark q (sBar d).2).2.1, (sMark q (sBar d).2).2.2.1, (sMark q (sBar d).2).2.2.2.1, (sMark q (sBar d).2).2.2.2.2.1, (sMark q (sBar d).2).2.2.2.2.2.1, y_home_i) := by
    rw [m3 z2, Nat.mul_comm 256 q, cpy_fill, ← r1, Nat.mul_comm q 256, ← i1]
  have r3 := r2
  rw [← ed] at r3
  obtain ⟨b1, b2⟩ := w_128 _ run rev 4 0 r3 k1 (by omega) rfl (by decide) rfl (fun z => (nomatch z))
  have b1 : r_128 = b2i (sBar (sHome q (fillF now (q * 256) 256 a_v.toInt8.toInt32) (q * 256) (sBar d).2).2).1 := b1
  have b2 : RMs (sBar (sHome q (fillF now (q * 256) 256 a_v.toInt8.toInt32) (q * 256) (sBar d).2).2).2 run rev _ := b2
  have hnb : ¬ (nI q < 0 ∨ 64 ≤ nI q) := fun z => absurd ((nI_home (by omega)).mp z) (by omega)
  have hbad : ¬ (nI q < 0 ∨ 64 ≤ nI q ∨ a_v < 0 ∨ 255 < a_v) := fun z => z.elim (fun z => hnb (Or.inl z)) (fun z => z.elim (fun z => hnb (Or.inr z)) (fun z => z.elim v1 v2))
  rw [fD_go o hbad (by rw [nI_clamp (by omega)]; exact fr), nI_clamp (by omega), dg_3 z1 (m1.trans z2)]
  have z3 := b2i_0.mp (b1.symm.trans c_131)
  rw [z3]
  have zo := bar_off z3
  exact ⟨rfl, b2, hr.2.1, RMn_hs (bar_hs k2) a5, hr.2.2.2.1, fun z => absurd (zo.symm.trans z) (by decide), fun j _ => by rw [i2, a3, Nat.mul_comm q 256]⟩
theorem vc_M_direct_139_1 (a_b : Int32) (a_v : Int32) (y_thrown : Int32) (y_ring : Int32) (y_off : Int32) (y_fuse : Int32) (y_steps : Int32) (y_many : Int32) (y_log : Int32) (y_before : Int32) (y_home : Nat → Int32) (y_base : Nat → Int32) (y_now : Nat → Int32) (y_kinds : Nat → Int32) (y_blocks : Nat → Int32) (y_runs : Nat → Int32) (y_revokes : Nat → Int32) (y_from : Nat → Int32) (y_uses : Nat → Int32) (y_revoked : Nat → Int32) (y_had : Nat → Int32) (y_data : Nat → Int32) (x3 : Int32) (y_thrown_i : Int32) (y_off_i : Int32) (y_fuse_i : Int32) (y_steps_i : Int32) (y_many_i : Int32) (y_home_i : Nat → Int32) (y_base_i : Nat → Int32) (y_now_i : Nat → Int32) (y_kinds_i : Nat → Int32) (y_blocks_i : Nat → Int32) (y_runs_i : Nat → Int32) (y_revokes_i : Nat → Int32) (r_128 : Int32) (y_off_128 : Int32) (y_fuse_128 : Int32) (y_steps_128 : Int32) (y_many_128 : Int32) (y_base_128 : Nat → Int32) (y_kinds_128 : Nat → Int32) (y_blocks_128 : Nat → Int32) (y_runs_128 : Nat → Int32) (y_revokes_128 : Nat → Int32) (hpre : pr_M_direct a_b a_v (y_thrown, y_ring, y_off, y_fuse, y_steps, y_many, y_log, y_before, y_home, y_base, y_now, y_kinds, y_blocks, y_runs, y_revokes, y_from, y_uses, y_revoked, y_had, y_data)) (hinv : iv_M_direct_84 a_b a_v (y_thrown, y_ring, y_off, y_fuse, y_steps, y_many, y_log, y_before, y_home, y_base, y_now, y_kinds, y_blocks, y_runs, y_revokes, y_from, y_uses, y_revoked, y_had, y_data) x3 (y_thrown_i, y_ring, y_off_i, y_fuse_i, y_steps_i, y_many_i, y_log, y_before, y_home_i, y_base_i, y_now_i, y_kinds_i, y_blocks_i, y_runs_i, y_revokes_i, y_from, y_uses, y_revoked, y_had, y_data)) (c_88 : 256 ≤ x3) (w_128 : po_M_step 4 0 (y_thrown_i, y_ring, y_off_i, y_fuse_i, y_steps_i, y_many_i, y_log, y_before, y_home_i, y_base_i, y_now_i, y_kinds_i, y_blocks_i, y_runs_i, y_revokes_i, y_from, y_uses, y_revoked, y_had, y_data) r_128 (y_thrown_i, y_ring, y_off_128, y_fuse_128, y_steps_128, y_many_128, y_log, y_before, y_home_i, y_base_128, y_now_i, y_kinds_128, y_blocks_128, y_runs_128, y_revokes_128, y_from, y_uses, y_revoked, y_had, y_data)) (c_131 : ¬ r_128 = 0) : po_M_direct a_b a_v (y_thrown, y_ring, y_off, y_fuse, y_steps, y_many, y_log, y_before, y_home, y_base, y_now, y_kinds, y_blocks, y_runs, y_revokes, y_from, y_uses, y_revoked, y_had, y_data) 0 (y_thrown_i, y_ring, y_off_128, y_fuse_128, y_steps_128, y_many_128, y_log, y_before, y_home_i, y_base_128, y_now_i, y_kinds_128, y_blocks_128, y_runs_128, y_revokes_128, y_from, y_uses, y_revoked, y_had, y_data) := by
  intro σ hr hsw
  obtain ⟨ring, run, rev, now, d, g⟩ := σ
  obtain ⟨q, k, hq, rfl, v1, v2, hk, rfl, i1, i2, c_9, h⟩ := hinv
  have i1 : y_home_i = fillF y_home (256 * q) k a_v.toInt8.toInt32 := i1
  have i2 : y_now_i = fillF y_now (256 * q) k a_v.toInt8.toInt32 := i2
  have hk2 : 256 ≤ k := (nI_leI (a := 256) (by decide) (by omega)).mp c_88
  have ek : k = 256 := by omega
  subst ek
  obtain ⟨o, a1, a2, a3, a4, a5, a6, a7, a8, a9, a10, a11, a12, a13, a14⟩ := m_al hr hsw c_9
  obtain ⟨fr, z1, z2, d2⟩ := h ring run rev now d g hr hsw
  have hfit : sb_Fit (fillF now (q * 256) 256 a_v.toInt8.toInt32) := fit_fill a11 _ _ _
  obtain ⟨m1, m2, m3⟩ := mark_home (b := q) (sp := q * 256) (f := fillF now (q * 256) 256 a_v.toInt8.toInt32) (d := (sBar d).2)
  have hh : hs (sBar d).2.1 := by rw [bar_nil z1]; exact hs_nil
  obtain ⟨k1, k2⟩ := DW_home (b := q) (sp := q * 256) (DW_bar a7) hh hq hfit
  have kl := hs_len64 k2
  obtain ⟨r1, r2⟩ := RMs_home (h2 := y_home_i) d2
  have r1 : y_home = (sMark q (sBar d).2).2.2.2.2.2.2 := r1
  have ed : (sHome q (fillF now (q * 256) 256 a_v.toInt8.toInt32) (q * 256) (sBar d).2).2 = ((sMark q (sBar d).2).2.1, (sMark q (sBar d).2).2.2.1, (sMark q (sBar d).2).2.2.2.1, (sMark q (sBar d).2).2.2.2.2.1, (sMark q (sBar d).2).2.2.2.2.2.1, y_home_i) := by
    rw [m3 z2, Nat.mul_comm 256 q, cpy_fill, ← r1, Nat.mul_comm q 256, ← i1]
  have r3 := r2
  rw [← ed] at r3
  obtain ⟨b1, b2⟩ := w_128 _ run rev 4 0 r3 k1 (by omega) rfl (by decide) rfl (fun z => (nomatch z))
  have b1 : r_128 = b2i (sBar (sHome q (fillF now (q * 256) 256 a_v.toInt8.toInt32) (q * 256) (sBar d).2).2).1 := b1
  have b2 : RMs (sBar (sHome q (fillF now (q * 256) 256 a_v.toInt8.toInt32) (q * 256) (sBar d).2).2).2 run rev _ := b2
  have hnb : ¬ (nI q < 0 ∨ 64 ≤ nI q) := fun z => absurd ((nI_home (by omega)).mp z) (by omega)
  have hbad : ¬ (nI q < 0 ∨ 64 ≤ nI q ∨ a_v < 0 ∨ 255 < a_v) := fun z => z.elim (fun z => hnb (Or.inl z)) (fun z => z.elim (fun z => hnb (Or.inr z)) (fun z => z.elim v1 v2))
  rw [fD_go o hbad (by rw [nI_clamp (by omega)]; exact fr), nI_clamp (by omega), dg_3 z1 (m1.trans z2)]
  have z3 := b2i_n0.mp (fun y => c_131 (b1.trans y))
  rw [z3]
  exact ⟨rfl, b2, hr.2.1, RMn_hs (bar_hs k2) a5, hr.2.2.2.1, fun _ => by rw [i2, a3, Nat.mul_comm q 256], fun j _ => by rw [i2, a3, Nat.mul_comm q 256]⟩
theorem vc_M_direct_104_0 (a_b : Int32) (a_v : Int32) (y_thrown : Int32) (y_ring : Int32) (y_off : Int32) (y_fuse : Int32) (y_steps : Int32) (y_many : Int32) (y_log : Int32) (y_before : Int32) (y_home : Nat → Int32) (y_base : Nat → Int32) (y_now : Nat → Int32) (y_kinds : Nat → Int32) (y_blocks : Nat → Int32) (y_runs : Nat → Int32) (y_revokes : Nat → Int32) (y_from : Nat → Int32) (y_uses : Nat → Int32) (y_revoked : Nat → Int32) (y_had : Nat → Int32) (y_data : Nat → Int32) (x3 : Int32) (y_thrown_i : Int32) (y_off_i : Int32) (y_fuse_i : Int32) (y_steps_i : Int32) (y_many_i : Int32) (y_home_i : Nat → Int32) (y_base_i : Nat → Int32) (y_now_i : Nat → Int32) (y_kinds_i : Nat → Int32) (y_blocks_i : Nat → Int32) (y_runs_i : Nat → Int32) (y_revokes_i : Nat → Int32) (v_104 : Int32) (hpre : pr_M_direct a_b a_v (y_thrown, y_ring, y_off, y_fuse, y_steps, y_many, y_log, y_before, y_home, y_base, y_now, y_kinds, y_blocks, y_runs, y_revokes, y_from, y_uses, y_revoked, y_had, y_data)) (hinv : iv_M_direct_84 a_b a_v (y_thrown, y_ring, y_off, y_fuse, y_steps, y_many, y_log, y_before, y_home, y_base, y_now, y_kinds, y_blocks, y_runs, y_revokes, y_from, y_uses, y_revoked, y_had, y_data) x3 (y_thrown_i, y_ring, y_off_i, y_fuse_i, y_steps_i, y_many_i, y_log, y_before, y_home_i, y_base_i, y_now_i, y_kinds_i, y_blocks_i, y_runs_i, y_revokes_i, y_from, y_uses, y_revoked, y_had, y_data)) (c_88 : ¬ 256 ≤ x3) (e_104 : v_104 = (Int32.toInt8 a_v).toInt32) : vp_in ((256 * a_b) + x3) 16384 := by
  obtain ⟨q, k, hq, rfl, v1, v2, hk, rfl, i1, i2, c_9, h⟩ := hinv
  have i1 : y_home_i = fillF y_home (256 * q) k a_v.toInt8.toInt32 := i1
  have i2 : y_now_i = fillF y_now (256 * q) k a_v.toInt8.toInt32 := i2
  have hk2 : ¬ 256 ≤ k := fun z => c_88 (nI_le (a := 256) z (by omega))
  rw [show (256 : Int32) * nI q = nI (256 * q) from pk_mul 256 q, nI_add]
  exact vp_in_nI (by omega) (by decide)
theorem vc_M_direct_118_0 (a_b : Int32) (a_v : Int32) (y_thrown : Int32) (y_ring : Int32) (y_off : Int32) (y_fuse : Int32) (y_steps : Int32) (y_many : Int32) (y_log : Int32) (y_before : Int32) (y_home : Nat → Int32) (y_base : Nat → Int32) (y_now : Nat → Int32) (y_kinds : Nat → Int32) (y_blocks : Nat → Int32) (y_runs : Nat → Int32) (y_revokes : Nat → Int32) (y_from : Nat → Int32) (y_uses : Nat → Int32) (y_revoked : Nat → Int32) (y_had : Nat → Int32) (y_data : Nat → Int32) (x3 : Int32) (y_thrown_i : Int32) (y_off_i : Int32) (y_fuse_i : Int32) (y_steps_i : Int32) (y_many_i : Int32) (y_home_i : Nat → Int32) (y_base_i : Nat → Int32) (y_now_i : Nat → Int32) (y_kinds_i : Nat → Int32) (y_blocks_i : Nat → Int32) (y_runs_i : Nat → Int32) (y_revokes_i : Nat → Int32) (v_104 : Int32) (v_118 : Int32) (hpre : pr_M_direct a_b a_v (y_thrown, y_ring, y_off, y_fuse, y_steps, y_many, y_log, y_before, y_home, y_base, y_now, y_kinds, y_blocks, y_runs, y_revokes, y_from, y_uses, y_revoked, y_had, y_data)) (hinv : iv_M_direct_84 a_b a_v (y_thrown, y_ring, y_off, y_fuse, y_steps, y_many, y_log, y_before, y_home, y_base, y_now, y_kinds, y_blocks, y_runs, y_revokes, y_from, y_uses, y_revoked, y_had, y_data) x3 (y_thrown_i, y_ring, y_off_i, y_fuse_i, y_steps_i, y_many_i, y_log, y_before, y_home_i, y_base_i, y_now_i, y_kinds_i, y_blocks_i, y_runs_i, y_revokes_i, y_from, y_uses, y_revoked, y_had, y_data)) (c_88 : ¬ 256 ≤ x3) (e_104 : v_104 = (Int32.toInt8 a_v).toInt32) (e_118 : v_118 = (Int32.toInt8 a_v).toInt32) : vp_in ((256 * a_b) + x3) 16384 := by
  obtain ⟨q, k, hq, rfl, v1, v2, hk, rfl, i1, i2, c_9, h⟩ := hinv
  have i1 : y_home_i = fillF y_home (256 * q) k a_v.toInt8.toInt32 := i1
  have i2 : y_now_i = fillF y_now (256 * q) k a_v.toInt8.toInt32 := i2
  have hk2 : ¬ 256 ≤ k := fun z => c_88 (nI_le (a := 256) z (by omega))
  rw [show (256 : Int32) * nI q = nI (256 * q) from pk_mul 256 q, nI_add]
  exact vp_in_nI (by omega) (by decide)
theorem vc_M_direct_122_0 (a_b : Int32) (a_v : Int32) (y_thrown : Int32) (y_ring : Int32) (y_off : Int32) (y_fuse : Int32) (y_steps : Int32) (y_many : Int32) (y_log : Int32) (y_before : Int32) (y_home : Nat → Int32) (y_base : Nat → Int32) (y_now : Nat → Int32) (y_kinds : Nat → Int32) (y_blocks : Nat → Int32) (y_runs : Nat → Int32) (y_revokes : Nat → Int32) (y_from : Nat → Int32) (y_uses : Nat → Int32) (y_revoked : Nat → Int32) (y_had : Nat → Int32) (y_data : Nat → Int32) (x3 : Int32) (y_thrown_i : Int32) (y_off_i : Int32) (y_fuse_i : Int32) (y_steps_i : Int32) (y_many_i : Int32) (y_home_i : Nat → Int32) (y_base_i : Nat → Int32) (y_now_i : Nat → Int32) (y_kinds_i : Nat → Int32) (y_blocks_i : Nat → Int32) (y_runs_i : Nat → Int32) (y_revokes_i : Nat → Int32) (v_104 : Int32) (v_118 : Int32) (v_119 : Int32) (hpre : pr_M_direct a_b a_v (y_thrown, y_ring, y_off, y_fuse, y_steps, y_many, y_log, y_before, y_home, y_base, y_now, y_kinds, y_blocks, y_runs, y_revokes, y_from, y_uses, y_revoked, y_had, y_data)) (hinv : iv_M_direct_84 a_b a_v (y_thrown, y_ring, y_off, y_fuse, y_steps, y_many, y_log, y_before, y_home, y_base, y_now, y_kinds, y_blocks, y_runs, y_revokes, y_from, y_uses, y_revoked, y_had, y_data) x3 (y_thrown_i, y_ring, y_off_i, y_fuse_i, y_steps_i, y_many_i, y_log, y_before, y_home_i, y_base_i, y_now_i, y_kinds_i, y_blocks_i, y_runs_i, y_revokes_i, y_from, y_uses, y_revoked, y_had, y_data)) (c_88 : ¬ 256 ≤ x3) (e_104 : v_104 = (Int32.toInt8 a_v).toInt32) (e_118 : v_118 = (Int32.toInt8 a_v).toInt32) (e_119 : v_119 = x3 + 1) : iv_M_direct_84 a_b a_v (y_thrown, y_ring, y_off, y_fuse, y_steps, y_many, y_log, y_before, y_home, y_base, y_now, y_kinds, y_blocks, y_runs, y_revokes, y_from, y_uses, y_revoked, y_had, y_data) v_119 (y_thrown_i, y_ring, y_off_i, y_fuse_i, y_steps_i, y_many_i, y_log, y_before, (upd y_home_i (((256 * a_b) + x3)).toNatClampNeg (vp_nar .byte v_104)), y_base_i, (upd y_now_i (((256 * a_b) + x3)).toNatClampNeg (vp_nar .byte v_118)), y_kinds_i, y_blocks_i, y_runs_i, y_revokes_i, y_from, y_uses, y_revoked, y_had, y_data) ∧ mu_M_direct_84 a_b a_v (y_thrown, y_ring, y_off, y_fuse, y_steps, y_many, y_log, y_before, y_home, y_base, y_now, y_kinds, y_blocks, y_runs, y_revokes, y_from, y_uses, y_revoked, y_had, y_data) v_119 (y_thrown_i, y_ring, y_off_i, y_fuse_i, y_steps_i, y_many_i, y_log, y_before, (upd y_home_i (((256 * a_b) + x3)).toNatClampNeg (vp_nar .byte v_104)), y_base_i, (upd y_now_i (((256 * a_b) + x3)).toNatClampNeg (vp_nar .byte v_118)), y_kinds_i, y_blocks_i, y_runs_i, y_revokes_i, y_from, y_uses, y_revoked, y_had, y_data) < mu_M_direct_84 a_b a_v (y_thrown, y_ring, y_off, y_fuse, y_steps, y_many, y_log, y_before, y_home, y_base, y_now, y_kinds, y_blocks, y_runs, y_revokes, y_from, y_uses, y_revoked, y_had, y_data) x3 (y_thrown_i, y_ring, y_off_i, y_fuse_i, y_steps_i, y_many_i, y_log, y_before, y_home_i, y_base_i, y_now_i, y_kinds_i, y_blocks_i, y_runs_i, y_revokes_i, y_from, y_uses, y_revoked, y_had, y_data) := by
  obtain ⟨q, k, hq, rfl, v1, v2, hk, rfl, i1, i2, c_9, h⟩ := hinv
  have i1 : y_home_i = fillF y_home (256 * q) k a_v.toInt8.toInt32 := i1
  have i2 : y_now_i = fillF y_now (256 * q) k a_v.toInt8.toInt32 := i2
  have hk2 : ¬ 256 ≤ k := fun z => c_88 (nI_le (a := 256) z (by omega))
  have ev : vp_nar .byte v_104 = a_v.toInt8.toInt32 := by rw [e_104]; exact nar8 _
  have ev2 : vp_nar .byte v_118 = a_v.toInt8.toInt32 := by rw [e_118]; exact nar8 _
  rw [ev, ev2, show (256 : Int32) * nI q = nI (256 * q) from pk_mul 256 q, nI_add, nI_clamp (n := 256 * q + k) (by omega), i1, i2, fillF_succ, fillF_succ]
  refine ⟨⟨q, k + 1, hq, rfl, v1, v2, by omega, by rw [e_119]; exact nI_1 k, rfl, rfl, c_9, h⟩, ?_⟩
  show 256 - v_119.toNatClampNeg < 256 - (nI k).toNatClampNeg
  rw [e_119, nI_1, nI_clamp (n := k + 1) (by omega), nI_clamp (n := k) (by omega)]
  omega
theorem vc_M_direct_16_0 (a_b : Int32) (a_v : Int32) (y_thrown : Int32) (y_ring : Int32) (y_off : Int32) (y_fuse : Int32) (y_steps : Int32) (y_many : Int32) (y_log : Int32) (y_before : Int32) (y_home : Nat → Int32) (y_base : Nat → Int32) (y_now : Nat → Int32) (y_kinds : Nat → Int32) (y_blocks : Nat → Int32) (y_runs : Nat → Int32) (y_revokes : Nat → Int32) (y_from : Nat → Int32) (y_uses : Nat → Int32) (y_revoked : Nat → Int32) (y_had : Nat → Int32) (y_data : Nat → Int32) (hpre : pr_M_direct a_b a_v (y_thrown, y_ring, y_off, y_fuse, y_steps, y_many, y_log, y_before, y_home, y_base, y_now, y_kinds, y_blocks, y_runs, y_revokes, y_from, y_uses, y_revoked, y_had, y_data)) (c_9 : y_off = 0) : pr_M_noBlock a_b := by
  trivial
theorem vc_M_direct_61_0 (a_b : Int32) (a_v : Int32) (y_thrown : Int32) (y_ring : Int32) (y_off : Int32) (y_fuse : Int32) (y_steps : Int32) (y_many : Int32) (y_log : Int32) (y_before : Int32) (y_home : Nat → Int32) (y_base : Nat → Int32) (y_now : Nat → Int32) (y_kinds : Nat → Int32) (y_blocks : Nat → Int32) (y_runs : Nat → Int32) (y_revokes : Nat → Int32) (y_from : Nat → Int32) (y_uses : Nat → Int32) (y_revoked : Nat → Int32) (y_had : Nat → Int32) (y_data : Nat → Int32) (r_16 : Int32) (hpre : pr_M_direct a_b a_v (y_thrown, y_ring, y_off, y_fuse, y_steps, y_many, y_log, y_before, y_home, y_base, y_now, y_kinds, y_blocks, y_runs, y_revokes, y_from, y_uses, y_revoked, y_had, y_data)) (c_9 : y_off = 0) (w_16 : po_M_noBlock a_b r_16) (c_19 : ¬ r_16 = 0) : po_M_direct a_b a_v (y_thrown, y_ring, y_off, y_fuse, y_steps, y_many, y_log, y_before, y_home, y_base, y_now, y_kinds, y_blocks, y_runs, y_revokes, y_from, y_uses, y_revoked, y_had, y_data) (-2) (0, y_ring, y_off, y_fuse, y_steps, y_many, y_log, y_before, y_home, y_base, y_now, y_kinds, y_blocks, y_runs, y_revokes, y_from, y_uses, y_revoked, y_had, y_data) := by
  intro σ hr hsw
  obtain ⟨ring, run, rev, now, d, g⟩ := σ
  obtain ⟨o, a1, a2, a3, a4, a5, a6, a7, a8, a9, a10, a11, a12, a13, a14⟩ := m_al hr hsw c_9
  rw [fD_bad o ((nb_y w_16 c_19).elim Or.inl (fun z => Or.inr (Or.inl z)))]
  exact ⟨rfl, hr⟩
theorem vc_M_direct_61_1 (a_b : Int32) (a_v : Int32) (y_thrown : Int32) (y_ring : Int32) (y_off : Int32) (y_fuse : Int32) (y_steps : Int32) (y_many : Int32) (y_log : Int32) (y_before : Int32) (y_home : Nat → Int32) (y_base : Nat → Int32) (y_now : Nat → Int32) (y_kinds : Nat → Int32) (y_blocks : Nat → Int32) (y_runs : Nat → Int32) (y_revokes : Nat → Int32) (y_from : Nat → Int32) (y_uses : Nat → Int32) (y_revoked : Nat → Int32) (y_had : Nat → Int32) (y_data : Nat → Int32) (r_16 : Int32) (hpre : pr_M_direct a_b a_v (y_thrown, y_ring, y_off, y_fuse, y_steps, y_many, y_log, y_before, y_home, y_base, y_now, y_kinds, y_blocks, y_runs, y_revokes, y_from, y_uses, y_revoked, y_had, y_data)) (c_9 : y_off = 0) (w_16 : po_M_noBlock a_b r_16) (c_19 : r_16 = 0) (c_23 : a_v < 0) : po_M_direct a_b a_v (y_thrown, y_ring, y_off, y_fuse, y_steps, y_many, y_log, y_before, y_home, y_base, y_now, y_kinds, y_blocks, y_runs, y_revokes, y_from, y_uses, y_revoked, y_had, y_data) (-2) (0, y_ring, y_off, y_fuse, y_steps, y_many, y_log, y_before, y_home, y_base, y_now, y_kinds, y_blocks, y_runs, y_revokes, y_from, y_uses, y_revoked, y_had, y_data) := by
  intro σ hr hsw
  obtain ⟨ring, run, rev, now, d, g⟩ := σ
  obtain ⟨o, a1, a2, a3, a4, a5, a6, a7, a8, a9, a10, a11, a12, a13, a14⟩ := m_al hr hsw c_9
  rw [fD_bad o (Or.inr (Or.inr (Or.inl c_23)))]
  exact ⟨rfl, hr⟩
theorem vc_M_direct_61_2 (a_b : Int32) (a_v : Int32) (y_thrown : Int32) (y_ring : Int32) (y_off : Int32) (y_fuse : Int32) (y_steps : Int32) (y_many : Int32) (y_log : Int32) (y_before : Int32) (y_home : Nat → Int32) (y_base : Nat → Int32) (y_now : Nat → Int32) (y_kinds : Nat → Int32) (y_blocks : Nat → Int32) (y_runs : Nat → Int32) (y_revokes : Nat → Int32) (y_from : Nat → Int32) (y_uses : Nat → Int32) (y_revoked : Nat → Int32) (y_had : Nat → Int32) (y_data : Nat → Int32) (r_16 : Int32) (hpre : pr_M_direct a_b a_v (y_thrown, y_ring, y_off, y_fuse, y_steps, y_many, y_log, y_before, y_home, y_base, y_now, y_kinds, y_blocks, y_runs, y_revokes, y_from, y_uses, y_revoked, y_had, y_data)) (c_9 : y_off = 0) (w_16 : po_M_noBlock a_b r_16) (c_19 : r_16 = 0) (c_23 : ¬ a_v < 0) (c_30 : 255 < a_v) : po_M_direct a_b a_v (y_thrown, y_ring, y_off, y_fuse, y_steps, y_many, y_log, y_before, y_home, y_base, y_now, y_kinds, y_blocks, y_runs, y_revokes, y_from, y_uses, y_revoked, y_had, y_data) (-2) (0, y_ring, y_off, y_fuse, y_steps, y_many, y_log, y_before, y_home, y_base, y_now, y_kinds, y_blocks, y_runs, y_revokes, y_from, y_uses, y_revoked, y_had, y_data) := by
  intro σ hr hsw
  obtain ⟨ring, run, rev, now, d, g⟩ := σ
  obtain ⟨o, a1, a2, a3, a4, a5, a6, a7, a8, a9, a10, a11, a12, a13, a14⟩ := m_al hr hsw c_9
  rw [fD_bad o (Or.inr (Or.inr (Or.inr c_30)))]
  exact ⟨rfl, hr⟩
theorem vc_M_direct_38_0 (a_b : Int32) (a_v : Int32) (y_thrown : Int32) (y_ring : Int32) (y_off : Int32) (y_fuse : Int32) (y_steps : Int32) (y_many : Int32) (y_log : Int32) (y_before : Int32) (y_home : Nat → Int32) (y_base : Nat → Int32) (y_now : Nat → Int32) (y_kinds : Nat → Int32) (y_blocks : Nat → Int32) (y_runs : Nat → Int32) (y_revokes : Nat → Int32) (y_from : Nat → Int32) (y_uses : Nat → Int32) (y_revoked : Nat → Int32) (y_had : Nat → Int32) (y_data : Nat → Int32) (r_16 : Int32) (hpre : pr_M_direct a_b a_v (y_thrown, y_ring, y_off, y_fuse, y_steps, y_many, y_log, y_before, y_home, y_base, y_now, y_kinds, y_blocks, y_runs, y_revokes, y_from, y_uses, y_revoked, y_had, y_data)) (c_9 : y_off = 0) (w_16 : po_M_noBlock a_b r_16) (c_19 : r_16 = 0) (c_23 : ¬ a_v < 0) (c_30 : ¬ 255 < a_v) : vp_in a_b 64 := by
  obtain ⟨q, hq, rfl, hnb⟩ := nb_n w_16 c_19
  exact vp_in_nI (by omega) (by decide)
theorem vc_M_direct_61_3 (a_b : Int32) (a_v : Int32) (y_thrown : Int32) (y_ring : Int32) (y_off : Int32) (y_fuse : Int32) (y_steps : Int32) (y_many : Int32) (y_log : Int32) (y_before : Int32) (y_home : Nat → Int32) (y_base : Nat → Int32) (y_now : Nat → Int32) (y_kinds : Nat → Int32) (y_blocks : Nat → Int32) (y_runs : Nat → Int32) (y_revokes : Nat → Int32) (y_from : Nat → Int32) (y_uses : Nat → Int32) (y_revoked : Nat → Int32) (y_had : Nat → Int32) (y_data : Nat → Int32) (r_16 : Int32) (v_38 : Int32) (hpre : pr_M_direct a_b a_v (y_thrown, y_ring, y_off, y_fuse, y_steps, y_many, y_log, y_before, y_home, y_base, y_now, y_kinds, y_blocks, y_runs, y_revokes, y_from, y_uses, y_revoked, y_had, y_data)) (c_9 : y_off = 0) (w_16 : po_M_noBlock a_b r_16) (c_19 : r_16 = 0) (c_23 : ¬ a_v < 0) (c_30 : ¬ 255 < a_v) (e_38 : v_38 = (y_runs (a_b).toNatClampNeg)) (c_39 : ¬ v_38 = 0) : po_M_direct a_b a_v (y_thrown, y_ring, y_off, y_fuse, y_steps, y_many, y_log, y_before, y_home, y_base, y_now, y_kinds, y_blocks, y_runs, y_revokes, y_from, y_uses, y_revoked, y_had, y_data) (-2) (0, y_ring, y_off, y_fuse, y_steps, y_many, y_log, y_before, y_home, y_base, y_now, y_kinds, y_blocks, y_runs, y_revokes, y_from, y_uses, y_revoked, y_had, y_data) := by
  intro σ hr hsw
  obtain ⟨ring, run, rev, now, d, g⟩ := σ
  obtain ⟨o, a1, a2, a3, a4, a5, a6, a7, a8, a9, a10, a11, a12, a13, a14⟩ := m_al hr hsw c_9
  obtain ⟨q, hq, rfl, hnb⟩ := nb_n w_16 c_19
  have hbad : ¬ (nI q < 0 ∨ 64 ≤ nI q ∨ a_v < 0 ∨ 255 < a_v) := fun z => z.elim (fun z => hnb (Or.inl z)) (fun z => z.elim (fun z => hnb (Or.inr z)) (fun z => z.elim c_23 c_30))
  have e := row_at a1 hq e_38
  have hz : bitt run q = true := b2i_n0.mp (fun z => c_39 (e.trans z))
  rw [fD_busy o hbad (by rw [nI_clamp (by omega), bt_or, bt_or, hz]; simp)]
  exact ⟨rfl, hr⟩
theorem vc_M_direct_47_0 (a_b : Int32) (a_v : Int32) (y_thrown : Int32) (y_ring : Int32) (y_off : Int32) (y_fuse : Int32) (y_steps : Int32) (y_many : Int32) (y_log : Int32) (y_before : Int32) (y_home : Nat → Int32) (y_base : Nat → Int32) (y_now : Nat → Int32) (y_kinds : Nat → Int32) (y_blocks : Nat → Int32) (y_runs : Nat → Int32) (y_revokes : Nat → Int32) (y_from : Nat → Int32) (y_uses : Nat → Int32) (y_revoked : Nat → Int32) (y_had : Nat → Int32) (y_data : Nat → Int32) (r_16 : Int32) (v_38 : Int32) (hpre : pr_M_direct a_b a_v (y_thrown, y_ring, y_off, y_fuse, y_steps, y_many, y_log, y_before, y_home, y_base, y_now, y_kinds, y_blocks, y_runs, y_revokes, y_from, y_uses, y_revoked, y_had, y_data)) (c_9 : y_off = 0) (w_16 : po_M_noBlock a_b r_16) (c_19 : r_16 = 0) (c_23 : ¬ a_v < 0) (c_30 : ¬ 255 < a_v) (e_38 : v_38 = (y_runs (a_b).toNatClampNeg)) (c_39 : v_38 = 0) : vp_in a_b 64 := by
  obtain ⟨q, hq, rfl, hnb⟩ := nb_n w_16 c_19
  exact vp_in_nI (by omega) (by decide)
theorem vc_M_direct_61_4 (a_b : Int32) (a_v : Int32) (y_thrown : Int32) (y_ring : Int32) (y_off : Int32) (y_fuse : Int32) (y_steps : Int32) (y_many : Int32) (y_log : Int32) (y_before : Int32) (y_home : Nat → Int32) (y_base : Nat → Int32) (y_now : Nat → Int32) (y_kinds : Nat → Int32) (y_blocks : Nat → Int32) (y_runs : Nat → Int32) (y_revokes : Nat → Int32) (y_from : Nat → Int32) (y_uses : Nat → Int32) (y_revoked : Nat → Int32) (y_had : Nat → Int32) (y_data : Nat → Int32) (r_16 : Int32) (v_38 : Int32) (v_47 : Int32) (hpre : pr_M_direct a_b a_v (y_thrown, y_ring, y_off, y_fuse, y_steps, y_many, y_log, y_before, y_home, y_base, y_now, y_kinds, y_blocks, y_runs, y_revokes, y_from, y_uses, y_revoked, y_had, y_data)) (c_9 : y_off = 0) (w_16 : po_M_noBlock a_b r_16) (c_19 : r_16 = 0) (c_23 : ¬ a_v < 0) (c_30 : ¬ 255 < a_v) (e_38 : v_38 = (y_runs (a_b).toNatClampNeg)) (c_39 : v_38 = 0) (e_47 : v_47 = (y_revokes (a_b).toNatClampNeg)) (c_48 : ¬ v_47 = 0) : po_M_direct a_b a_v (y_thrown, y_ring, y_off, y_fuse, y_steps, y_many, y_log, y_before, y_home, y_base, y_now, y_kinds, y_blocks, y_runs, y_revokes, y_from, y_uses, y_revoked, y_had, y_data) (-2) (0, y_ring, y_off, y_fuse, y_steps, y_many, y_log, y_before, y_home, y_base, y_now, y_kinds, y_blocks, y_runs, y_revokes, y_from, y_uses, y_revoked, y_had, y_data) := by
  intro σ hr hsw
  obtain ⟨ring, run, rev, now, d, g⟩ := σ
  obtain ⟨o, a1, a2, a3, a4, a5, a6, a7, a8, a9, a10, a11, a12, a13, a14⟩ := m_al hr hsw c_9
  obtain ⟨q, hq, rfl, hnb⟩ := nb_n w_16 c_19
  have hbad : ¬ (nI q < 0 ∨ 64 ≤ nI q ∨ a_v < 0 ∨ 255 < a_v) := fun z => z.elim (fun z => hnb (Or.inl z)) (fun z => z.elim (fun z => hnb (Or.inr z)) (fun z => z.elim c_23 c_30))
  have e := row_at a2 hq e_47
  have hz : bitt rev q = true := b2i_n0.mp (fun z => c_48 (e.trans z))
  rw [fD_busy o hbad (by rw [nI_clamp (by omega), bt_or, bt_or, hz]; simp)]
  exact ⟨rfl, hr⟩
theorem vc_M_direct_53_0 (a_b : Int32) (a_v : Int32) (y_thrown : Int32) (y_ring : Int32) (y_off : Int32) (y_fuse : Int32) (y_steps : Int32) (y_many : Int32) (y_log : Int32) (y_before : Int32) (y_home : Nat → Int32) (y_base : Nat → Int32) (y_now : Nat → Int32) (y_kinds : Nat → Int32) (y_blocks : Nat → Int32) (y_runs : Nat → Int32) (y_revokes : Nat → Int32) (y_from : Nat → Int32) (y_uses : Nat → Int32) (y_revoked : Nat → Int32) (y_had : Nat → Int32) (y_data : Nat → Int32) (r_16 : Int32) (v_38 : Int32) (v_47 : Int32) (hpre : pr_M_direct a_b a_v (y_thrown, y_ring, y_off, y_fuse, y_steps, y_many, y_log, y_before, y_home, y_base, y_now, y_kinds, y_blocks, y_runs, y_revokes, y_from, y_uses, y_revoked, y_had, y_data)) (c_9 : y_off = 0) (w_16 : po_M_noBlock a_b r_16) (c_19 : r_16 = 0) (c_23 : ¬ a_v < 0) (c_30 : ¬ 255 < a_v) (e_38 : v_38 = (y_runs (a_b).toNatClampNeg)) (c_39 : v_38 = 0) (e_47 : v_47 = (y_revokes (a_b).toNatClampNeg)) (c_48 : v_47 = 0) : pr_M_told a_b (0, y_ring, y_off, y_fuse, y_steps, y_many, y_log, y_before, y_home, y_base, y_now, y_kinds, y_blocks, y_runs, y_revokes, y_from, y_uses, y_revoked, y_had, y_data) := by
  obtain ⟨σ, hr, hsw⟩ := hpre
  obtain ⟨ring, run, rev, now, d, g⟩ := σ
  obtain ⟨o, a1, a2, a3, a4, a5, a6, a7, a8, a9, a10, a11, a12, a13, a14⟩ := m_al hr hsw c_9
  obtain ⟨q, hq, rfl, hnb⟩ := nb_n w_16 c_19
  exact ⟨g, q, hr.2.1, a5, a8, rfl, hq⟩
theorem vc_M_direct_65_0 (a_b : Int32) (a_v : Int32) (y_thrown : Int32) (y_ring : Int32) (y_off : Int32) (y_fuse : Int32) (y_steps : Int32) (y_many : Int32) (y_log : Int32) (y_before : Int32) (y_home : Nat → Int32) (y_base : Nat → Int32) (y_now : Nat → Int32) (y_kinds : Nat → Int32) (y_blocks : Nat → Int32) (y_runs : Nat → Int32) (y_revokes : Nat → Int32) (y_from : Nat → Int32) (y_uses : Nat → Int32) (y_revoked : Nat → Int32) (y_had : Nat → Int32) (y_data : Nat → Int32) (r_16 : Int32) (v_38 : Int32) (v_47 : Int32) (r_53 : Int32) (hpre : pr_M_direct a_b a_v (y_thrown, y_ring, y_off, y_fuse, y_steps, y_many, y_log, y_before, y_home, y_base, y_now, y_kinds, y_blocks, y_runs, y_revokes, y_from, y_uses, y_revoked, y_had, y_data)) (c_9 : y_off = 0) (w_16 : po_M_noBlock a_b r_16) (c_19 : r_16 = 0) (c_23 : ¬ a_v < 0) (c_30 : ¬ 255 < a_v) (e_38 : v_38 = (y_runs (a_b).toNatClampNeg)) (c_39 : v_38 = 0) (e_47 : v_47 = (y_revokes (a_b).toNatClampNeg)) (c_48 : v_47 = 0) (w_53 : po_M_told a_b (0, y_ring, y_off, y_fuse, y_steps, y_many, y_log, y_before, y_home, y_base, y_now, y_kinds, y_blocks, y_runs, y_revokes, y_from, y_uses, y_revoked, y_had, y_data) r_53) (c_56 : r_53 < 0) : pr_M_step 4 0 (0, y_ring, y_off, y_fuse, y_steps, y_many, y_log, y_before, y_home, y_base, y_now, y_kinds, y_blocks, y_runs, y_revokes, y_from, y_uses, y_revoked, y_had, y_data) := by
  obtain ⟨σ, hr, hsw⟩ := hpre
  obtain ⟨ring, run, rev, now, d, g⟩ := σ
  obtain ⟨o, a1, a2, a3, a4, a5, a6, a7, a8, a9, a10, a11, a12, a13, a14⟩ := m_al hr hsw c_9
  exact ⟨d, run, rev, 4, 0, hr.1, a7, by rw [a6]; decide, rfl, by decide, rfl, fun z => (nomatch z)⟩
theorem vc_M_direct_81_0 (a_b : Int32) (a_v : Int32) (y_thrown : Int32) (y_ring : Int32) (y_off : Int32) (y_fuse : Int32) (y_steps : Int32) (y_many : Int32) (y_log : Int32) (y_before : Int32) (y_home : Nat → Int32) (y_base : Nat → Int32) (y_now : Nat → Int32) (y_kinds : Nat → Int32) (y_blocks : Nat → Int32) (y_runs : Nat → Int32) (y_revokes : Nat → Int32) (y_from : Nat → Int32) (y_uses : Nat → Int32) (y_revoked : Nat → Int32) (y_had : Nat → Int32) (y_data : Nat → Int32) (r_16 : Int32) (v_38 : Int32) (v_47 : Int32) (r_53 : Int32) (r_65 : Int32) (y_off_65 : Int32) (y_fuse_65 : Int32) (y_steps_65 : Int32) (y_many_65 : Int32) (y_base_65 : Nat → Int32) (y_kinds_65 : Nat → Int32) (y_blocks_65 : Nat → Int32) (y_runs_65 : Nat → Int32) (y_revokes_65 : Nat → Int32) (hpre : pr_M_direct a_b a_v (y_thrown, y_ring, y_off, y_fuse, y_steps, y_many, y_log, y_before, y_home, y_base, y_now, y_kinds, y_blocks, y_runs, y_revokes, y_from, y_uses, y_revoked, y_had, y_data)) (c_9 : y_off = 0) (w_16 : po_M_noBlock a_b r_16) (c_19 : r_16 = 0) (c_23 : ¬ a_v < 0) (c_30 : ¬ 255 < a_v) (e_38 : v_38 = (y_runs (a_b).toNatClampNeg)) (c_39 : v_38 = 0) (e_47 : v_47 = (y_revokes (a_b).toNatClampNeg)) (c_48 : v_47 = 0) (w_53 : po_M_told a_b (0, y_ring, y_off, y_fuse, y_steps, y_many, y_log, y_before, y_home, y_base, y_now, y_kinds, y_blocks, y_runs, y_revokes, y_from, y_uses, y_revoked, y_had, y_data) r_53) (c_56 : r_53 < 0) (w_65 : po_M_step 4 0 (0, y_ring, y_off, y_fuse, y_steps, y_many, y_log, y_before, y_home, y_base, y_now, y_kinds, y_blocks, y_runs, y_revokes, y_from, y_uses, y_revoked, y_had, y_data) r_65 (0, y_ring, y_off_65, y_fuse_65, y_steps_65, y_many_65, y_log, y_before, y_home, y_base_65, y_now, y_kinds_65, y_blocks_65, y_runs_65, y_revokes_65, y_from, y_uses, y_revoked, y_had, y_data)) (c_68 : r_65 = 0) : po_M_direct a_b a_v (y_thrown, y_ring, y_off, y_fuse, y_steps, y_many, y_log, y_before, y_home, y_base, y_now, y_kinds, y_blocks, y_runs, y_revokes, y_from, y_uses, y_revoked, y_had, y_data) (-1) (0, y_ring, y_off_65, y_fuse_65, y_steps_65, y_many_65, y_log, y_before, y_home, y_base_65, y_now, y_kinds_65, y_blocks_65, y_runs_65, y_revokes_65, y_from, y_uses, y_revoked, y_had, y_data) := by
  intro σ hr hsw
  obtain ⟨ring, run, rev, now, d, g⟩ := σ
  obtain ⟨o, a1, a2, a3, a4, a5, a6, a7, a8, a9, a10, a11, a12, a13, a14⟩ := m_al hr hsw c_9
  obtain ⟨q, hq, rfl, hnb⟩ := nb_n w_16 c_19
  have hbad : ¬ (nI q < 0 ∨ 64 ≤ nI q ∨ a_v < 0 ∨ 255 < a_v) := fun z => z.elim (fun z => hnb (Or.inl z)) (fun z => z.elim (fun z => hnb (Or.inr z)) (fun z => z.elim c_23 c_30))
  have fr := dir_free a8 hq (row_at a1 hq e_38) c_39 (row_at a2 hq e_47) c_48 (w_53 g q hr.2.1 a5 a8 rfl hq) c_56
  obtain ⟨b1, b2⟩ := w_65 d run rev 4 0 hr.1 a7 (by rw [a6]; decide) rfl (by decide) rfl (fun z => (nomatch z))
  have b1 : r_65 = b2i (sBar d).1 := b1
  have b2 : RMs (sBar d).2 run rev _ := b2
  have z1 := b2i_0.mp (b1.symm.trans c_68)
  rw [fD_go o hbad (by rw [nI_clamp (by omega)]; exact fr), nI_clamp (by omega)]
  rw [dg_1 z1]
  exact ⟨rfl, b2, hr.2.1, RMn_hs (bar_hs (by rw [a6]; exact hs_nil)) a5, RMo_off hr.2.2.2 (bar_off z1) (fill_tail hq)⟩
theorem vc_M_direct_74_0 (a_b : Int32) (a_v : Int32) (y_thrown : Int32) (y_ring : Int32) (y_off : Int32) (y_fuse : Int32) (y_steps : Int32) (y_many : Int32) (y_log : Int32) (y_before : Int32) (y_home : Nat → Int32) (y_base : Nat → Int32) (y_now : Nat → Int32) (y_kinds : Nat → Int32) (y_blocks : Nat → Int32) (y_runs : Nat → Int32) (y_revokes : Nat → Int32) (y_from : Nat → Int32) (y_uses : Nat → Int32) (y_revoked : Nat → Int32) (y_had : Nat → Int32) (y_data : Nat → Int32) (r_16 : Int32) (v_38 : Int32) (v_47 : Int32) (r_53 : Int32) (r_65 : Int32) (y_off_65 : Int32) (y_fuse_65 : Int32) (y_steps_65 : Int32) (y_many_65 : Int32) (y_base_65 : Nat → Int32) (y_kinds_65 : Nat → Int32) (y_blocks_65 : Nat → Int32) (y_runs_65 : Nat → Int32) (y_revokes_65 : Nat → Int32) (hpre : pr_M_direct a_b a_v (y_thrown, y_ring, y_off, y_fuse, y_steps, y_many, y_log, y_before, y_home, y_base, y_now, y_kinds, y_blocks, y_runs, y_revokes, y_from, y_uses, y_revoked, y_had, y_data)) (c_9 : y_off = 0) (w_16 : po_M_noBlock a_b r_16) (c_19 : r_16 = 0) (c_23 : ¬ a_v < 0) (c_30 : ¬ 255 < a_v) (e_38 : v_38 = (y_runs (a_b).toNatClampNeg)) (c_39 : v_38 = 0) (e_47 : v_47 = (y_revokes (a_b).toNatClampNeg)) (c_48 : v_47 = 0) (w_53 : po_M_told a_b (0, y_ring, y_off, y_fuse, y_steps, y_many, y_log, y_before, y_home, y_base, y_now, y_kinds, y_blocks, y_runs, y_revokes, y_from, y_uses, y_revoked, y_had, y_data) r_53) (c_56 : r_53 < 0) (w_65 : po_M_step 4 0 (0, y_ring, y_off, y_fuse, y_steps, y_many, y_log, y_before, y_home, y_base, y_now, y_kinds, y_blocks, y_runs, y_revokes, y_from, y_uses, y_revoked, y_had, y_data) r_65 (0, y_ring, y_off_65, y_fuse_65, y_steps_65, y_many_65, y_log, y_before, y_home, y_base_65, y_now, y_kinds_65, y_blocks_65, y_runs_65, y_revokes_65, y_from, y_uses, y_revoked, y_had, y_data)) (c_68 : ¬ r_65 = 0) : pr_M_step 0 a_b (0, y_ring, y_off_65, y_fuse_65, y_steps_65, y_many_65, y_log, y_before, y_home, y_base_65, y_now, y_kinds_65, y_blocks_65, y_runs_65, y_revokes_65, y_from, y_uses, y_revoked, y_had, y_data) := by
  obtain ⟨σ, hr, hsw⟩ := hpre
  obtain ⟨ring, run, rev, now, d, g⟩ := σ
  obtain ⟨o, a1, a2, a3, a4, a5, a6, a7, a8, a9, a10, a11, a12, a13, a14⟩ := m_al hr hsw c_9
  obtain ⟨q, hq, rfl, hnb⟩ := nb_n w_16 c_19
  obtain ⟨b1, b2⟩ := w_65 d run rev 4 0 hr.1 a7 (by rw [a6]; decide) rfl (by decide) rfl (fun z => (nomatch z))
  have b1 : r_65 = b2i (sBar d).1 := b1
  have b2 : RMs (sBar d).2 run rev _ := b2
  have z1 := b2i_n0.mp (fun y => c_68 (b1.trans y))
  have k1 := DW_bar a7
  have l1 : (sBar d).2.1.length < 200 := by rw [bar_nil z1]; decide
  exact ⟨(sBar d).2, run, rev, 0, q, b2, k1, l1, rfl, by decide, rfl, fun _ => hq⟩
theorem vc_M_direct_83_0 (a_b : Int32) (a_v : Int32) (y_thrown : Int32) (y_ring : Int32) (y_off : Int32) (y_fuse : Int32) (y_steps : Int32) (y_many : Int32) (y_log : Int32) (y_before : Int32) (y_home : Nat → Int32) (y_base : Nat → Int32) (y_now : Nat → Int32) (y_kinds : Nat → Int32) (y_blocks : Nat → Int32) (y_runs : Nat → Int32) (y_revokes : Nat → Int32) (y_from : Nat → Int32) (y_uses : Nat → Int32) (y_revoked : Nat → Int32) (y_had : Nat → Int32) (y_data : Nat → Int32) (r_16 : Int32) (v_38 : Int32) (v_47 : Int32) (r_53 : Int32) (r_65 : Int32) (y_off_65 : Int32) (y_fuse_65 : Int32) (y_steps_65 : Int32) (y_many_65 : Int32) (y_base_65 : Nat → Int32) (y_kinds_65 : Nat → Int32) (y_blocks_65 : Nat → Int32) (y_runs_65 : Nat → Int32) (y_revokes_65 : Nat → Int32) (r_74 : Int32) (y_off_74 : Int32) (y_fuse_74 : Int32) (y_steps_74 : Int32) (y_many_74 : Int32) (y_base_74 : Nat → Int32) (y_kinds_74 : Nat → Int32) (y_blocks_74 : Nat → Int32) (y_runs_74 : Nat → Int32) (y_revokes_74 : Nat → Int32) (hpre : pr_M_direct a_b a_v (y_thrown, y_ring, y_off, y_fuse, y_steps, y_many, y_log, y_before, y_home, y_base, y_now, y_kinds, y_blocks, y_runs, y_revokes, y_from, y_uses, y_revoked, y_had, y_data)) (c_9 : y_off = 0) (w_16 : po_M_noBlock a_b r_16) (c_19 : r_16 = 0) (c_23 : ¬ a_v < 0) (c_30 : ¬ 255 < a_v) (e_38 : v_38 = (y_runs (a_b).toNatClampNeg)) (c_39 : v_38 = 0) (e_47 : v_47 = (y_revokes (a_b).toNatClampNeg)) (c_48 : v_47 = 0) (w_53 : po_M_told a_b (0, y_ring, y_off, y_fuse, y_steps, y_many, y_log, y_before, y_home, y_base, y_now, y_kinds, y_blocks, y_runs, y_revokes, y_from, y_uses, y_revoked, y_had, y_data) r_53) (c_56 : r_53 < 0) (w_65 : po_M_step 4 0 (0, y_ring, y_off, y_fuse, y_steps, y_many, y_log, y_before, y_home, y_base, y_now, y_kinds, y_blocks, y_runs, y_revokes, y_from, y_uses, y_revoked, y_had, y_data) r_65 (0, y_ring, y_off_65, y_fuse_65, y_steps_65, y_many_65, y_log, y_before, y_home, y_base_65, y_now, y_kinds_65, y_blocks_65, y_runs_65, y_revokes_65, y_from, y_uses, y_revoked, y_had, y_data)) (c_68 : ¬ r_65 = 0) (w_74 : po_M_step 0 a_b (0, y_ring, y_off_65, y_fuse_65, y_steps_65, y_many_65, y_log, y_before, y_home, y_base_65, y_now, y_kinds_65, y_blocks_65, y_runs_65, y_revokes_65, y_from, y_uses, y_revoked, y_had, y_data) r_74 (0, y_ring, y_off_74, y_fuse_74, y_steps_74, y_many_74, y_log, y_before, y_home, y_base_74, y_now, y_kinds_74, y_blocks_74, y_runs_74, y_revokes_74, y_from, y_uses, y_revoked, y_had, y_data)) (c_77 : ¬ r_74 = 0) : iv_M_direct_84 a_b a_v (y_thrown, y_ring, y_off, y_fuse, y_steps, y_many, y_log, y_before, y_home, y_base, y_now, y_kinds, y_blocks, y_runs, y_revokes, y_from, y_uses, y_revoked, y_had, y_data) 0 (0, y_ring, y_off_74, y_fuse_74, y_steps_74, y_many_74, y_log, y_before, y_home, y_base_74, y_now, y_kinds_74, y_blocks_74, y_runs_74, y_revokes_74, y_from, y_uses, y_revoked, y_had, y_data) ∧ True := by
  obtain ⟨σ0, hr0, hs0⟩ := hpre
  obtain ⟨q, hq, rfl, hnb⟩ := nb_n w_16 c_19
  refine ⟨⟨q, 0, hq, rfl, c_23, c_30, by omega, rfl, (fillF_0 _ _ _).symm, (fillF_0 _ _ _).symm, c_9, fun ring run rev now d g hr hsw => ?_⟩, trivial⟩
  obtain ⟨o, a1, a2, a3, a4, a5, a6, a7, a8, a9, a10, a11, a12, a13, a14⟩ := m_al hr hsw c_9
  have fr := dir_free a8 hq (row_at a1 hq e_38) c_39 (row_at a2 hq e_47) c_48 (w_53 g q hr.2.1 a5 a8 rfl hq) c_56
  obtain ⟨b1, b2⟩ := w_65 d run rev 4 0 hr.1 a7 (by rw [a6]; decide) rfl (by decide) rfl (fun z => (nomatch z))
  have b1 : r_65 = b2i (sBar d).1 := b1
  have b2 : RMs (sBar d).2 run rev _ := b2
  have z1 := b2i_n0.mp (fun y => c_68 (b1.trans y))
  have k1 := DW_bar a7
  have l1 : (sBar d).2.1.length < 200 := by rw [bar_nil z1]; decide
  obtain ⟨d1, d2⟩ := w_74 (sBar d).2 run rev 0 q b2 k1 l1 rfl (by decide) rfl (fun _ => hq)
  have d1 : r_74 = b2i (sMark q (sBar d).2).1 := d1
  have d2 : RMs (sMark q (sBar d).2).2 run rev _ := d2
  have z2 := b2i_n0.mp (fun y => c_77 (d1.trans y))
  exact ⟨fr, z1, z2, d2⟩
theorem vc_M_direct_81_1 (a_b : Int32) (a_v : Int32) (y_thrown : Int32) (y_ring : Int32) (y_off : Int32) (y_fuse : Int32) (y_steps : Int32) (y_many : Int32) (y_log : Int32) (y_before : Int32) (y_home : Nat → Int32) (y_base : Nat → Int32) (y_now : Nat → Int32) (y_kinds : Nat → Int32) (y_blocks : Nat → Int32) (y_runs : Nat → Int32) (y_revokes : Nat → Int32) (y_from : Nat → Int32) (y_uses : Nat → Int32) (y_revoked : Nat → Int32) (y_had : Nat → Int32) (y_data : Nat → Int32) (r_16 : Int32) (v_38 : Int32) (v_47 : Int32) (r_53 : Int32) (r_65 : Int32) (y_off_65 : Int32) (y_fuse_65 : Int32) (y_steps_65 : Int32) (y_many_65 : Int32) (y_base_65 : Nat → Int32) (y_kinds_65 : Nat → Int32) (y_blocks_65 : Nat → Int32) (y_runs_65 : Nat → Int32) (y_revokes_65 : Nat → Int32) (r_74 : Int32) (y_off_74 : Int32) (y_fuse_74 : Int32) (y_steps_74 : Int32) (y_many_74 : Int32) (y_base_74 : Nat → Int32) (y_kinds_74 : Nat → Int32) (y_blocks_74 : Nat → Int32) (y_runs_74 : Nat → Int32) (y_revokes_74 : Nat → Int32) (hpre : pr_M_direct a_b a_v (y_thrown, y_ring, y_off, y_fuse, y_steps, y_many, y_log, y_before, y_home, y_base, y_now, y_kinds, y_blocks, y_runs, y_revokes, y_from, y_uses, y_revoked, y_had, y_data)) (c_9 : y_off = 0) (w_16 : po_M_noBlock a_b r_16) (c_19 : r_16 = 0) (c_23 : ¬ a_v < 0) (c_30 : ¬ 255 < a_v) (e_38 : v_38 = (y_runs (a_b).toNatClampNeg)) (c_39 : v_38 = 0) (e_47 : v_47 = (y_revokes (a_b).toNatClampNeg)) (c_48 : v_47 = 0) (w_53 : po_M_told a_b (0, y_ring, y_off, y_fuse, y_steps, y_many, y_log, y_before, y_home, y_base, y_now, y_kinds, y_blocks, y_runs, y_revokes, y_from, y_uses, y_revoked, y_had, y_data) r_53) (c_56 : r_53 < 0) (w_65 : po_M_step 4 0 (0, y_ring, y_off, y_fuse, y_steps, y_many, y_log, y_before, y_home, y_base, y_now, y_kinds, y_blocks, y_runs, y_revokes, y_from, y_uses, y_revoked, y_had, y_data) r_65 (0, y_ring, y_off_65, y_fuse_65, y_steps_65, y_many_65, y_log, y_before, y_home, y_base_65, y_now, y_kinds_65, y_blocks_65, y_runs_65, y_revokes_65, y_from, y_uses, y_revoked, y_had, y_data)) (c_68 : ¬ r_65 = 0) (w_74 : po_M_step 0 a_b (0, y_ring, y_off_65, y_fuse_65, y_steps_65, y_many_65, y_log, y_before, y_home, y_base_65, y_now, y_kinds_65, y_blocks_65, y_runs_65, y_revokes_65, y_from, y_uses, y_revoked, y_had, y_data) r_74 (0, y_ring, y_off_74, y_fuse_74, y_steps_74, y_many_74, y_log, y_before, y_home, y_base_74, y_now, y_kinds_74, y_blocks_74, y_runs_74, y_revokes_74, y_from, y_uses, y_revoked, y_had, y_data)) (c_77 : r_74 = 0) : po_M_direct a_b a_v (y_thrown, y_ring, y_off, y_fuse, y_steps, y_many, y_log, y_before, y_home, y_base, y_now, y_kinds, y_blocks, y_runs, y_revokes, y_from, y_uses, y_revoked, y_had, y_data) (-1) (0, y_ring, y_off_74, y_fuse_74, y_steps_74, y_many_74, y_log, y_before, y_home, y_base_74, y_now, y_kinds_74, y_blocks_74, y_runs_74, y_revokes_74, y_from, y_uses, y_revoked, y_had, y_data) := by
  intro σ hr hsw
  obtain ⟨ring, run, rev, now, d, g⟩ := σ
  obtain ⟨o, a1, a2, a3, a4, a5, a6, a7, a8, a9, a10, a11, a12, a13, a14⟩ := m_al hr hsw c_9
  obtain ⟨q, hq, rfl, hnb⟩ := nb_n w_16 c_19
  have hbad : ¬ (nI q < 0 ∨ 64 ≤ nI q ∨ a_v < 0 ∨ 255 < a_v) := fun z => z.elim (fun z => hnb (Or.inl z)) (fun z => z.elim (fun z => hnb (Or.inr z)) (fun z => z.elim c_23 c_30))
  have fr := dir_free a8 hq (row_at a1 hq e_38) c_39 (row_at a2 hq e_47) c_48 (w_53 g q hr.2.1 a5 a8 rfl hq) c_56
  obtain ⟨b1, b2⟩ := w_65 d run rev 4 0 hr.1 a7 (by rw [a6]; decide) rfl (by decide) rfl (fun z => (nomatch z))
  have b1 : r_65 = b2i (sBar d).1 := b1
  have b2 : RMs (sBar d).2 run rev _ := b2
  have z1 := b2i_n0.mp (fun y => c_68 (b1.trans y))
  have k1 := DW_bar a7
  have l1 : (sBar d).2.1.length < 200 := by rw [bar_nil z1]; decide
  obtain ⟨d1, d2⟩ := w_74 (sBar d).2 run rev 0 q b2 k1 l1 rfl (by decide) rfl (fun _ => hq)
  have d1 : r_74 = b2i (sMark q (sBar d).2).1 := d1
  have d2 : RMs (sMark q (sBar d).2).2 run rev _ := d2
  obtain ⟨m1, m2, m3⟩ := mark_home (b := q) (sp := q * 256) (f := fillF now (q * 256) 256 a_v.toInt8.toInt32) (d := (sBar d).2)
  have z2 := b2i_0.mp (d1.symm.trans c_77)
  rw [fD_go o hbad (by rw [nI_clamp (by omega)]; exact fr), nI_clamp (by omega)]
  rw [dg_2 z1 (m1.trans z2), m2 z2]
  have ho := home_off (m1.trans z2)
  rw [m2 z2] at ho
  exact ⟨rfl, d2, hr.2.1, RMn_hs (by rw [ho.2, bar_nil z1]; exact hs_nil) a5, RMo_off hr.2.2.2 ho.1 (fill_tail hq)⟩
theorem vc_M_direct_61_5 (a_b : Int32) (a_v : Int32) (y_thrown : Int32) (y_ring : Int32) (y_off : Int32) (y_fuse : Int32) (y_steps : Int32) (y_many : Int32) (y_log : Int32) (y_before : Int32) (y_home : Nat → Int32) (y_base : Nat → Int32) (y_now : Nat → Int32) (y_kinds : Nat → Int32) (y_blocks : Nat → Int32) (y_runs : Nat → Int32) (y_revokes : Nat → Int32) (y_from : Nat → Int32) (y_uses : Nat → Int32) (y_revoked : Nat → Int32) (y_had : Nat → Int32) (y_data : Nat → Int32) (r_16 : Int32) (v_38 : Int32) (v_47 : Int32) (r_53 : Int32) (hpre : pr_M_direct a_b a_v (y_thrown, y_ring, y_off, y_fuse, y_steps, y_many, y_log, y_before, y_home, y_base, y_now, y_kinds, y_blocks, y_runs, y_revokes, y_from, y_uses, y_revoked, y_had, y_data)) (c_9 : y_off = 0) (w_16 : po_M_noBlock a_b r_16) (c_19 : r_16 = 0) (c_23 : ¬ a_v < 0) (c_30 : ¬ 255 < a_v) (e_38 : v_38 = (y_runs (a_b).toNatClampNeg)) (c_39 : v_38 = 0) (e_47 : v_47 = (y_revokes (a_b).toNatClampNeg)) (c_48 : v_47 = 0) (w_53 : po_M_told a_b (0, y_ring, y_off, y_fuse, y_steps, y_many, y_log, y_before, y_home, y_base, y_now, y_kinds, y_blocks, y_runs, y_revokes, y_from, y_uses, y_revoked, y_had, y_data) r_53) (c_56 : ¬ r_53 < 0) : po_M_direct a_b a_v (y_thrown, y_ring, y_off, y_fuse, y_steps, y_many, y_log, y_before, y_home, y_base, y_now, y_kinds, y_blocks, y_runs, y_revokes, y_from, y_uses, y_revoked, y_had, y_data) (-2) (0, y_ring, y_off, y_fuse, y_steps, y_many, y_log, y_before, y_home, y_base, y_now, y_kinds, y_blocks, y_runs, y_revokes, y_from, y_uses, y_revoked, y_had, y_data) := by
  intro σ hr hsw
  obtain ⟨ring, run, rev, now, d, g⟩ := σ
  obtain ⟨o, a1, a2, a3, a4, a5, a6, a7, a8, a9, a10, a11, a12, a13, a14⟩ := m_al hr hsw c_9
  obtain ⟨q, hq, rfl, hnb⟩ := nb_n w_16 c_19
  have hbad : ¬ (nI q < 0 ∨ 64 ≤ nI q ∨ a_v < 0 ∨ 255 < a_v) := fun z => z.elim (fun z => hnb (Or.inl z)) (fun z => z.elim (fun z => hnb (Or.inr z)) (fun z => z.elim c_23 c_30))
  have w := w_53 g q hr.2.1 a5 a8 rfl hq
  rw [w] at c_56
  have hz : bitt (sLying g) q = true := told_po c_56
  rw [fD_busy o hbad (by rw [nI_clamp (by omega), bt_or, bt_or, hz]; simp)]
  exact ⟨rfl, hr⟩
theorem vc_M_direct_13_0 (a_b : Int32) (a_v : Int32) (y_thrown : Int32) (y_ring : Int32) (y_off : Int32) (y_fuse : Int32) (y_steps : Int32) (y_many : Int32) (y_log : Int32) (y_before : Int32) (y_home : Nat → Int32) (y_base : Nat → Int32) (y_now : Nat → Int32) (y_kinds : Nat → Int32) (y_blocks : Nat → Int32) (y_runs : Nat → Int32) (y_revokes : Nat → Int32) (y_from : Nat → Int32) (y_uses : Nat → Int32) (y_revoked : Nat → Int32) (y_had : Nat → Int32) (y_data : Nat → Int32) (hpre : pr_M_direct a_b a_v (y_thrown, y_ring, y_off, y_fuse, y_steps, y_many, y_log, y_before, y_home, y_base, y_now, y_kinds, y_blocks, y_runs, y_revokes, y_from, y_uses, y_revoked, y_had, y_data)) (c_9 : ¬ y_off = 0) : po_M_direct a_b a_v (y_thrown, y_ring, y_off, y_fuse, y_steps, y_many, y_log, y_before, y_home, y_base, y_now, y_kinds, y_blocks, y_runs, y_revokes, y_from, y_uses, y_revoked, y_had, y_data) (-1) (0, y_ring, y_off, y_fuse, y_steps, y_many, y_log, y_before, y_home, y_base, y_now, y_kinds, y_blocks, y_runs, y_revokes, y_from, y_uses, y_revoked, y_had, y_data) := by
  intro σ hr hsw
  obtain ⟨ring, run, rev, now, d, g⟩ := σ
  rw [fD_off (m_off hr c_9)]
  exact ⟨rfl, hr⟩
