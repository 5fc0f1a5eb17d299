def iv_M_commit_101 (y : MDt) (x3 x4 : Int32) (y2 : MDt) : Prop := ∃ k : Nat, 1 ≤ k ∧ x4 = nI k ∧ yNow y2 = yNow y ∧ yOff y = 0 ∧ ∀ (ring : Nat) (run rev : Int64) (now : Nat → Int32) (d : Dk) (g : Lg), RM (ring, run, rev, now, d, g) y → SW (ring, run, rev, now, d, g) → x3 = nI (sUse run rev) ∧ k ≤ sUse run rev ∧ ¬ run ||| rev = 0 ∧ ∃ (d0 : Dk) (g0 : Lg) (d1 : Dk), fCommit (ring, run, rev, now, d, g) = cGo ring run rev now d0 g0 ∧ d0.1 = [] ∧ DW d0 ∧ LW ring g0 ∧ sUsed g0 + sUse run rev ≤ ring - 1 ∧ sBody (sUse run rev - 1) d0 = sBody (sUse run rev - k) d1 ∧ RMs d1 run rev y2 ∧ RMl g0 y2 ∧ lgN g0.1 y2 ∧ DW d1 ∧ d1.2.1 = true ∧ d1.1.length = k - 1 ∧ ∀ e ∈ d1.1, e = 64
def mu_M_commit_101 (_ : MDt) (x3 x4 : Int32) (_ : MDt) : Nat := x3.toNatClampNeg - x4.toNatClampNeg
theorem use_0 : ∀ c, c < 65 → ((nI c + (((nI c + 28) - 1) / 28)) + 0) + 1 = nI (c + (c + 27) / 28 + 0 + 1) := by decide +kernel
theorem use_1 : ∀ c, c < 65 → ((nI c + (((nI c + 28) - 1) / 28)) + 1) + 1 = nI (c + (c + 27) / 28 + 1 + 1) := by decide +kernel
theorem or_z {x y : Int64} (h : x ||| y = 0) : x = 0 ∧ y = 0 := by
  constructor
  · apply bt_ext; intro i hi
    have e := bt_or x y i
    rw [h, bt_zero] at e
    rw [bt_zero]
    cases z : bitt x i
    · rfl
    · rw [z] at e; cases e
  · apply bt_ext; intro i hi
    have e := bt_or x y i
    rw [h, bt_zero] at e
    rw [bt_zero]
    cases z : bitt y i
    · rfl
    · rw [z, Bool.or_true] at e; cases e
theorem sw_lw {ring : Nat} {run rev : Int64} {now : Nat → Int32} {d : Dk} {g : Lg} (h : SW (ring, run, rev, now, d, g)) : LW ring g ∧ sUsed g ≤ ring - 1 ∧ 40 ≤ ring := by
  obtain ⟨u, on, fu, st, ba, ho⟩ := d
  obtain ⟨n, blk, rvk, use, fst, im⟩ := g
  have l := h.2.2.2.2.2.2.2.2.2.2
  exact ⟨l, l.2.2.1, h.1⟩
theorem LW_0 {ring : Nat} {g : Lg} (h : LW ring g) : LW ring (0, g.2) := by
  obtain ⟨n, blk, rvk, use, fst, im⟩ := g
  obtain ⟨h1, h2, h3, h4⟩ := h
  exact ⟨h1, fun t ht => absurd ht (Nat.not_lt_zero _), Nat.zero_le _, h4⟩
theorem lw_bnd {ring : Nat} {run rev : Int64} {g : Lg} (h : LW ring g) (us : sUsed g + sUse run rev ≤ ring - 1) (u3 : cnt run + 1 ≤ sUse run rev) (u4 : 2 ≤ sUse run rev) (hr : ring ≤ 200) : g.2.2.2.2.1 g.1 + cnt run ≤ 200 ∧ g.1 < 99 := by
  obtain ⟨n, blk, rvk, use, fst, im⟩ := g
  have f := fst_used h
  have s := sum_ge2 n (fun t ht => (h.2.1 t ht).2.2.1)
  have us : sumN use n + sUse run rev ≤ ring - 1 := us
  show fst n + cnt run ≤ 200 ∧ n < 99
  omega
theorem RMs_run {d : Dk} {run rev : Int64} {y : MDt} (h : RMs d run rev y) (o : d.2.1 = true) : yRun run rev y := by
  obtain ⟨u, on, f, st, ba, ho⟩ := d
  obtain ⟨th, rg, off, fuse, steps, many, log, before, home, base, nw, kinds, blocks, runs, revokes, frm, uses, revoked, had, data⟩ := y
  have o : on = true := o
  subst o
  exact ⟨h.2.2.2.2.2.2.1, h.2.2.2.2.2.2.2⟩
theorem RMs_new {d : Dk} {run rev : Int64} {th th2 rg rg2 off fuse steps many log log2 before before2 : Int32} {home base nw nw2 kinds blocks runs runs2 revokes revokes2 frm frm2 uses uses2 revoked revoked2 had had2 data data2 : Nat → Int32} (h : RMs d run rev (th, rg, off, fuse, steps, many, log, before, home, base, nw, kinds, blocks, runs, revokes, frm, uses, revoked, had, data)) (o : d.2.1 = true) (h2 : yRun 0 0 (th2, rg2, off, fuse, steps, many, log2, before2, home, base, nw2, kinds, blocks, runs2, revokes2, frm2, uses2, revoked2, had2, data2)) : RMs d 0 0 (th2, rg2, off, fuse, steps, many, log2, before2, home, base, nw2, kinds, blocks, runs2, revokes2, frm2, uses2, revoked2, had2, data2) := by
  obtain ⟨u, on, f, st, ba, ho⟩ := d
  have o : on = true := o
  subst o
  obtain ⟨q1, q2, q3, q4, q5, q6, q7, q8⟩ := h
  exact ⟨q1, q2, q3, q4, q5, q6, h2.1, h2.2⟩
theorem end_on {d : Dk} {g : Lg} (h : (sEnd d g).1 = true) : (sEnd d g).2.1.2.1 = d.2.1 := by
  cases z1 : (sBar d).1
  · rw [end_f1 z1] at h; cases h
  · cases z2 : (sRing 66 (sBar d).2).1
    · rw [end_f2 z1 z2] at h; cases h
    · rw [end_3 z1 z2] at h ⊢
      exact (bar_on h).trans ((ring_on z2).trans (bar_on z1))
theorem end_off {d : Dk} {g : Lg} (h : (sEnd d g).1 = false) : (sEnd d g).2.1.2.1 = false := by
  cases z1 : (sBar d).1
  · rw [end_f1 z1]; exact bar_off z1
  · cases z2 : (sRing 66 (sBar d).2).1
    · rw [end_f2 z1 z2]; exact ring_off z2
    · rw [end_3 z1 z2] at h ⊢
      exact bar_off h
theorem clrN_on {g : Lg} (ly : Int64) : ∀ (k b : Nat) (d : Dk), ((sClrN g ly b k d).1 = true → (sClrN g ly b k d).2.2.1 = d.2.1) ∧ ((sClrN g ly b k d).1 = false → (sClrN g ly b k d).2.2.1 = false) := by
  intro k
  induction k with
  | zero => intro b d; exact ⟨fun _ => rfl, fun z => (nomatch z)⟩
  | succ k ih =>
    intro b d
    cases e : bitt ly b
    · rw [clr_s e]; exact ih (b + 1) d
    · cases z : (sHome b g.2.2.2.2.2 (sLate g b) d).1
      · rw [clr_f e z]; exact ⟨fun y => (nomatch y), fun _ => (home_off z).1⟩
      · rw [clr_t e z]
        have i := ih (b + 1) (sHome b g.2.2.2.2.2 (sLate g b) d).2
        rw [home_on z] at i
        exact i
theorem clear_on {d : Dk} {g : Lg} : ((sClear d g).1 = true → (sClear d g).2.1.2.1 = d.2.1) ∧ ((sClear d g).1 = false → (sClear d g).2.1.2.1 = false) := by
  have k := clrN_on (g := g) (sLying g) 64 0 d
  cases z : (sClrN g (sLying g) 0 64 d).1
  · have e : sClrN g (sLying g) 0 64 d = (false, (sClrN g (sLying g) 0 64 d).2) := Prod.ext z rfl
    rw [clear_f e]
    exact ⟨fun q => (nomatch q), fun _ => k.2 z⟩
  · have e : sClrN g (sLying g) 0 64 d = (true, (sClrN g (sLying g) 0 64 d).2) := Prod.ext z rfl
    rw [clear_t e]
    exact ⟨fun q => (end_on q).trans (k.1 z), fun q => end_off q⟩
theorem RMl_0 {g : Lg} {y : MDt} (h : RMl g y) : RMl (0, g.2) y := by
  obtain ⟨n, blk, rvk, use, fst, im⟩ := g
  obtain ⟨th, rg, off, fuse, steps, many, log, before, home, base, nw, kinds, blocks, runs, revokes, frm, uses, revoked, had, data⟩ := y
  exact ⟨fun t ht => h.1 t (Nat.le_trans ht (Nat.zero_le _)), fun t ht => absurd ht (Nat.not_lt_zero _), h.2.2⟩
theorem clr_l {d : Dk} {g : Lg} {y : MDt} (h : DW d) (hn : d.1 = []) (o : okG g) (hl : RMl g y) : RMl (sClear d g).2.2 y := by
  obtain ⟨x1, x2, x3⟩ := clear_wf h hn o
  cases z : (sClear d g).1
  · rw [x3 z]; exact hl
  · rw [(x2 z).2]; exact RMl_0 hl
theorem clr_on {d : Dk} {g : Lg} (h : DW d) (hn : d.1 = []) (o : okG g) (on : d.2.1 = true) (z : (sClear d g).1 = true) : (sClear d g).2.1.2.1 = true := (clear_on.1 z).trans on
theorem clr_o {ring : Nat} {now : Nat → Int32} {d : Dk} {g : Lg} {y : MDt} (h : DW d) (hn : d.1 = []) (o : okG g) (hl : RMo ring d.2.1 now y) (on : d.2.1 = true) : RMo ring (sClear d g).2.1.2.1 now y := by
  cases z : (sClear d g).1
  · exact RMo_off hl (clear_on.2 z) (fun _ _ => rfl)
  · rw [clear_on.1 z]; exact hl

theorem vc_M_commit_127_0 (y_thrown : Int32) (y_ring : Int32) (y_off : Int32) (y_fuse : Int32) (y_steps : Int32) (y_many : Int32) (y_log : Int32) (y_before : Int32) (y_home : Nat → Int32) (y_base : Nat → Int32) (y_now : Nat → Int32) (y_kinds : Nat → Int32) (y_blocks : Nat → Int32) (y_runs : Nat → Int32) (y_revokes : Nat → Int32) (y_from : Nat → Int32) (y_uses : Nat → Int32) (y_revoked : Nat → Int32) (y_had : Nat → Int32) (y_data : Nat → Int32) (x3 : Int32) (x4 : Int32) (y_thrown_i : Int32) (y_off_i : Int32) (y_fuse_i : Int32) (y_steps_i : Int32) (y_many_i : Int32) (y_log_i : Int32) (y_before_i : Int32) (y_home_i : Nat → Int32) (y_base_i : Nat → Int32) (y_kinds_i : Nat → Int32) (y_blocks_i : Nat → Int32) (y_runs_i : Nat → Int32) (y_revokes_i : Nat → Int32) (y_from_i : Nat → Int32) (y_uses_i : Nat → Int32) (y_revoked_i : Nat → Int32) (y_had_i : Nat → Int32) (y_data_i : Nat → Int32) (hpre : pr_M_commit (y_thrown, y_ring, y_off, y_fuse, y_steps, y_many, y_log, y_before, y_home, y_base, y_now, y_kinds, y_blocks, y_runs, y_revokes, y_from, y_uses, y_revoked, y_had, y_data)) (hinv : iv_M_commit_101 (y_thrown, y_ring, y_off, y_fuse, y_steps, y_many, y_log, y_before, y_home, y_base, y_now, y_kinds, y_blocks, y_runs, y_revokes, y_from, y_uses, y_revoked, y_had, y_data) x3 x4 (y_thrown_i, y_ring, y_off_i, y_fuse_i, y_steps_i, y_many_i, y_log_i, y_before_i, y_home_i, y_base_i, y_now, y_kinds_i, y_blocks_i, y_runs_i, y_revokes_i, y_from_i, y_uses_i, y_revoked_i, y_had_i, y_data_i)) (c_104 : x3 ≤ x4) : pr_M_step 4 0 (y_thrown_i, y_ring, y_off_i, y_fuse_i, y_steps_i, y_many_i, y_log_i, y_before_i, y_home_i, y_base_i, y_now, y_kinds_i, y_blocks_i, y_runs_i, y_revokes_i, y_from_i, y_uses_i, y_revoked_i, y_had_i, y_data_i) := by
  obtain ⟨k, hk1, rfl, i2, c_9, h⟩ := hinv
  obtain ⟨σ, hr, hsw⟩ := hpre
  obtain ⟨ring, run, rev, now, d, g⟩ := σ
  obtain ⟨o, a1, a2, a3, a4, a5, a6, a7, a8, a9, a10, a11, a12, a13, a14⟩ := m_al hr hsw c_9
  obtain ⟨j1, j2, hz, d0, g0, d1, e0, n0, w0, lw0, us0, eb, rs, rl, ln, w1, o1, l1, al⟩ := h ring run rev now d g hr hsw
  subst j1
  obtain ⟨u1, u2, u3⟩ := use_le (run := run) (rev := rev) a9
  have u4 := use_ge2 hz
  have hge : sUse run rev ≤ k := (nI_leI (by omega) (by omega)).mp c_104
  have ek : sUse run rev - k = 0 := by omega
  rw [ek] at eb
  have eb : sBody (sUse run rev - 1) d0 = (true, d1) := eb
  exact ⟨d1, run, rev, 4, 0, rs, w1, by omega, rfl, by decide, rfl, fun z => (nomatch z)⟩
theorem vc_M_commit_143_0 (y_thrown : Int32) (y_ring : Int32) (y_off : Int32) (y_fuse : Int32) (y_steps : Int32) (y_many : Int32) (y_log : Int32) (y_before : Int32) (y_home : Nat → Int32) (y_base : Nat → Int32) (y_now : Nat → Int32) (y_kinds : Nat → Int32) (y_blocks : Nat → Int32) (y_runs : Nat → Int32) (y_revokes : Nat → Int32) (y_from : Nat → Int32) (y_uses : Nat → Int32) (y_revoked : Nat → Int32) (y_had : Nat → Int32) (y_data : Nat → Int32) (x3 : Int32) (x4 : Int32) (y_thrown_i : Int32) (y_off_i : Int32) (y_fuse_i : Int32) (y_steps_i : Int32) (y_many_i : Int32) (y_log_i : Int32) (y_before_i : Int32) (y_home_i : Nat → Int32) (y_base_i : Nat → Int32) (y_kinds_i : Nat → Int32) (y_blocks_i : Nat → Int32) (y_runs_i : Nat → Int32) (y_revokes_i : Nat → Int32) (y_from_i : Nat → Int32) (y_uses_i : Nat → Int32) (y_revoked_i : Nat → Int32) (y_had_i : Nat → Int32) (y_data_i : Nat → Int32) (r_127 : Int32) (y_off_127 : Int32) (y_fuse_127 : Int32) (y_steps_127 : Int32) (y_many_127 : Int32) (y_base_127 : Nat → Int32) (y_kinds_127 : Nat → Int32) (y_blocks_127 : Nat → Int32) (y_runs_127 : Nat → Int32) (y_revokes_127 : Nat → Int32) (hpre : pr_M_commit (y_thrown, y_ring, y_off, y_fuse, y_steps, y_many, y_log, y_before, y_home, y_base, y_now, y_kinds, y_blocks, y_runs, y_revokes, y_from, y_uses, y_revoked, y_had, y_data)) (hinv : iv_M_commit_101 (y_thrown, y_ring, y_off, y_fuse, y_steps, y_many, y_log, y_before, y_home, y_base, y_now, y_kinds, y_blocks, y_runs, y_revokes, y_from, y_uses, y_revoked, y_had, y_data) x3 x4 (y_thrown_i, y_ring, y_off_i, y_fuse_i, y_steps_i, y_many_i, y_log_i, y_before_i, y_home_i, y_base_i, y_now, y_kinds_i, y_blocks_i, y_runs_i, y_revokes_i, y_from_i, y_uses_i, y_revoked_i, y_had_i, y_data_i)) (c_104 : x3 ≤ x4) (w_127 : po_M_step 4 0 (y_thrown_i, y_ring, y_off_i, y_fuse_i, y_steps_i, y_many_i, y_log_i, y_before_i, y_home_i, y_base_i, y_now, y_kinds_i, y_blocks_i, y_runs_i, y_revokes_i, y_from_i, y_uses_i, y_revoked_i, y_had_i, y_data_i) r_127 (y_thrown_i, y_ring, y_off_127, y_fuse_127, y_steps_127, y_many_127, y_log_i, y_before_i, y_home_i, y_base_127, y_now, y_kinds_127, y_blocks_127, y_runs_127, y_revokes_127, y_from_i, y_uses_i, y_revoked_i, y_had_i, y_data_i)) (c_130 : r_127 = 0) : po_M_commit (y_thrown, y_ring, y_off, y_fuse, y_steps, y_many, y_log, y_before, y_home, y_base, y_now, y_kinds, y_blocks, y_runs, y_revokes, y_from, y_uses, y_revoked, y_had, y_data) (-1) (y_thrown_i, y_ring, y_off_127, y_fuse_127, y_steps_127, y_many_127, y_log_i, y_before_i, y_home_i, y_base_127, y_now, y_kinds_127, y_blocks_127, y_runs_127, y_revokes_127, y_from_i, y_uses_i, y_revoked_i, y_had_i, y_data_i) := by
  intro σ hr hsw
  obtain ⟨ring, run, rev, now, d, g⟩ := σ
  obtain ⟨k, hk1, rfl, i2, c_9, h⟩ := hinv
  obtain ⟨o, a1, a2, a3, a4, a5, a6, a7, a8, a9, a10, a11, a12, a13, a14⟩ := m_al hr hsw c_9
  obtain ⟨j1, j2, hz, d0, g0, d1, e0, n0, w0, lw0, us0, eb, rs, rl, ln, w1, o1, l1, al⟩ := h ring run rev now d g hr hsw
  subst j1
  obtain ⟨u1, u2, u3⟩ := use_le (run := run) (rev := rev) a9
  have u4 := use_ge2 hz
  have hge : sUse run rev ≤ k := (nI_leI (by omega) (by omega)).mp c_104
  have ek : sUse run rev - k = 0 := by omega
  rw [ek] at eb
  have eb : sBody (sUse run rev - 1) d0 = (true, d1) := eb
  obtain ⟨b1, b2⟩ := w_127 d1 run rev 4 0 rs w1 (by omega) rfl (by decide) rfl (fun z => (nomatch z))
  have b1 : r_127 = b2i (sBar d1).1 := b1
  have b2 : RMs (sBar d1).2 run rev _ := b2
  have z1 := b2i_0.mp (b1.symm.trans c_130)
  rw [e0, cg_e (tr_1 eb z1)]
  exact ⟨rfl, b2, rl, RMn_not (by rw [bar_fu z1]; exact fun y => absurd (al _ y) (by decide)) ln, RMo_off hr.2.2.2 (bar_off z1) (fun _ _ => rfl)⟩
theorem vc_M_commit_136_0 (y_thrown : Int32) (y_ring : Int32) (y_off : Int32) (y_fuse : Int32) (y_steps : Int32) (y_many : Int32) (y_log : Int32) (y_before : Int32) (y_home : Nat → Int32) (y_base : Nat → Int32) (y_now : Nat → Int32) (y_kinds : Nat → Int32) (y_blocks : Nat → Int32) (y_runs : Nat → Int32) (y_revokes : Nat → Int32) (y_from : Nat → Int32) (y_uses : Nat → Int32) (y_revoked : Nat → Int32) (y_had : Nat → Int32) (y_data : Nat → Int32) (x3 : Int32) (x4 : Int32) (y_thrown_i : Int32) (y_off_i : Int32) (y_fuse_i : Int32) (y_steps_i : Int32) (y_many_i : Int32) (y_log_i : Int32) (y_before_i : Int32) (y_home_i : Nat → Int32) (y_base_i : Nat → Int32) (y_kinds_i : Nat → Int32) (y_blocks_i : Nat → Int32) (y_runs_i : Nat → Int32) (y_revokes_i : Nat → Int32) (y_from_i : Nat → Int32) (y_uses_i : Nat → Int32) (y_revoked_i : Nat → Int32) (y_had_i : Nat → Int32) (y_data_i : Nat → Int32) (r_127 : Int32) (y_off_127 : Int32) (y_fuse_127 : Int32) (y_steps_127 : Int32) (y_many_127 : Int32) (y_base_127 : Nat → Int32) (y_kinds_127 : Nat → Int32) (y_blocks_127 : Nat → Int32) (y_runs_127 : Nat → Int32) (y_revokes_127 : Nat → Int32) (hpre : pr_M_commit (y_thrown, y_ring, y_off, y_fuse, y_steps, y_many, y_log, y_before, y_home, y_base, y_now, y_kinds, y_blocks, y_runs, y_revokes, y_from, y_uses, y_revoked, y_had, y_data)) (hinv : iv_M_commit_101 (y_thrown, y_ring, y_off, y_fuse, y_steps, y_many, y_log, y_before, y_home, y_base, y_now, y_kinds, y_blocks, y_runs, y_revokes, y_from, y_uses, y_revoked, y_had, y_data) x3 x4 (y_thrown_i, y_ring, y_off_i, y_fuse_i, y_steps_i, y_many_i, y_log_i, y_before_i, y_home_i, y_base_i, y_now, y_kinds_i, y_blocks_i, y_runs_i, y_revokes_i, y_from_i, y_uses_i, y_revoked_i, y_had_i, y_data_i)) (c_104 : x3 ≤ x4) (w_127 : po_M_step 4 0 (y_thrown_i, y_ring, y_off_i, y_fuse_i, y_steps_i, y_many_i, y_log_i, y_before_i, y_home_i, y_base_i, y_now, y_kinds_i, y_blocks_i, y_runs_i, y_revokes_i, y_from_i, y_uses_i, y_revoked_i, y_had_i, y_data_i) r_127 (y_thrown_i, y_ring, y_off_127, y_fuse_127, y_steps_127, y_many_127, y_log_i, y_before_i, y_home_i, y_base_127, y_now, y_kinds_127, y_blocks_127, y_runs_127, y_revokes_127, y_from_i, y_uses_i, y_revoked_i, y_had_i, y_data_i)) (c_130 : ¬ r_127 = 0) : pr_M_step 2 0 (y_thrown_i, y_ring, y_off_127, y_fuse_127, y_steps_127, y_many_127, y_log_i, y_before_i, y_home_i, y_base_127, y_now, y_kinds_127, y_blocks_127, y_runs_127, y_revokes_127, y_from_i, y_uses_i, y_revoked_i, y_had_i, y_data_i) := by
  obtain ⟨k, hk1, rfl, i2, c_9, h⟩ := hinv
  obtain ⟨σ, hr, hsw⟩ := hpre
  obtain ⟨ring, run, rev, now, d, g⟩ := σ
  obtain ⟨o, a1, a2, a3, a4, a5, a6, a7, a8, a9, a10, a11, a12, a13, a14⟩ := m_al hr hsw c_9
  obtain ⟨j1, j2, hz, d0, g0, d1, e0, n0, w0, lw0, us0, eb, rs, rl, ln, w1, o1, l1, al⟩ := h ring run rev now d g hr hsw
  subst j1
  obtain ⟨u1, u2, u3⟩ := use_le (run := run) (rev := rev) a9
  have u4 := use_ge2 hz
  have hge : sUse run rev ≤ k := (nI_leI (by omega) (by omega)).mp c_104
  have ek : sUse run rev - k = 0 := by omega
  rw [ek] at eb
  have eb : sBody (sUse run rev - 1) d0 = (true, d1) := eb
  obtain ⟨b1, b2⟩ := w_127 d1 run rev 4 0 rs w1 (by omega) rfl (by decide) rfl (fun z => (nomatch z))
  have b1 : r_127 = b2i (sBar d1).1 := b1
  have b2 : RMs (sBar d1).2 run rev _ := b2
  have z1 := b2i_n0.mp (fun y => c_130 (b1.trans y))
  have k1 := DW_bar w1
  have l2 : (sBar d1).2.1.length < 200 := by rw [bar_nil z1]; decide
  exact ⟨(sBar d1).2, run, rev, 2, 0, b2, k1, l2, rfl, by decide, rfl, fun z => (nomatch z)⟩
theorem vc_M_commit_146_0 (y_thrown : Int32) (y_ring : Int32) (y_off : Int32) (y_fuse : Int32) (y_steps : Int32) (y_many : Int32) (y_log : Int32) (y_before : Int32) (y_home : Nat → Int32) (y_base : Nat → Int32) (y_now : Nat → Int32) (y_kinds : Nat → Int32) (y_blocks : Nat → Int32) (y_runs : Nat → Int32) (y_revokes : Nat → Int32) (y_from : Nat → Int32) (y_uses : Nat → Int32) (y_revoked : Nat → Int32) (y_had : Nat → Int32) (y_data : Nat → Int32) (x3 : Int32) (x4 : Int32) (y_thrown_i : Int32) (y_off_i : Int32) (y_fuse_i : Int32) (y_steps_i : Int32) (y_many_i : Int32) (y_log_i : Int32) (y_before_i : Int32) (y_home_i : Nat → Int32) (y_base_i : Nat → Int32) (y_kinds_i : Nat → Int32) (y_blocks_i : Nat → Int32) (y_runs_i : Nat → Int32) (y_revokes_i : Nat → Int32) (y_from_i : Nat → Int32) (y_uses_i : Nat → Int32) (y_revoked_i : Nat → Int32) (y_had_i : Nat → Int32) (y_data_i : Nat → Int32) (r_127 : Int32) (y_off_127 : Int32) (y_fuse_127 : Int32) (y_steps_127 : Int32) (y_many_127 : Int32) (y_base_127 : Nat → Int32) (y_kinds_127 : Nat → Int32) (y_blocks_127 : Nat → Int32) (y_runs_127 : Nat → Int32) (y_revokes_127 : Nat → Int32) (r_136 : Int32) (y_off_136 : Int32) (y_fuse_136 : Int32) (y_steps_136 : Int32) (y_many_136 : Int32) (y_base_136 : Nat → Int32) (y_kinds_136 : Nat → Int32) (y_blocks_136 : Nat → Int32) (y_runs_136 : Nat → Int32) (y_revokes_136 : Nat → Int32) (hpre : pr_M_commit (y_thrown, y_ring, y_off, y_fuse, y_steps, y_many, y_log, y_before, y_home, y_base, y_now, y_kinds, y_blocks, y_runs, y_revokes, y_from, y_uses, y_revoked, y_had, y_data)) (hinv : iv_M_commit_101 (y_thrown, y_ring, y_off, y_fuse, y_steps, y_many, y_log, y_before, y_home, y_base, y_now, y_kinds, y_blocks, y_runs, y_revokes, y_from, y_uses, y_revoked, y_had, y_data) x3 x4 (y_thrown_i, y_ring, y_off_i, y_fuse_i, y_steps_i, y_many_i, y_log_i, y_before_i, y_home_i, y_base_i, y_now, y_kinds_i, y_blocks_i, y_runs_i, y_revokes_i, y_from_i, y_uses_i, y_revoked_i, y_had_i, y_data_i)) (c_104 : x3 ≤ x4) (w_127 : po_M_step 4 0 (y_thrown_i, y_ring, y_off_i, y_fuse_i, y_steps_i, y_many_i, y_log_i, y_before_i, y_home_i, y_base_i, y_now, y_kinds_i, y_blocks_i, y_runs_i, y_revokes_i, y_from_i, y_uses_i, y_revoked_i, y_had_i, y_data_i) r_127 (y_thrown_i, y_ring, y_off_127, y_fuse_127, y_steps_127, y_many_127, y_log_i, y_before_i, y_home_i, y_base_127, y_now, y_kinds_127, y_blocks_127, y_runs_127, y_revokes_127, y_from_i, y_uses_i, y_revoked_i, y_had_i, y_data_i)) (c_130 : ¬ r_127 = 0) (w_136 : po_M_step 2 0 (y_thrown_i, y_ring, y_off_127, y_fuse_127, y_steps_127, y_many_127, y_log_i, y_before_i, y_home_i, y_base_127, y_now, y_kinds_127, y_blocks_127, y_runs_127, y_revokes_127, y_from_i, y_uses_i, y_revoked_i, y_had_i, y_data_i) r_136 (y_thrown_i, y_ring, y_off_136, y_fuse_136, y_steps_136, y_many_136, y_log_i, y_before_i, y_home_i, y_base_136, y_now, y_kinds_136, y_blocks_136, y_runs_136, y_revokes_136, y_from_i, y_uses_i, y_revoked_i, y_had_i, y_data_i)) (c_139 : ¬ r_136 = 0) : pr_M_enter x3 (y_thrown_i, y_ring, y_off_136, y_fuse_136, y_steps_136, y_many_136, y_log_i, y_before_i, y_home_i, y_base_136, y_now, y_kinds_136, y_blocks_136, y_runs_136, y_revokes_136, y_from_i, y_uses_i, y_revoked_i, y_had_i, y_data_i) := by
  obtain ⟨k, hk1, rfl, i2, c_9, h⟩ := hinv
  obtain ⟨σ, hr, hsw⟩ := hpre
  obtain ⟨ring, run, rev, now, d, g⟩ := σ
  obtain ⟨o, a1, a2, a3, a4, a5, a6, a7, a8, a9, a10, a11, a12, a13, a14⟩ := m_al hr hsw c_9
  obtain ⟨j1, j2, hz, d0, g0, d1, e0, n0, w0, lw0, us0, eb, rs, rl, ln, w1, o1, l1, al⟩ := h ring run rev now d g hr hsw
  subst j1
  obtain ⟨u1, u2, u3⟩ := use_le (run := run) (rev := rev) a9
  have u4 := use_ge2 hz
  have hge : sUse run rev ≤ k := (nI_leI (by omega) (by omega)).mp c_104
  have ek : sUse run rev - k = 0 := by omega
  rw [ek] at eb
  have eb : sBody (sUse run rev - 1) d0 = (true, d1) := eb
  obtain ⟨b1, b2⟩ := w_127 d1 run rev 4 0 rs w1 (by omega) rfl (by decide) rfl (fun z => (nomatch z))
  have b1 : r_127 = b2i (sBar d1).1 := b1
  have b2 : RMs (sBar d1).2 run rev _ := b2
  have z1 := b2i_n0.mp (fun y => c_130 (b1.trans y))
  have k1 := DW_bar w1
  have l2 : (sBar d1).2.1.length < 200 := by rw [bar_nil z1]; decide
  obtain ⟨f1, f2⟩ := w_136 (sBar d1).2 run rev 2 0 b2 k1 l2 rfl (by decide) rfl (fun z => (nomatch z))
  have f1 : r_136 = b2i (sRing 65 (sBar d1).2).1 := f1
  have f2 : RMs (sRing 65 (sBar d1).2).2 run rev _ := f2
  have z2 := b2i_n0.mp (fun y => c_139 (f1.trans y))
  have k2 := DW_ring (k := 65) k1 l2 (by decide)
  have l3 : (sRing 65 (sBar d1).2).2.1.length < 200 := by rw [ring_u z2, bar_nil z1]; decide
  have on2 : (sRing 65 (sBar d1).2).2.2.1 = true := (ring_on z2).trans ((bar_on z1).trans o1)
  have ok0 : okG g0 := ⟨ring, lw0, a13⟩
  have bnd := lw_bnd lw0 us0 u3 u4 a13
  have yr := RMs_run f2 on2
  exact ⟨g0, run, rev, rl, ln, ok0, yr, bnd.1, by show sb_Fit y_now; rw [a3]; exact a11, bnd.2⟩
theorem vc_M_commit_152_0 (y_thrown : Int32) (y_ring : Int32) (y_off : Int32) (y_fuse : Int32) (y_steps : Int32) (y_many : Int32) (y_log : Int32) (y_before : Int32) (y_home : Nat → Int32) (y_base : Nat → Int32) (y_now : Nat → Int32) (y_kinds : Nat → Int32) (y_blocks : Nat → Int32) (y_runs : Nat → Int32) (y_revokes : Nat → Int32) (y_from : Nat → Int32) (y_uses : Nat → Int32) (y_revoked : Nat → Int32) (y_had : Nat → Int32) (y_data : Nat → Int32) (x3 : Int32) (x4 : Int32) (y_thrown_i : Int32) (y_off_i : Int32) (y_fuse_i : Int32) (y_steps_i : Int32) (y_many_i : Int32) (y_log_i : Int32) (y_before_i : Int32) (y_home_i : Nat → Int32) (y_base_i : Nat → Int32) (y_kinds_i : Nat → Int32) (y_blocks_i : Nat → Int32) (y_runs_i : Nat → Int32) (y_revokes_i : Nat → Int32) (y_from_i : Nat → Int32) (y_uses_i : Nat → Int32) (y_revoked_i : Nat → Int32) (y_had_i : Nat → Int32) (y_data_i : Nat → Int32) (r_127 : Int32) (y_off_127 : Int32) (y_fuse_127 : Int32) (y_steps_127 : Int32) (y_many_127 : Int32) (y_base_127 : Nat → Int32) (y_kinds_127 : Nat → Int32) (y_blocks_127 : Nat → Int32) (y_runs_127 : Nat → Int32) (y_revokes_127 : Nat → Int32) (r_136 : Int32) (y_off_136 : Int32) (y_fuse_136 : Int32) (y_steps_136 : Int32) (y_many_136 : Int32) (y_base_136 : Nat → Int32) (y_kinds_136 : Nat → Int32) (y_blocks_136 : Nat → Int32) (y_runs_136 : Nat → Int32) (y_revokes_136 : Nat → Int32) (y_log_146 : Int32) (y_runs_146 : Nat → Int32) (y_revokes_146 : Nat → Int32) (y_from_146 : Nat → Int32) (y_uses_146 : Nat → Int32) (y_revoked_146 : Nat → Int32) (y_had_146 : Nat → Int32) (y_data_146 : Nat → Int32) (hpre : pr_M_commit (y_thrown, y_ring, y_off, y_fuse, y_steps, y_many, y_log, y_before, y_home, y_base, y_now, y_kinds, y_blocks, y_runs, y_revokes, y_from, y_uses, y_revoked, y_had, y_data)) (hinv : iv_M_commit_101 (y_thrown, y_ring, y_off, y_fuse, y_steps, y_many, y_log, y_before, y_home, y_base, y_now, y_kinds, y_blocks, y_runs, y_revokes, y_from, y_uses, y_revoked, y_had, y_data) x3 x4 (y_thrown_i, y_ring, y_off_i, y_fuse_i, y_steps_i, y_many_i, y_log_i, y_before_i, y_home_i, y_base_i, y_now, y_kinds_i, y_blocks_i, y_runs_i, y_revokes_i, y_from_i, y_uses_i, y_revoked_i, y_had_i, y_data_i)) (c_104 : x3 ≤ x4) (w_127 : po_M_step 4 0 (y_thrown_i, y_ring, y_off_i, y_fuse_i, y_steps_i, y_many_i, y_log_i, y_before_i, y_home_i, y_base_i, y_now, y_kinds_i, y_blocks_i, y_runs_i, y_revokes_i, y_from_i, y_uses_i, y_revoked_i, y_had_i, y_data_i) r_127 (y_thrown_i, y_ring, y_off_127, y_fuse_127, y_steps_127, y_many_127, y_log_i, y_before_i, y_home_i, y_base_127, y_now, y_kinds_127, y_blocks_127, y_runs_127, y_revokes_127, y_from_i, y_uses_i, y_revoked_i, y_had_i, y_data_i)) (c_130 : ¬ r_127 = 0) (w_136 : po_M_step 2 0 (y_thrown_i, y_ring, y_off_127, y_fuse_127, y_steps_127, y_many_127, y_log_i, y_before_i, y_home_i, y_base_127, y_now, y_kinds_127, y_blocks_127, y_runs_127, y_revokes_127, y_from_i, y_uses_i, y_revoked_i, y_had_i, y_data_i) r_136 (y_thrown_i, y_ring, y_off_136, y_fuse_136, y_steps_136, y_many_136, y_log_i, y_before_i, y_home_i, y_base_136, y_now, y_kinds_136, y_blocks_136, y_runs_136, y_revokes_136, y_from_i, y_uses_i, y_revoked_i, y_had_i, y_data_i)) (c_139 : ¬ r_136 = 0) (w_146 : po_M_enter x3 (y_thrown_i, y_ring, y_off_136, y_fuse_136, y_steps_136, y_many_136, y_log_i, y_before_i, y_home_i, y_base_136, y_now, y_kinds_136, y_blocks_136, y_runs_136, y_revokes_136, y_from_i, y_uses_i, y_revoked_i, y_had_i, y_data_i) (y_thrown_i, y_ring, y_off_136, y_fuse_136, y_steps_136, y_many_136, y_log_146, y_before_i, y_home_i, y_base_136, y_now, y_kinds_136, y_blocks_136, y_runs_146, y_revokes_146, y_from_146, y_uses_146, y_revoked_146, y_had_146, y_data_146)) : pr_M_step 4 0 (y_thrown_i, y_ring, y_off_136, y_fuse_136, y_steps_136, y_many_136, y_log_146, y_before_i, y_home_i, y_base_136, y_now, y_kinds_136, y_blocks_136, y_runs_146, y_revokes_146, y_from_146, y_uses_146, y_revoked_146, y_had_146, y_data_146) := by
  obtain ⟨k, hk1, rfl, i2, c_9, h⟩ := hinv
  obtain ⟨σ, hr, hsw⟩ := hpre
  obtain ⟨ring, run, rev, now, d, g⟩ := σ
  obtain ⟨o, a1, a2, a3, a4, a5, a6, a7, a8, a9, a10, a11, a12, a13, a14⟩ := m_al hr hsw c_9
  obtain ⟨j1, j2, hz, d0, g0, d1, e0, n0, w0, lw0, us0, eb, rs, rl, ln, w1, o1, l1, al⟩ := h ring run rev now d g hr hsw
  subst j1
  obtain ⟨u1, u2, u3⟩ := use_le (run := run) (rev := rev) a9
  have u4 := use_ge2 hz
  have hge : sUse run rev ≤ k := (nI_leI (by omega) (by omega)).mp c_104
  have ek : sUse run rev - k = 0 := by omega
  rw [ek] at eb
  have eb : sBody (sUse run rev - 1) d0 = (true, d1) := eb
  obtain ⟨b1, b2⟩ := w_127 d1 run rev 4 0 rs w1 (by omega) rfl (by decide) rfl (fun z => (nomatch z))
  have b1 : r_127 = b2i (sBar d1).1 := b1
  have b2 : RMs (sBar d1).2 run rev _ := b2
  have z1 := b2i_n0.mp (fun y => c_130 (b1.trans y))
  have k1 := DW_bar w1
  have l2 : (sBar d1).2.1.length < 200 := by rw [bar_nil z1]; decide
  obtain ⟨f1, f2⟩ := w_136 (sBar d1).2 run rev 2 0 b2 k1 l2 rfl (by decide) rfl (fun z => (nomatch z))
  have f1 : r_136 = b2i (sRing 65 (sBar d1).2).1 := f1
  have f2 : RMs (sRing 65 (sBar d1).2).2 run rev _ := f2
  have z2 := b2i_n0.mp (fun y => c_139 (f1.trans y))
  have k2 := DW_ring (k := 65) k1 l2 (by decide)
  have l3 : (sRing 65 (sBar d1).2).2.1.length < 200 := by rw [ring_u z2, bar_nil z1]; decide
  have on2 : (sRing 65 (sBar d1).2).2.2.1 = true := (ring_on z2).trans ((bar_on z1).trans o1)
  have ok0 : okG g0 := ⟨ring, lw0, a13⟩
  have bnd := lw_bnd lw0 us0 u3 u4 a13
  have yr := RMs_run f2 on2
  obtain ⟨p1, p2, p3⟩ := w_146 g0 run rev (sUse run rev) rl ln ok0 yr rfl
  have p1 : RMl (sAppend run rev (sUse run rev) y_now g0) _ := p1
  rw [a3] at p1
  have p4 := RMs_new f2 on2 p3
  exact ⟨_, 0, 0, 4, 0, p4, k2, l3, rfl, by decide, rfl, fun z => (nomatch z)⟩
theorem vc_M_commit_163_0 (y_thrown : Int32) (y_ring : Int32) (y_off : Int32) (y_fuse : Int32) (y_steps : Int32) (y_many : Int32) (y_log : Int32) (y_before : Int32) (y_home : Nat → Int32) (y_base : Nat → Int32) (y_now : Nat → Int32) (y_kinds : Nat → Int32) (y_blocks : Nat → Int32) (y_runs : Nat → Int32) (y_revokes : Nat → Int32) (y_from : Nat → Int32) (y_uses : Nat → Int32) (y_revoked : Nat → Int32) (y_had : Nat → Int32) (y_data : Nat → Int32) (x3 : Int32) (x4 : Int32) (y_thrown_i : Int32) (y_off_i : Int32) (y_fuse_i : Int32) (y_steps_i : Int32) (y_many_i : Int32) (y_log_i : Int32) (y_before_i : Int32) (y_home_i : Nat → Int32) (y_base_i : Nat → Int32) (y_kinds_i : Nat → Int32) (y_blocks_i : Nat → Int32) (y_runs_i : Nat → Int32) (y_revokes_i : Nat → Int32) (y_from_i : Nat → Int32) (y_uses_i : Nat → Int32) (y_revoked_i : Nat → Int32) (y_had_i : Nat → Int32) (y_data_i : Nat → Int32) (r_127 : Int32) (y_off_127 : Int32) (y_fuse_127 : Int32) (y_steps_127 : Int32) (y_many_127 : Int32) (y_base_127 : Nat → Int32) (y_kinds_127 : Nat → Int32) (y_blocks_127 : Nat → Int32) (y_runs_127 : Nat → Int32) (y_revokes_127 : Nat → Int32) (r_136 : Int32) (y_off_136 : Int32) (y_fuse_136 : Int32) (y_steps_136 : Int32) (y_many_136 : Int32) (y_base_136 : Nat → Int32) (y_kinds_136 : Nat → Int32) (y_blocks_136 : Nat → Int32) (y_runs_136 : Nat → Int32) (y_revokes_136 : Nat → Int32) (y_log_146 : Int32) (y_runs_146 : Nat → Int32) (y_revokes_146 : Nat → Int32) (y_from_146 : Nat → Int32) (y_uses_146 : Nat → Int32) (y_revoked_146 : Nat → Int32) (y_had_146 : Nat → Int32) (y_data_146 : Nat → Int32) (r_152 : Int32) (y_off_152 : Int32) (y_fuse_152 : Int32) (y_steps_152 : Int32) (y_many_152 : Int32) (y_base_152 : Nat → Int32) (y_kinds_152 : Nat → Int32) (y_blocks_152 : Nat → Int32) (y_runs_152 : Nat → Int32) (y_revokes_152 : Nat → Int32) (hpre : pr_M_commit (y_thrown, y_ring, y_off, y_fuse, y_steps, y_many, y_log, y_before, y_home, y_base, y_now, y_kinds, y_blocks, y_runs, y_revokes, y_from, y_uses, y_revoked, y_had, y_data)) (hinv : iv_M_commit_101 (y_thrown, y_ring, y_off, y_fuse, y_steps, y_many, y_log, y_before, y_home, y_base, y_now, y_kinds, y_blocks, y_runs, y_revokes, y_from, y_uses, y_revoked, y_had, y_data) x3 x4 (y_thrown_i, y_ring, y_off_i, y_fuse_i, y_steps_i, y_many_i, y_log_i, y_before_i, y_home_i, y_base_i, y_now, y_kinds_i, y_blocks_i, y_runs_i, y_revokes_i, y_from_i, y_uses_i, y_revoked_i, y_had_i, y_data_i)) (c_104 : x3 ≤ x4) (w_127 : po_M_step 4 0 (y_thrown_i, y_ring, y_off_i, y_fuse_i, y_steps_i, y_many_i, y_log_i, y_before_i, y_home_i, y_base_i, y_now, y_kinds_i, y_blocks_i, y_runs_i, y_revokes_i, y_from_i, y_uses_i, y_revoked_i, y_had_i, y_data_i) r_127 (y_thrown_i, y_ring, y_off_127, y_fuse_127, y_steps_127, y_many_127, y_log_i, y_before_i, y_home_i, y_base_127, y_now, y_kinds_127, y_blocks_127, y_runs_127, y_revokes_127, y_from_i, y_uses_i, y_revoked_i, y_had_i, y_data_i)) (c_130 : ¬ r_127 = 0) (w_136 : po_M_step 2 0 (y_thrown_i, y_ring, y_off_127, y_fuse_127, y_steps_127, y_many_127, y_log_i, y_before_i, y_home_i, y_base_127, y_now, y_kinds_127, y_blocks_127, y_runs_127, y_revokes_127, y_from_i, y_uses_i, y_revoked_i, y_had_i, y_data_i) r_136 (y_thrown_i, y_ring, y_off_136, y_fuse_136, y_steps_136, y_many_136, y_log_i, y_before_i, y_home_i, y_base_136, y_now, y_kinds_136, y_blocks_136, y_runs_136, y_revokes_136, y_from_i, y_uses_i, y_revoked_i, y_had_i, y_data_i)) (c_139 : ¬ r_136 = 0) (w_146 : po_M_enter x3 (y_thrown_i, y_ring, y_off_136, y_fuse_136, y_steps_136, y_many_136, y_log_i, y_before_i, y_home_i, y_base_136, y_now, y_kinds_136, y_blocks_136, y_runs_136, y_revokes_136, y_from_i, y_uses_i, y_revoked_i, y_had_i, y_data_i) (y_thrown_i, y_ring, y_off_136, y_fuse_136, y_steps_136, y_many_136, y_log_146, y_before_i, y_home_i, y_base_136, y_now, y_kinds_136, y_blocks_136, y_runs_146, y_revokes_146, y_from_146, y_uses_146, y_revoked_146, y_had_146, y_data_146)) (w_152 : po_M_step 4 0 (y_thrown_i, y_ring, y_off_136, y_fuse_136, y_steps_136, y_many_136, y_log_146, y_before_i, y_home_i, y_base_136, y_now, y_kinds_136, y_blocks_136, y_runs_146, y_revokes_146, y_from_146, y_uses_146, y_revoked_146, y_had_146, y_data_146) r_152 (y_thrown_i, y_ring, y_off_152, y_fuse_152, y_steps_152, y_many_152, y_log_146, y_before_i, y_home_i, y_base_152, y_now, y_kinds_152, y_blocks_152, y_runs_152, y_revokes_152, y_from_146, y_uses_146, y_revoked_146, y_had_146, y_data_146)) (c_155 : r_152 = 0) : po_M_commit (y_thrown, y_ring, y_off, y_fuse, y_steps, y_many, y_log, y_before, y_home, y_base, y_now, y_kinds, y_blocks, y_runs, y_revokes, y_from, y_uses, y_revoked, y_had, y_data) (-1) (y_thrown_i, y_ring, y_off_152, y_fuse_152, y_steps_152, y_many_152, y_log_146, y_before_i, y_home_i, y_base_152, y_now, y_kinds_152, y_blocks_152, y_runs_152, y_revokes_152, y_from_146, y_uses_146, y_revoked_146, y_had_146, y_data_146) := by
  intro σ hr hsw
  obtain ⟨ring, run, rev, now, d, g⟩ := σ
  obtain ⟨k, hk1, rfl, i2, c_9, h⟩ := hinv
  obtain ⟨o, a1, a2, a3, a4, a5, a6, a7, a8, a9, a10, a11, a12, a13, a14⟩ := m_al hr hsw c_9
  obtain ⟨j1, j2, hz, d0, g0, d1, e0, n0, w0, lw0, us0, eb, rs, rl, ln, w1, o1, l1, al⟩ := h ring run rev now d g hr hsw
  subst j1
  obtain ⟨u1, u2, u3⟩ := use_le (run := run) (rev := rev) a9
  have u4 := use_ge2 hz
  have hge : sUse run rev ≤ k := (nI_leI (by omega) (by omega)).mp c_104
  have ek : sUse run rev - k = 0 := by omega
  rw [ek] at eb
  have eb : sBody (sUse run rev - 1) d0 = (true, d1) := eb
  obtain ⟨b1, b2⟩ := w_127 d1 run rev 4 0 rs w1 (by omega) rfl (by decide) rfl (fun z => (nomatch z))
  have b1 : r_127 = b2i (sBar d1).1 := b1
  have b2 : RMs (sBar d1).2 run rev _ := b2
  have z1 := b2i_n0.mp (fun y => c_130 (b1.trans y))
  have k1 := DW_bar w1
  have l2 : (sBar d1).2.1.length < 200 := by rw [bar_nil z1]; decide
  obtain ⟨f1, f2⟩ := w_136 (sBar d1).2 run rev 2 0 b2 k1 l2 rfl (by decide) rfl (fun z => (nomatch z))
  have f1 : r_136 = b2i (sRing 65 (sBar d1).2).1 := f1
  have f2 : RMs (sRing 65 (sBar d1).2).2 run rev _ := f2
  have z2 := b2i_n0.mp (fun y => c_139 (f1.trans y))
  have k2 := DW_ring (k := 65) k1 l2 (by decide)
  have l3 : (sRing 65 (sBar d1).2).2.1.length < 200 := by rw [ring_u z2, bar_nil z1]; decide
  have on2 : (sRing 65 (sBar d1).2).2.2.1 = true := (ring_on z2).trans ((bar_on z1).trans o1)
  have ok0 : okG g0 := ⟨ring, lw0, a13⟩
  have bnd := lw_bnd lw0 us0 u3 u4 a13
  have yr := RMs_run f2 on2
  obtain ⟨p1, p2, p3⟩ := w_146 g0 run rev (sUse run rev) rl ln ok0 yr rfl
  have p1 : RMl (sAppend run rev (sUse run rev) y_now g0) _ := p1
  rw [a3] at p1
  have p4 := RMs_new f2 on2 p3
  obtain ⟨s1, s2⟩ := w_152 _ 0 0 4 0 p4 k2 l3 rfl (by decide) rfl (fun z => (nomatch z))
  have s1 : r_152 = b2i (sBar (sRing 65 (sBar d1).2).2).1 := s1
  have s2 : RMs (sBar (sRing 65 (sBar d1).2).2).2 0 0 _ := s2
  have e9 := cg_e (ring := ring) (tr_3 (run := run) (rev := rev) (now := now) (g := g0) eb z1 z2)
  rw [e0, e9]
  have en : (sAppend run rev (sUse run rev) now g0).1 = g0.1 + 1 := rfl
  have n66 : 66 ∉ (sBar (sRing 65 (sBar d1).2).2).2.1 := by
    cases z3 : (sBar (sRing 65 (sBar d1).2).2).1
    · rw [bar_fu z3, ring_u z2, bar_nil z1]; decide
    · rw [bar_nil z3]; decide
  have z3 := b2i_0.mp (s1.symm.trans c_155)
  rw [z3]
  exact ⟨rfl, s2, p1, RMn_not n66 p2, RMo_off hr.2.2.2 (bar_off z3) (fun _ _ => rfl)⟩
theorem vc_M_commit_163_1 (y_thrown : Int32) (y_ring : Int32) (y_off : Int32) (y_fuse : Int32) (y_steps : Int32) (y_many : Int32) (y_log : Int32) (y_before : Int32) (y_home : Nat → Int32) (y_base : Nat → Int32) (y_now : Nat → Int32) (y_kinds : Nat → Int32) (y_blocks : Nat → Int32) (y_runs : Nat → Int32) (y_revokes : Nat → Int32) (y_from : Nat → Int32) (y_uses : Nat → Int32) (y_revoked : Nat → Int32) (y_had : Nat → Int32) (y_data : Nat → Int32) (x3 : Int32) (x4 : Int32) (y_thrown_i : Int32) (y_off_i : Int32) (y_fuse_i : Int32) (y_steps_i : Int32) (y_many_i : Int32) (y_log_i : Int32) (y_before_i : Int32) (y_home_i : Nat → Int32) (y_base_i : Nat → Int32) (y_kinds_i : Nat → Int32) (y_blocks_i : Nat → Int32) (y_runs_i : Nat → Int32) (y_revokes_i : Nat → Int32) (y_from_i : Nat → Int32) (y_uses_i : Nat → Int32) (y_revoked_i : Nat → Int32) (y_had_i : Nat → Int32) (y_data_i : Nat → Int32) (r_127 : Int32) (y_off_127 : Int32) (y_fuse_127 : Int32) (y_steps_127 : Int32) (y_many_127 : Int32) (y_base_127 : Nat → Int32) (y_kinds_127 : Nat → Int32) (y_blocks_127 : Nat → Int32) (y_runs_127 : Nat → Int32) (y_revokes_127 : Nat → Int32) (r_136 : Int32) (y_off_136 : Int32) (y_fuse_136 : Int32) (y_steps_136 : Int32) (y_many_136 : Int32) (y_base_136 : Nat → Int32) (y_kinds_136 : Nat → Int32) (y_blocks_136 : Nat → Int32) (y_runs_136 : Nat → Int32) (y_revokes_136 : Nat → Int32) (y_log_146 : Int32) (y_runs_146 : Nat → Int32) (y_revokes_146 : Nat → Int32) (y_from_146 : Nat → Int32) (y_uses_146 : Nat → Int32) (y_revoked_146 : Nat → Int32) (y_had_146 : Nat → Int32) (y_data_146 : Nat → Int32) (r_152 : Int32) (y_off_152 : Int32) (y_fuse_152 : Int32) (y_steps_152 : Int32) (y_many_152 : Int32) (y_base_152 : Nat → Int32) (y_kinds_152 : Nat → Int32) (y_blocks_152 : Nat → Int32) (y_runs_152 : Nat → Int32) (y_revokes_152 : Nat → Int32) (hpre : pr_M_commit (y_thrown, y_ring, y_off, y_fuse, y_steps, y_many, y_log, y_before, y_home, y_base, y_now, y_kinds, y_blocks, y_runs, y_revokes, y_from, y_uses, y_revoked, y_had, y_data)) (hinv : iv_M_commit_101 (y_thrown, y_ring, y_off, y_fuse, y_steps, y_many, y_log, y_before, y_home, y_base, y_now, y_kinds, y_blocks, y_runs, y_revokes, y_from, y_uses, y_revoked, y_had, y_data) x3 x4 (y_thrown_i, y_ring, y_off_i, y_fuse_i, y_steps_i, y_many_i, y_log_i, y_before_i, y_home_i, y_base_i, y_now, y_kinds_i, y_blocks_i, y_runs_i, y_revokes_i, y_from_i, y_uses_i, y_revoked_i, y_had_i, y_data_i)) (c_104 : x3 ≤ x4) (w_127 : po_M_step 4 0 (y_thrown_i, y_ring, y_off_i, y_fuse_i, y_steps_i, y_many_i, y_log_i, y_before_i, y_home_i, y_base_i, y_now, y_kinds_i, y_blocks_i, y_runs_i, y_revokes_i, y_from_i, y_uses_i, y_revoked_i, y_had_i, y_data_i) r_127 (y_thrown_i, y_ring, y_off_127, y_fuse_127, y_steps_127, y_many_127, y_log_i, y_before_i, y_home_i, y_base_127, y_now, y_kinds_127, y_blocks_127, y_runs_127, y_revokes_127, y_from_i, y_uses_i, y_revoked_i, y_had_i, y_data_i)) (c_130 : ¬ r_127 = 0) (w_136 : po_M_step 2 0 (y_thrown_i, y_ring, y_off_127, y_fuse_127, y_steps_127, y_many_127, y_log_i, y_before_i, y_home_i, y_base_127, y_now, y_kinds_127, y_blocks_127, y_runs_127, y_revokes_127, y_from_i, y_uses_i, y_revoked_i, y_had_i, y_data_i) r_136 (y_thrown_i, y_ring, y_off_136, y_fuse_136, y_steps_136, y_many_136, y_log_i, y_before_i, y_home_i, y_base_136, y_now, y_kinds_136, y_blocks_136, y_runs_136, y_revokes_136, y_from_i, y_uses_i, y_revoked_i, y_had_i, y_data_i)) (c_139 : ¬ r_136 = 0) (w_146 : po_M_enter x3 (y_thrown_i, y_ring, y_off_136, y_fuse_136, y_steps_136, y_many_136, y_log_i, y_before_i, y_home_i, y_base_136, y_now, y_kinds_136, y_blocks_136, y_runs_136, y_revokes_136, y_from_i, y_uses_i, y_revoked_i, y_had_i, y_data_i) (y_thrown_i, y_ring, y_off_136, y_fuse_136, y_steps_136, y_many_136, y_log_146, y_before_i, y_home_i, y_base_136, y_now, y_kinds_136, y_blocks_136, y_runs_146, y_revokes_146, y_from_146, y_uses_146, y_revoked_146, y_had_146, y_data_146)) (w_152 : po_M_step 4 0 (y_thrown_i, y_ring, y_off_136, y_fuse_136, y_steps_136, y_many_136, y_log_146, y_before_i, y_home_i, y_base_136, y_now, y_kinds_136, y_blocks_136, y_runs_146, y_revokes_146, y_from_146, y_uses_146, y_revoked_146, y_had_146, y_data_146) r_152 (y_thrown_i, y_ring, y_off_152, y_fuse_152, y_steps_152, y_many_152, y_log_146, y_before_i, y_home_i, y_base_152, y_now, y_kinds_152, y_blocks_152, y_runs_152, y_revokes_152, y_from_146, y_uses_146, y_revoked_146, y_had_146, y_data_146)) (c_155 : ¬ r_152 = 0) : po_M_commit (y_thrown, y_ring, y_off, y_fuse, y_steps, y_many, y_log, y_before, y_home, y_base, y_now, y_kinds, y_blocks, y_runs, y_revokes, y_from, y_uses, y_revoked, y_had, y_data) x3 (y_thrown_i, y_ring, y_off_152, y_fuse_152, y_steps_152, y_many_152, y_log_146, y_before_i, y_home_i, y_base_152, y_now, y_kinds_152, y_blocks_152, y_runs_152, y_revokes_152, y_from_146, y_uses_146, y_revoked_146, y_had_146, y_data_146) := by
  intro σ hr hsw
  obtain ⟨ring, run, rev, now, d, g⟩ := σ
  obtain ⟨k, hk1, rfl, i2, c_9, h⟩ := hinv
  obtain ⟨o, a1, a2, a3, a4, a5, a6, a7, a8, a9, a10, a11, a12, a13, a14⟩ := m_al hr hsw c_9
  obtain ⟨j1, j2, hz, d0, g0, d1, e0, n0, w0, lw0, us0, eb, rs, rl, ln, w1, o1, l1, al⟩ := h ring run rev now d g hr hsw
  subst j1
  obtain ⟨u1, u2, u3⟩ := use_le (run := run) (rev := rev) a9
  have u4 := use_ge2 hz
  have hge : sUse run rev ≤ k := (nI_leI (by omega) (by omega)).mp c_104
  have ek : sUse run rev - k = 0 := by omega
  rw [ek] at eb
  have eb : sBody (sUse run rev - 1) d0 = (true, d1) := eb
  obtain ⟨b1, b2⟩ := w_127 d1 run rev 4 0 rs w1 (by omega) rfl (by decide) rfl (fun z => (nomatch z))
  have b1 : r_127 = b2i (sBar d1).1 := b1
  have b2 : RMs (sBar d1).2 run rev _ := b2
  have z1 := b2i_n0.mp (fun y => c_130 (b1.trans y))
  have k1 := DW_bar w1
  have l2 : (sBar d1).2.1.length < 200 := by rw [bar_nil z1]; decide
  obtain ⟨f1, f2⟩ := w_136 (sBar d1).2 run rev 2 0 b2 k1 l2 rfl (by decide) rfl (fun z => (nomatch z))
  have f1 : r_136 = b2i (sRing 65 (sBar d1).2).1 := f1
  have f2 : RMs (sRing 65 (sBar d1).2).2 run rev _ := f2
  have z2 := b2i_n0.mp (fun y => c_139 (f1.trans y))
  have k2 := DW_ring (k := 65) k1 l2 (by decide)
  have l3 : (sRing 65 (sBar d1).2).2.1.length < 200 := by rw [ring_u z2, bar_nil z1]; decide
  have on2 : (sRing 65 (sBar d1).2).2.2.1 = true := (ring_on z2).trans ((bar_on z1).trans o1)
  have ok0 : okG g0 := ⟨ring, lw0, a13⟩
  have bnd := lw_bnd lw0 us0 u3 u4 a13
  have yr := RMs_run f2 on2
  obtain ⟨p1, p2, p3⟩ := w_146 g0 run rev (sUse run rev) rl ln ok0 yr rfl
  have p1 : RMl (sAppend run rev (sUse run rev) y_now g0) _ := p1
  rw [a3] at p1
  have p4 := RMs_new f2 on2 p3
  obtain ⟨s1, s2⟩ := w_152 _ 0 0 4 0 p4 k2 l3 rfl (by decide) rfl (fun z => (nomatch z))
  have s1 : r_152 = b2i (sBar (sRing 65 (sBar d1).2).2).1 := s1
  have s2 : RMs (sBar (sRing 65 (sBar d1).2).2).2 0 0 _ := s2
  have e9 := cg_e (ring := ring) (tr_3 (run := run) (rev := rev) (now := now) (g := g0) eb z1 z2)
  rw [e0, e9]
  have en : (sAppend run rev (sUse run rev) now g0).1 = g0.1 + 1 := rfl
  have n66 : 66 ∉ (sBar (sRing 65 (sBar d1).2).2).2.1 := by
    cases z3 : (sBar (sRing 65 (sBar d1).2).2).1
    · rw [bar_fu z3, ring_u z2, bar_nil z1]; decide
    · rw [bar_nil z3]; decide
  have z3 := b2i_n0.mp (fun y => c_155 (s1.trans y))
  rw [z3]
  exact ⟨rfl, s2, p1, RMn_not n66 p2, hr.2.2.2.1, fun _ => a3, hr.2.2.2.2.2⟩
theorem vc_M_commit_143_1 (y_thrown : Int32) (y_ring : Int32) (y_off : Int32) (y_fuse : Int32) (y_steps : Int32) (y_many : Int32) (y_log : Int32) (y_before : Int32) (y_home : Nat → Int32) (y_base : Nat → Int32) (y_now : Nat → Int32) (y_kinds : Nat → Int32) (y_blocks : Nat → Int32) (y_runs : Nat → Int32) (y_revokes : Nat → Int32) (y_from : Nat → Int32) (y_uses : Nat → Int32) (y_revoked : Nat → Int32) (y_had : Nat → Int32) (y_data : Nat → Int32) (x3 : Int32) (x4 : Int32) (y_thrown_i : Int32) (y_off_i : Int32) (y_fuse_i : Int32) (y_steps_i : Int32) (y_many_i : Int32) (y_log_i : Int32) (y_before_i : Int32) (y_home_i : Nat → Int32) (y_base_i : Nat → Int32) (y_kinds_i : Nat → Int32) (y_blocks_i : Nat → Int32) (y_runs_i : Nat → Int32) (y_revokes_i : Nat → Int32) (y_from_i : Nat → Int32) (y_uses_i : Nat → Int32) (y_revoked_i : Nat → Int32) (y_had_i : Nat → Int32) (y_data_i : Nat → Int32) (r_127 : Int32) (y_off_127 : Int32) (y_fuse_127 : Int32) (y_steps_127 : Int32) (y_many_127 : Int32) (y_base_127 : Nat → Int32) (y_kinds_127 : Nat → Int32) (y_blocks_127 : Nat → Int32) (y_runs_127 : Nat → Int32) (y_revokes_127 : Nat → Int32) (r_136 : Int32) (y_off_136 : Int32) (y_fuse_136 : Int32) (y_steps_136 : Int32) (y_many_136 : Int32) (y_base_136 : Nat → Int32) (y_kinds_136 : Nat → Int32) (y_blocks_136 : Nat → Int32) (y_runs_136 : Nat → Int32) (y_revokes_136 : Nat → Int32) (hpre : pr_M_commit (y_thrown, y_ring, y_off, y_fuse, y_steps, y_many, y_log, y_before, y_home, y_base, y_now, y_kinds, y_blocks, y_runs, y_revokes, y_from, y_uses, y_revoked, y_had, y_data)) (hinv : iv_M_commit_101 (y_thrown, y_ring, y_off, y_fuse, y_steps, y_many, y_log, y_before, y_home, y_base, y_now, y_kinds, y_blocks, y_runs, y_revokes, y_from, y_uses, y_revoked, y_had, y_data) x3 x4 (y_thrown_i, y_ring, y_off_i, y_fuse_i, y_steps_i, y_many_i, y_log_i, y_before_i, y_home_i, y_base_i, y_now, y_kinds_i, y_blocks_i, y_runs_i, y_revokes_i, y_from_i, y_uses_i, y_revoked_i, y_had_i, y_data_i)) (c_104 : x3 ≤ x4) (w_127 : po_M_step 4 0 (y_thrown_i, y_ring, y_off_i, y_fuse_i, y_steps_i, y_many_i, y_log_i, y_before_i, y_home_i, y_base_i, y_now, y_kinds_i, y_blocks_i, y_runs_i, y_revokes_i, y_from_i, y_uses_i, y_revoked_i, y_had_i, y_data_i) r_127 (y_thrown_i, y_ring, y_off_127, y_fuse_127, y_steps_127, y_many_127, y_log_i, y_before_i, y_home_i, y_base_127, y_now, y_kinds_127, y_blocks_127, y_runs_127, y_revokes_127, y_from_i, y_uses_i, y_revoked_i, y_had_i, y_data_i)) (c_130 : ¬ r_127 = 0) (w_136 : po_M_step 2 0 (y_thrown_i, y_ring, y_off_127, y_fuse_127, y_steps_127, y_many_127, y_log_i, y_before_i, y_home_i, y_base_127, y_now, y_kinds_127, y_blocks_127, y_runs_127, y_revokes_127, y_from_i, y_uses_i, y_revoked_i, y_had_i, y_data_i) r_136 (y_thrown_i, y_ring, y_off_136, y_fuse_136, y_steps_136, y_many_136, y_log_i, y_before_i, y_home_i, y_base_136, y_now, y_kinds_136, y_blocks_136, y_runs_136, y_revokes_136, y_from_i, y_uses_i, y_revoked_i, y_had_i, y_data_i)) (c_139 : r_136 = 0) : po_M_commit (y_thrown, y_ring, y_off, y_fuse, y_steps, y_many, y_log, y_before, y_home, y_base, y_now, y_kinds, y_blocks, y_runs, y_revokes, y_from, y_uses, y_revoked, y_had, y_data) (-1) (y_thrown_i, y_ring, y_off_136, y_fuse_136, y_steps_136, y_many_136, y_log_i, y_before_i, y_home_i, y_base_136, y_now, y_kinds_136, y_blocks_136, y_runs_136, y_revokes_136, y_from_i, y_uses_i, y_revoked_i, y_had_i, y_data_i) := by
  intro σ hr hsw
  obtain ⟨ring, run, rev, now, d, g⟩ := σ
  obtain ⟨k, hk1, rfl, i2, c_9, h⟩ := hinv
  obtain ⟨o, a1, a2, a3, a4, a5, a6, a7, a8, a9, a10, a11, a12, a13, a14⟩ := m_al hr hsw c_9
  obtain ⟨j1, j2, hz, d0, g0, d1, e0, n0, w0, lw0, us0, eb, rs, rl, ln, w1, o1, l1, al⟩ := h ring run rev now d g hr hsw
  subst j1
  obtain ⟨u1, u2, u3⟩ := use_le (run := run) (rev := rev) a9
  have u4 := use_ge2 hz
  have hge : sUse run rev ≤ k := (nI_leI (by omega) (by omega)).mp c_104
  have ek : sUse run rev - k = 0 := by omega
  rw [ek] at eb
  have eb : sBody (sUse run rev - 1) d0 = (true, d1) := eb
  obtain ⟨b1, b2⟩ := w_127 d1 run rev 4 0 rs w1 (by omega) rfl (by decide) rfl (fun z => (nomatch z))
  have b1 : r_127 = b2i (sBar d1).1 := b1
  have b2 : RMs (sBar d1).2 run rev _ := b2
  have z1 := b2i_n0.mp (fun y => c_130 (b1.trans y))
  have k1 := DW_bar w1
  have l2 : (sBar d1).2.1.length < 200 := by rw [bar_nil z1]; decide
  obtain ⟨f1, f2⟩ := w_136 (sBar d1).2 run rev 2 0 b2 k1 l2 rfl (by decide) rfl (fun z => (nomatch z))
  have f1 : r_136 = b2i (sRing 65 (sBar d1).2).1 := f1
  have f2 : RMs (sRing 65 (sBar d1).2).2 run rev _ := f2
  have z2 := b2i_0.mp (f1.symm.trans c_139)
  rw [e0, cg_e (tr_2 eb z1 z2)]
  exact ⟨rfl, f2, rl, RMn_not (by rw [ring_fu z2, bar_nil z1]; decide) ln, RMo_off hr.2.2.2 (ring_off z2) (fun _ _ => rfl)⟩
theorem vc_M_commit_110_0 (y_thrown : Int32) (y_ring : Int32) (y_off : Int32) (y_fuse : Int32) (y_steps : Int32) (y_many : Int32) (y_log : Int32) (y_before : Int32) (y_home : Nat → Int32) (y_base : Nat → Int32) (y_now : Nat → Int32) (y_kinds : Nat → Int32) (y_blocks : Nat → Int32) (y_runs : Nat → Int32) (y_revokes : Nat → Int32) (y_from : Nat → Int32) (y_uses : Nat → Int32) (y_revoked : Nat → Int32) (y_had : Nat → Int32) (y_data : Nat → Int32) (x3 : Int32) (x4 : Int32) (y_thrown_i : Int32) (y_off_i : Int32) (y_fuse_i : Int32) (y_steps_i : Int32) (y_many_i : Int32) (y_log_i : Int32) (y_before_i : Int32) (y_home_i : Nat → Int32) (y_base_i : Nat → Int32) (y_kinds_i : Nat → Int32) (y_blocks_i : Nat → Int32) (y_runs_i : Nat → Int32) (y_revokes_i : Nat → Int32) (y_from_i : Nat → Int32) (y_uses_i : Nat → Int32) (y_revoked_i : Nat → Int32) (y_had_i : Nat → Int32) (y_data_i : Nat → Int32) (hpre : pr_M_commit (y_thrown, y_ring, y_off, y_fuse, y_steps, y_many, y_log, y_before, y_home, y_base, y_now, y_kinds, y_blocks, y_runs, y_revokes, y_from, y_uses, y_revoked, y_had, y_data)) (hinv : iv_M_commit_101 (y_thrown, y_ring, y_off, y_fuse, y_steps, y_many, y_log, y_before, y_home, y_base, y_now, y_kinds, y_blocks, y_runs, y_revokes, y_from, y_uses, y_revoked, y_had, y_data) x3 x4 (y_thrown_i, y_ring, y_off_i, y_fuse_i, y_steps_i, y_many_i, y_log_i, y_before_i, y_home_i, y_base_i, y_now, y_kinds_i, y_blocks_i, y_runs_i, y_revokes_i, y_from_i, y_uses_i, y_revoked_i, y_had_i, y_data_i)) (c_104 : ¬ x3 ≤ x4) : pr_M_step 1 0 (y_thrown_i, y_ring, y_off_i, y_fuse_i, y_steps_i, y_many_i, y_log_i, y_before_i, y_home_i, y_base_i, y_now, y_kinds_i, y_blocks_i, y_runs_i, y_revokes_i, y_from_i, y_uses_i, y_revoked_i, y_had_i, y_data_i) := by
  obtain ⟨k, hk1, rfl, i2, c_9, h⟩ := hinv
  obtain ⟨σ, hr, hsw⟩ := hpre
  obtain ⟨ring, run, rev, now, d, g⟩ := σ
  obtain ⟨o, a1, a2, a3, a4, a5, a6, a7, a8, a9, a10, a11, a12, a13, a14⟩ := m_al hr hsw c_9
  obtain ⟨j1, j2, hz, d0, g0, d1, e0, n0, w0, lw0, us0, eb, rs, rl, ln, w1, o1, l1, al⟩ := h ring run rev now d g hr hsw
  subst j1
  obtain ⟨u1, u2, u3⟩ := use_le (run := run) (rev := rev) a9
  have u4 := use_ge2 hz
  have hlt : ¬ sUse run rev ≤ k := fun z => c_104 (nI_le z (by omega))
  exact ⟨d1, run, rev, 1, 0, rs, w1, by omega, rfl, by decide, rfl, fun z => (nomatch z)⟩
theorem vc_M_commit_121_0 (y_thrown : Int32) (y_ring : Int32) (y_off : Int32) (y_fuse : Int32) (y_steps : Int32) (y_many : Int32) (y_log : Int32) (y_before : Int32) (y_home : Nat → Int32) (y_base : Nat → Int32) (y_now : Nat → Int32) (y_kinds : Nat → Int32) (y_blocks : Nat → Int32) (y_runs : Nat → Int32) (y_revokes : Nat → Int32) (y_from : Nat → Int32) (y_uses : Nat → Int32) (y_revoked : Nat → Int32) (y_had : Nat → Int32) (y_data : Nat → Int32) (x3 : Int32) (x4 : Int32) (y_thrown_i : Int32) (y_off_i : Int32) (y_fuse_i : Int32) (y_steps_i : Int32) (y_many_i : Int32) (y_log_i : Int32) (y_before_i : Int32) (y_home_i : Nat → Int32) (y_base_i : Nat → Int32) (y_kinds_i : Nat → Int32) (y_blocks_i : Nat → Int32) (y_runs_i : Nat → Int32) (y_revokes_i : Nat → Int32) (y_from_i : Nat → Int32) (y_uses_i : Nat → Int32) (y_revoked_i : Nat → Int32) (y_had_i : Nat → Int32) (y_data_i : Nat → Int32) (r_110 : Int32) (y_off_110 : Int32) (y_fuse_110 : Int32) (y_steps_110 : Int32) (y_many_110 : Int32) (y_base_110 : Nat → Int32) (y_kinds_110 : Nat → Int32) (y_blocks_110 : Nat → Int32) (y_runs_110 : Nat → Int32) (y_revokes_110 : Nat → Int32) (v_118 : Int32) (hpre : pr_M_commit (y_thrown, y_ring, y_off, y_fuse, y_steps, y_many, y_log, y_before, y_home, y_base, y_now, y_kinds, y_blocks, y_runs, y_revokes, y_from, y_uses, y_revoked, y_had, y_data)) (hinv : iv_M_commit_101 (y_thrown, y_ring, y_off, y_fuse, y_steps, y_many, y_log, y_before, y_home, y_base, y_now, y_kinds, y_blocks, y_runs, y_revokes, y_from, y_uses, y_revoked, y_had, y_data) x3 x4 (y_thrown_i, y_ring, y_off_i, y_fuse_i, y_steps_i, y_many_i, y_log_i, y_before_i, y_home_i, y_base_i, y_now, y_kinds_i, y_blocks_i, y_runs_i, y_revokes_i, y_from_i, y_uses_i, y_revoked_i, y_had_i, y_data_i)) (c_104 : ¬ x3 ≤ x4) (w_110 : po_M_step 1 0 (y_thrown_i, y_ring, y_off_i, y_fuse_i, y_steps_i, y_many_i, y_log_i, y_before_i, y_home_i, y_base_i, y_now, y_kinds_i, y_blocks_i, y_runs_i, y_revokes_i, y_from_i, y_uses_i, y_revoked_i, y_had_i, y_data_i) r_110 (y_thrown_i, y_ring, y_off_110, y_fuse_110, y_steps_110, y_many_110, y_log_i, y_before_i, y_home_i, y_base_110, y_now, y_kinds_110, y_blocks_110, y_runs_110, y_revokes_110, y_from_i, y_uses_i, y_revoked_i, y_had_i, y_data_i)) (c_113 : ¬ r_110 = 0) (e_118 : v_118 = x4 + 1) : iv_M_commit_101 (y_thrown, y_ring, y_off, y_fuse, y_steps, y_many, y_log, y_before, y_home, y_base, y_now, y_kinds, y_blocks, y_runs, y_revokes, y_from, y_uses, y_revoked, y_had, y_data) x3 v_118 (y_thrown_i, y_ring, y_off_110, y_fuse_110, y_steps_110, y_many_110, y_log_i, y_before_i, y_home_i, y_base_110, y_now, y_kinds_110, y_blocks_110, y_runs_110, y_revokes_110, y_from_i, y_uses_i, y_revoked_i, y_had_i, y_data_i) ∧ mu_M_commit_101 (y_thrown, y_ring, y_off, y_fuse, y_steps, y_many, y_log, y_before, y_home, y_base, y_now, y_kinds, y_blocks, y_runs, y_revokes, y_from, y_uses, y_revoked, y_had, y_data) x3 v_118 (y_thrown_i, y_ring, y_off_110, y_fuse_110, y_steps_110, y_many_110, y_log_i, y_before_i, y_home_i, y_base_110, y_now, y_kinds_110, y_blocks_110, y_runs_110, y_revokes_110, y_from_i, y_uses_i, y_revoked_i, y_had_i, y_data_i) < mu_M_commit_101 (y_thrown, y_ring, y_off, y_fuse, y_steps, y_many, y_log, y_before, y_home, y_base, y_now, y_kinds, y_blocks, y_runs, y_revokes, y_from, y_uses, y_revoked, y_had, y_data) x3 x4 (y_thrown_i, y_ring, y_off_i, y_fuse_i, y_steps_i, y_many_i, y_log_i, y_before_i, y_home_i, y_base_i, y_now, y_kinds_i, y_blocks_i, y_runs_i, y_revokes_i, y_from_i, y_uses_i, y_revoked_i, y_had_i, y_data_i) := by
  obtain ⟨k, hk1, rfl, i2, c_9, h⟩ := hinv
  obtain ⟨σ0, hr0, hs0⟩ := hpre
  obtain ⟨ring0, run0, rev0, now0, dd0, gg0⟩ := σ0
  have use0 := (h ring0 run0 rev0 now0 dd0 gg0 hr0 hs0).1
  have kk := (h ring0 run0 rev0 now0 dd0 gg0 hr0 hs0).2.1
  have a90 := (m_al hr0 hs0 c_9).2.2.2.2.2.2.2.2.2.1
  have u20 := use_le (run := run0) (rev := rev0) a90
  have hlt0 : ¬ sUse run0 rev0 ≤ k := fun z => c_104 (by rw [use0]; exact nI_le z (by omega))
  refine ⟨⟨k + 1, by omega, by rw [e_118]; exact nI_1 k, i2, c_9, fun ring run rev now d g hr hsw => ?_⟩, ?_⟩
  · obtain ⟨o, a1, a2, a3, a4, a5, a6, a7, a8, a9, a10, a11, a12, a13, a14⟩ := m_al hr hsw c_9
    obtain ⟨j1, j2, hz, d0, g0, d1, e0, n0, w0, lw0, us0, eb, rs, rl, ln, w1, o1, l1, al⟩ := h ring run rev now d g hr hsw
    subst j1
    obtain ⟨u1, u2, u3⟩ := use_le (run := run) (rev := rev) a9
    have u4 := use_ge2 hz
    have hlt : ¬ sUse run rev ≤ k := fun z => c_104 (nI_le z (by omega))
    obtain ⟨b1, b2⟩ := w_110 d1 run rev 1 0 rs w1 (by omega) rfl (by decide) rfl (fun z => (nomatch z))
    have b1 : r_110 = b2i (sRing 64 d1).1 := b1
    have b2 : RMs (sRing 64 d1).2 run rev _ := b2
    have z1 := b2i_n0.mp (fun y => c_113 (b1.trans y))
    rw [show sUse run rev - k = (sUse run rev - (k + 1)) + 1 by omega, body_t z1] at eb
    refine ⟨rfl, by omega, hz, d0, g0, _, e0, n0, w0, lw0, us0, eb, b2, rl, ln, DW_ring w1 (by omega) (by decide), (ring_on z1).trans o1, ?_, fun e he => ?_⟩
    · rw [ring_u z1, List.length_append, l1]; simp; omega
    · rw [ring_u z1] at he
      rcases List.mem_append.mp he with y | y
      · exact al e y
      · exact List.mem_singleton.mp y
  · show x3.toNatClampNeg - v_118.toNatClampNeg < x3.toNatClampNeg - (nI k).toNatClampNeg
    rw [e_118, nI_1, use0, nI_clamp (n := sUse run0 rev0) (by omega), nI_clamp (n := k + 1) (by omega), nI_clamp (n := k) (by omega)]
    omega
theorem vc_M_commit_117_0 (y_thrown : Int32) (y_ring : Int32) (y_off : Int32) (y_fuse : Int32) (y_steps : Int32) (y_many : Int32) (y_log : Int32) (y_before : Int32) (y_home : Nat → Int32) (y_base : Nat → Int32) (y_now : Nat → Int32) (y_kinds : Nat → Int32) (y_blocks : Nat → Int32) (y_runs : Nat → Int32) (y_revokes : Nat → Int32) (y_from : Nat → Int32) (y_uses : Nat → Int32) (y_revoked : Nat → Int32) (y_had : Nat → Int32) (y_data : Nat → Int32) (x3 : Int32) (x4 : Int32) (y_thrown_i : Int32) (y_off_i : Int32) (y_fuse_i : Int32) (y_steps_i : Int32) (y_many_i : Int32) (y_log_i : Int32) (y_before_i : Int32) (y_home_i : Nat → Int32) (y_base_i : Nat → Int32) (y_kinds_i : Nat → Int32) (y_blocks_i : Nat → Int32) (y_runs_i : Nat → Int32) (y_revokes_i : Nat → Int32) (y_from_i : Nat → Int32) (y_uses_i : Nat → Int32) (y_revoked_i : Nat → Int32) (y_had_i : Nat → Int32) (y_data_i : Nat → Int32) (r_110 : Int32) (y_off_110 : Int32) (y_fuse_110 : Int32) (y_steps_110 : Int32) (y_many_110 : Int32) (y_base_110 : Nat → Int32) (y_kinds_110 : Nat → Int32) (y_blocks_110 : Nat → Int32) (y_runs_110 : Nat → Int32) (y_revokes_110 : Nat → Int32) (hpre : pr_M_commit (y_thrown, y_ring, y_off, y_fuse, y_steps, y_many, y_log, y_before, y_home, y_base, y_now, y_kinds, y_blocks, y_runs, y_revokes, y_from, y_uses, y_revoked, y_had, y_data)) (hinv : iv_M_commit_101 (y_thrown, y_ring, y_off, y_fuse, y_steps, y_many, y_log, y_before, y_home, y_base, y_now, y_kinds, y_blocks, y_runs, y_revokes, y_from, y_uses, y_revoked, y_had, y_data) x3 x4 (y_thrown_i, y_ring, y_off_i, y_fuse_i, y_steps_i, y_many_i, y_log_i, y_before_i, y_home_i, y_base_i, y_now, y_kinds_i, y_blocks_i, y_runs_i, y_revokes_i, y_from_i, y_uses_i, y_revoked_i, y_had_i, y_data_i)) (c_104 : ¬ x3 ≤ x4) (w_110 : po_M_step 1 0 (y_thrown_i, y_ring, y_off_i, y_fuse_i, y_steps_i, y_many_i, y_log_i, y_before_i, y_home_i, y_base_i, y_now, y_kinds_i, y_blocks_i, y_runs_i, y_revokes_i, y_from_i, y_uses_i, y_revoked_i, y_had_i, y_data_i) r_110 (y_thrown_i, y_ring, y_off_110, y_fuse_110, y_steps_110, y_many_110, y_log_i, y_before_i, y_home_i, y_base_110, y_now, y_kinds_110, y_blocks_110, y_runs_110, y_revokes_110, y_from_i, y_uses_i, y_revoked_i, y_had_i, y_data_i)) (c_113 : r_110 = 0) : po_M_commit (y_thrown, y_ring, y_off, y_fuse, y_steps, y_many, y_log, y_before, y_home, y_base, y_now, y_kinds, y_blocks, y_runs, y_revokes, y_from, y_uses, y_revoked, y_had, y_data) (-1) (y_thrown_i, y_ring, y_off_110, y_fuse_110, y_steps_110, y_many_110, y_log_i, y_before_i, y_home_i, y_base_110, y_now, y_kinds_110, y_blocks_110, y_runs_110, y_revokes_110, y_from_i, y_uses_i, y_revoked_i, y_had_i, y_data_i) := by
  intro σ hr hsw
  obtain ⟨ring, run, rev, now, d, g⟩ := σ
  obtain ⟨k, hk1, rfl, i2, c_9, h⟩ := hinv
  obtain ⟨o, a1, a2, a3, a4, a5, a6, a7, a8, a9, a10, a11, a12, a13, a14⟩ := m_al hr hsw c_9
  obtain ⟨j1, j2, hz, d0, g0, d1, e0, n0, w0, lw0, us0, eb, rs, rl, ln, w1, o1, l1, al⟩ := h ring run rev now d g hr hsw
  subst j1
  obtain ⟨u1, u2, u3⟩ := use_le (run := run) (rev := rev) a9
  have u4 := use_ge2 hz
  have hlt : ¬ sUse run rev ≤ k := fun z => c_104 (nI_le z (by omega))
  obtain ⟨b1, b2⟩ := w_110 d1 run rev 1 0 rs w1 (by omega) rfl (by decide) rfl (fun z => (nomatch z))
  have b1 : r_110 = b2i (sRing 64 d1).1 := b1
  have b2 : RMs (sRing 64 d1).2 run rev _ := b2
  have z1 := b2i_0.mp (b1.symm.trans c_113)
  rw [show sUse run rev - k = (sUse run rev - k - 1) + 1 by omega, body_f z1] at eb
  rw [e0, cg_e (tr_0 eb)]
  exact ⟨rfl, b2, rl, RMn_not (by rw [ring_fu z1]; exact fun y => absurd (al _ y) (by decide)) ln, RMo_off hr.2.2.2 (ring_off z1) (fun _ _ => rfl)⟩
theorem vc_M_commit_19_0 (y_thrown : Int32) (y_ring : Int32) (y_off : Int32) (y_fuse : Int32) (y_steps : Int32) (y_many : Int32) (y_log : Int32) (y_before : Int32) (y_home : Nat → Int32) (y_base : Nat → Int32) (y_now : Nat → Int32) (y_kinds : Nat → Int32) (y_blocks : Nat → Int32) (y_runs : Nat → Int32) (y_revokes : Nat → Int32) (y_from : Nat → Int32) (y_uses : Nat → Int32) (y_revoked : Nat → Int32) (y_had : Nat → Int32) (y_data : Nat → Int32) (hpre : pr_M_commit (y_thrown, y_ring, y_off, y_fuse, y_steps, y_many, y_log, y_before, y_home, y_base, y_now, y_kinds, y_blocks, y_runs, y_revokes, y_from, y_uses, y_revoked, y_had, y_data)) (c_9 : y_off = 0) : pr_M_size y_runs := by
  trivial
theorem vc_M_commit_28_0 (y_thrown : Int32) (y_ring : Int32) (y_off : Int32) (y_fuse : Int32) (y_steps : Int32) (y_many : Int32) (y_log : Int32) (y_before : Int32) (y_home : Nat → Int32) (y_base : Nat → Int32) (y_now : Nat → Int32) (y_kinds : Nat → Int32) (y_blocks : Nat → Int32) (y_runs : Nat → Int32) (y_revokes : Nat → Int32) (y_from : Nat → Int32) (y_uses : Nat → Int32) (y_revoked : Nat → Int32) (y_had : Nat → Int32) (y_data : Nat → Int32) (r_19 : Int32) (hpre : pr_M_commit (y_thrown, y_ring, y_off, y_fuse, y_steps, y_many, y_log, y_before, y_home, y_base, y_now, y_kinds, y_blocks, y_runs, y_revokes, y_from, y_uses, y_revoked, y_had, y_data)) (c_9 : y_off = 0) (w_19 : po_M_size y_runs r_19) : pr_M_size y_revokes := by
  trivial
theorem vc_M_commit_75_0 (y_thrown : Int32) (y_ring : Int32) (y_off : Int32) (y_fuse : Int32) (y_steps : Int32) (y_many : Int32) (y_log : Int32) (y_before : Int32) (y_home : Nat → Int32) (y_base : Nat → Int32) (y_now : Nat → Int32) (y_kinds : Nat → Int32) (y_blocks : Nat → Int32) (y_runs : Nat → Int32) (y_revokes : Nat → Int32) (y_from : Nat → Int32) (y_uses : Nat → Int32) (y_revoked : Nat → Int32) (y_had : Nat → Int32) (y_data : Nat → Int32) (r_19 : Int32) (r_28 : Int32) (v_73 : Int32) (hpre : pr_M_commit (y_thrown, y_ring, y_off, y_fuse, y_steps, y_many, y_log, y_before, y_home, y_base, y_now, y_kinds, y_blocks, y_runs, y_revokes, y_from, y_uses, y_revoked, y_had, y_data)) (c_9 : y_off = 0) (w_19 : po_M_size y_runs r_19) (w_28 : po_M_size y_revokes r_28) (c_31 : r_28 ≤ 0) (c_41 : ¬ r_19 = 0) (c_62 : (0 : Int32) = 0) (e_73 : v_73 = (((r_19 + (((r_19 + 28) - 1) / 28)) + 0) + 1)) : pr_M_used (0, y_ring, y_off, y_fuse, y_steps, y_many, y_log, y_before, y_home, y_base, y_now, y_kinds, y_blocks, y_runs, y_revokes, y_from, y_uses, y_revoked, y_had, y_data) := by
  obtain ⟨σ, hr, hsw⟩ := hpre
  obtain ⟨ring, run, rev, now, d, g⟩ := σ
  obtain ⟨o, a1, a2, a3, a4, a5, a6, a7, a8, a9, a10, a11, a12, a13, a14⟩ := m_al hr hsw c_9
  exact ⟨g, hr.2.1, a5, a8⟩
theorem vc_M_commit_99_0 (y_thrown : Int32) (y_ring : Int32) (y_off : Int32) (y_fuse : Int32) (y_steps : Int32) (y_many : Int32) (y_log : Int32) (y_before : Int32) (y_home : Nat → Int32) (y_base : Nat → Int32) (y_now : Nat → Int32) (y_kinds : Nat → Int32) (y_blocks : Nat → Int32) (y_runs : Nat → Int32) (y_revokes : Nat → Int32) (y_from : Nat → Int32) (y_uses : Nat → Int32) (y_revoked : Nat → Int32) (y_had : Nat → Int32) (y_data : Nat → Int32) (r_19 : Int32) (r_28 : Int32) (v_73 : Int32) (r_75 : Int32) (hpre : pr_M_commit (y_thrown, y_ring, y_off, y_fuse, y_steps, y_many, y_log, y_before, y_home, y_base, y_now, y_kinds, y_blocks, y_runs, y_revokes, y_from, y_uses, y_revoked, y_had, y_data)) (c_9 : y_off = 0) (w_19 : po_M_size y_runs r_19) (w_28 : po_M_size y_revokes r_28) (c_31 : r_28 ≤ 0) (c_41 : ¬ r_19 = 0) (c_62 : (0 : Int32) = 0) (e_73 : v_73 = (((r_19 + (((r_19 + 28) - 1) / 28)) + 0) + 1)) (w_75 : po_M_used (0, y_ring, y_off, y_fuse, y_steps, y_many, y_log, y_before, y_home, y_base, y_now, y_kinds, y_blocks, y_runs, y_revokes, y_from, y_uses, y_revoked, y_had, y_data) r_75) (c_86 : (r_75 + v_73) ≤ (y_ring - 1)) : iv_M_commit_101 (y_thrown, y_ring, y_off, y_fuse, y_steps, y_many, y_log, y_before, y_home, y_base, y_now, y_kinds, y_blocks, y_runs, y_revokes, y_from, y_uses, y_revoked, y_had, y_data) v_73 1 (0, y_ring, y_off, y_fuse, y_steps, y_many, y_log, y_before, y_home, y_base, y_now, y_kinds, y_blocks, y_runs, y_revokes, y_from, y_uses, y_revoked, y_had, y_data) ∧ True := by
  refine ⟨⟨1, Nat.le_refl _, rfl, rfl, c_9, fun ring run rev now d g hr hsw => ?_⟩, trivial⟩
  obtain ⟨o, a1, a2, a3, a4, a5, a6, a7, a8, a9, a10, a11, a12, a13, a14⟩ := m_al hr hsw c_9
  have w1 := w_19 run a1
  have w2 := w_28 rev a2
  have e2 : rev = 0 := cnt_zero.mp (by
    rw [w2] at c_31
    have := (nI_leI (b := 0) (by omega) (by decide)).mp c_31
    omega)
  have hz : ¬ run ||| rev = 0 := fun z => c_41 (by rw [w1, cnt_zero.mpr (or_z z).1]; rfl)
  have eu : v_73 = nI (sUse run rev) := by
    rw [e_73, w1, use_0 (cnt run) (by omega)]
    unfold sUse
    rw [if_pos e2]
  have wu := w_75 g hr.2.1 a5 a8
  obtain ⟨u1, u2, u3⟩ := use_le (run := run) (rev := rev) a9
  have u4 := use_ge2 hz
  have sw := sw_lw hsw
  have er : y_ring - 1 = nI (ring - 1) := by rw [a12]; exact nI_s1 (by omega)
  rw [wu, eu, nI_add, er] at c_86
  have c86 : sUsed g + sUse run rev ≤ ring - 1 := (nI_leI (by omega) (by omega)).mp c_86
  exact ⟨eu, by omega, hz, d, g, d, fC_go1 o hz (by omega), a6, a7, sw.1, c86, rfl, hr.1, hr.2.1, a5, a7, o, by rw [a6]; rfl, fun e he => by rw [a6] at he; cases he⟩
theorem vc_M_commit_90_0 (y_thrown : Int32) (y_ring : Int32) (y_off : Int32) (y_fuse : Int32) (y_steps : Int32) (y_many : Int32) (y_log : Int32) (y_before : Int32) (y_home : Nat → Int32) (y_base : Nat → Int32) (y_now : Nat → Int32) (y_kinds : Nat → Int32) (y_blocks : Nat → Int32) (y_runs : Nat → Int32) (y_revokes : Nat → Int32) (y_from : Nat → Int32) (y_uses : Nat → Int32) (y_revoked : Nat → Int32) (y_had : Nat → Int32) (y_data : Nat → Int32) (r_19 : Int32) (r_28 : Int32) (v_73 : Int32) (r_75 : Int32) (hpre : pr_M_commit (y_thrown, y_ring, y_off, y_fuse, y_steps, y_many, y_log, y_before, y_home, y_base, y_now, y_kinds, y_blocks, y_runs, y_revokes, y_from, y_uses, y_revoked, y_had, y_data)) (c_9 : y_off = 0) (w_19 : po_M_size y_runs r_19) (w_28 : po_M_size y_revokes r_28) (c_31 : r_28 ≤ 0) (c_41 : ¬ r_19 = 0) (c_62 : (0 : Int32) = 0) (e_73 : v_73 = (((r_19 + (((r_19 + 28) - 1) / 28)) + 0) + 1)) (w_75 : po_M_used (0, y_ring, y_off, y_fuse, y_steps, y_many, y_log, y_before, y_home, y_base, y_now, y_kinds, y_blocks, y_runs, y_revokes, y_from, y_uses, y_revoked, y_had, y_data) r_75) (c_86 : ¬ (r_75 + v_73) ≤ (y_ring - 1)) : pr_M_clearing (0, y_ring, y_off, y_fuse, y_steps, y_many, y_log, y_before, y_home, y_base, y_now, y_kinds, y_blocks, y_runs, y_revokes, y_from, y_uses, y_revoked, y_had, y_data) := by
  obtain ⟨σ, hr, hsw⟩ := hpre
  obtain ⟨ring, run, rev, now, d, g⟩ := σ
  obtain ⟨o, a1, a2, a3, a4, a5, a6, a7, a8, a9, a10, a11, a12, a13, a14⟩ := m_al hr hsw c_9
  exact ⟨d, run, rev, g, hr.1, a7, a6, hr.2.1, a5, a8⟩
theorem vc_M_commit_99_1 (y_thrown : Int32) (y_ring : Int32) (y_off : Int32) (y_fuse : Int32) (y_steps : Int32) (y_many : Int32) (y_log : Int32) (y_before : Int32) (y_home : Nat → Int32) (y_base : Nat → Int32) (y_now : Nat → Int32) (y_kinds : Nat → Int32) (y_blocks : Nat → Int32) (y_runs : Nat → Int32) (y_revokes : Nat → Int32) (y_from : Nat → Int32) (y_uses : Nat → Int32) (y_revoked : Nat → Int32) (y_had : Nat → Int32) (y_data : Nat → Int32) (r_19 : Int32) (r_28 : Int32) (v_73 : Int32) (r_75 : Int32) (r_90 : Int32) (y_off_90 : Int32) (y_fuse_90 : Int32) (y_steps_90 : Int32) (y_many_90 : Int32) (y_log_90 : Int32) (y_before_90 : Int32) (y_home_90 : Nat → Int32) (y_base_90 : Nat → Int32) (y_kinds_90 : Nat → Int32) (y_blocks_90 : Nat → Int32) (y_runs_90 : Nat → Int32) (y_revokes_90 : Nat → Int32) (hpre : pr_M_commit (y_thrown, y_ring, y_off, y_fuse, y_steps, y_many, y_log, y_before, y_home, y_base, y_now, y_kinds, y_blocks, y_runs, y_revokes, y_from, y_uses, y_revoked, y_had, y_data)) (c_9 : y_off = 0) (w_19 : po_M_size y_runs r_19) (w_28 : po_M_size y_revokes r_28) (c_31 : r_28 ≤ 0) (c_41 : ¬ r_19 = 0) (c_62 : (0 : Int32) = 0) (e_73 : v_73 = (((r_19 + (((r_19 + 28) - 1) / 28)) + 0) + 1)) (w_75 : po_M_used (0, y_ring, y_off, y_fuse, y_steps, y_many, y_log, y_before, y_home, y_base, y_now, y_kinds, y_blocks, y_runs, y_revokes, y_from, y_uses, y_revoked, y_had, y_data) r_75) (c_86 : ¬ (r_75 + v_73) ≤ (y_ring - 1)) (w_90 : po_M_clearing (0, y_ring, y_off, y_fuse, y_steps, y_many, y_log, y_before, y_home, y_base, y_now, y_kinds, y_blocks, y_runs, y_revokes, y_from, y_uses, y_revoked, y_had, y_data) r_90 (0, y_ring, y_off_90, y_fuse_90, y_steps_90, y_many_90, y_log_90, y_before_90, y_home_90, y_base_90, y_now, y_kinds_90, y_blocks_90, y_runs_90, y_revokes_90, y_from, y_uses, y_revoked, y_had, y_data)) (c_93 : 0 ≤ r_90) : iv_M_commit_101 (y_thrown, y_ring, y_off, y_fuse, y_steps, y_many, y_log, y_before, y_home, y_base, y_now, y_kinds, y_blocks, y_runs, y_revokes, y_from, y_uses, y_revoked, y_had, y_data) v_73 1 (0, y_ring, y_off_90, y_fuse_90, y_steps_90, y_many_90, y_log_90, y_before_90, y_home_90, y_base_90, y_now, y_kinds_90, y_blocks_90, y_runs_90, y_revokes_90, y_from, y_uses, y_revoked, y_had, y_data) ∧ True := by
  refine ⟨⟨1, Nat.le_refl _, rfl, rfl, c_9, fun ring run rev now d g hr hsw => ?_⟩, trivial⟩
  obtain ⟨o, a1, a2, a3, a4, a5, a6, a7, a8, a9, a10, a11, a12, a13, a14⟩ := m_al hr hsw c_9
  have w1 := w_19 run a1
  have w2 := w_28 rev a2
  have e2 : rev = 0 := cnt_zero.mp (by
    rw [w2] at c_31
    have := (nI_leI (b := 0) (by omega) (by decide)).mp c_31
    omega)
  have hz : ¬ run ||| rev = 0 := fun z => c_41 (by rw [w1, cnt_zero.mpr (or_z z).1]; rfl)
  have eu : v_73 = nI (sUse run rev) := by
    rw [e_73, w1, use_0 (cnt run) (by omega)]
    unfold sUse
    rw [if_pos e2]
  have wu := w_75 g hr.2.1 a5 a8
  obtain ⟨u1, u2, u3⟩ := use_le (run := run) (rev := rev) a9
  have u4 := use_ge2 hz
  have sw := sw_lw hsw
  have er : y_ring - 1 = nI (ring - 1) := by rw [a12]; exact nI_s1 (by omega)
  rw [wu, eu, nI_add, er] at c_86
  have c86 : ring - 1 < sUsed g + sUse run rev := by
    rcases Nat.lt_or_ge (ring - 1) (sUsed g + sUse run rev) with z | z
    · exact z
    · exact absurd (nI_le z (by omega)) c_86
  obtain ⟨b1, b2, b3⟩ := w_90 d run rev g hr.1 a7 a6 hr.2.1 a5 a8
  obtain ⟨x1, x2, x3⟩ := clear_wf a7 a6 a8
  have z : (sClear d g).1 = true := by
    cases z : (sClear d g).1
    · rw [z] at b1
      have b1 : r_90 = -1 := b1
      rw [b1] at c_93; exact absurd c_93 (by decide)
    · rfl
  obtain ⟨y1, y2⟩ := x2 z
  have ol := clr_l a7 a6 a8 hr.2.1
  rw [y2] at b3 ol
  rw [y1] at b3
  have e0 : fCommit (ring, run, rev, now, d, g) = cGo ring run rev now (sClear d g).2.1 (0, g.2) := by
    rw [fC_go2 o hz c86, z, y2]; rfl
  refine ⟨eu, by omega, hz, (sClear d g).2.1, (0, g.2), (sClear d g).2.1, e0, y1, x1, LW_0 sw.1, ?_, rfl, b2, ol, b3, x1, clr_on a7 a6 a8 o z, by rw [y1]; rfl, fun e he => by rw [y1] at he; cases he⟩
  show 0 + sUse run rev ≤ ring - 1
  omega
theorem vc_M_commit_97_0 (y_thrown : Int32) (y_ring : Int32) (y_off : Int32) (y_fuse : Int32) (y_steps : Int32) (y_many : Int32) (y_log : Int32) (y_before : Int32) (y_home : Nat → Int32) (y_base : Nat → Int32) (y_now : Nat → Int32) (y_kinds : Nat → Int32) (y_blocks : Nat → Int32) (y_runs : Nat → Int32) (y_revokes : Nat → Int32) (y_from : Nat → Int32) (y_uses : Nat → Int32) (y_revoked : Nat → Int32) (y_had : Nat → Int32) (y_data : Nat → Int32) (r_19 : Int32) (r_28 : Int32) (v_73 : Int32) (r_75 : Int32) (r_90 : Int32) (y_off_90 : Int32) (y_fuse_90 : Int32) (y_steps_90 : Int32) (y_many_90 : Int32) (y_log_90 : Int32) (y_before_90 : Int32) (y_home_90 : Nat → Int32) (y_base_90 : Nat → Int32) (y_kinds_90 : Nat → Int32) (y_blocks_90 : Nat → Int32) (y_runs_90 : Nat → Int32) (y_revokes_90 : Nat → Int32) (hpre : pr_M_commit (y_thrown, y_ring, y_off, y_fuse, y_steps, y_many, y_log, y_before, y_home, y_base, y_now, y_kinds, y_blocks, y_runs, y_revokes, y_from, y_uses, y_revoked, y_had, y_data)) (c_9 : y_off = 0) (w_19 : po_M_size y_runs r_19) (w_28 : po_M_size y_revokes r_28) (c_31 : r_28 ≤ 0) (c_41 : ¬ r_19 = 0) (c_62 : (0 : Int32) = 0) (e_73 : v_73 = (((r_19 + (((r_19 + 28) - 1) / 28)) + 0) + 1)) (w_75 : po_M_used (0, y_ring, y_off, y_fuse, y_steps, y_many, y_log, y_before, y_home, y_base, y_now, y_kinds, y_blocks, y_runs, y_revokes, y_from, y_uses, y_revoked, y_had, y_data) r_75) (c_86 : ¬ (r_75 + v_73) ≤ (y_ring - 1)) (w_90 : po_M_clearing (0, y_ring, y_off, y_fuse, y_steps, y_many, y_log, y_before, y_home, y_base, y_now, y_kinds, y_blocks, y_runs, y_revokes, y_from, y_uses, y_revoked, y_had, y_data) r_90 (0, y_ring, y_off_90, y_fuse_90, y_steps_90, y_many_90, y_log_90, y_before_90, y_home_90, y_base_90, y_now, y_kinds_90, y_blocks_90, y_runs_90, y_revokes_90, y_from, y_uses, y_revoked, y_had, y_data)) (c_93 : ¬ 0 ≤ r_90) : po_M_commit (y_thrown, y_ring, y_off, y_fuse, y_steps, y_many, y_log, y_before, y_home, y_base, y_now, y_kinds, y_blocks, y_runs, y_revokes, y_from, y_uses, y_revoked, y_had, y_data) (-1) (0, y_ring, y_off_90, y_fuse_90, y_steps_90, y_many_90, y_log_90, y_before_90, y_home_90, y_base_90, y_now, y_kinds_90, y_blocks_90, y_runs_90, y_revokes_90, y_from, y_uses, y_revoked, y_had, y_data) := by
  intro σ hr hsw
  obtain ⟨ring, run, rev, now, d, g⟩ := σ
  obtain ⟨o, a1, a2, a3, a4, a5, a6, a7, a8, a9, a10, a11, a12, a13, a14⟩ := m_al hr hsw c_9
  have w1 := w_19 run a1
  have w2 := w_28 rev a2
  have e2 : rev = 0 := cnt_zero.mp (by
    rw [w2] at c_31
    have := (nI_leI (b := 0) (by omega) (by decide)).mp c_31
    omega)
  have hz : ¬ run ||| rev = 0 := fun z => c_41 (by rw [w1, cnt_zero.mpr (or_z z).1]; rfl)
  have eu : v_73 = nI (sUse run rev) := by
    rw [e_73, w1, use_0 (cnt run) (by omega)]
    unfold sUse
    rw [if_pos e2]
  have wu := w_75 g hr.2.1 a5 a8
  obtain ⟨u1, u2, u3⟩ := use_le (run := run) (rev := rev) a9
  have u4 := use_ge2 hz
  have sw := sw_lw hsw
  have er : y_ring - 1 = nI (ring - 1) := by rw [a12]; exact nI_s1 (by omega)
  rw [wu, eu, nI_add, er] at c_86
  have c86 : ring - 1 < sUsed g + sUse run rev := by
    rcases Nat.lt_or_ge (ring - 1) (sUsed g + sUse run rev) with z | z
    · exact z
    · exact absurd (nI_le z (by omega)) c_86
  obtain ⟨b1, b2, b3⟩ := w_90 d run rev g hr.1 a7 a6 hr.2.1 a5 a8
  obtain ⟨x1, x2, x3⟩ := clear_wf a7 a6 a8
  have z : (sClear d g).1 = false := by
    cases z : (sClear d g).1
    · rfl
    · rw [z] at b1
      have b1 : r_90 = nI (cnt (sLying g)) := b1
      have k := cnt_le (sLying g)
      rw [b1] at c_93
      exact absurd (nI_le (a := 0) (Nat.zero_le _) (by omega)) c_93
  have ol := clr_l a7 a6 a8 hr.2.1
  have oo := clr_o a7 a6 a8 hr.2.2.2 o
  have e0 : fCommit (ring, run, rev, now, d, g) = (-1, (ring, run, rev, now, (sClear d g).2.1, (sClear d g).2.2)) := by
    rw [fC_go2 o hz c86, z]; rfl
  rw [e0]
  exact ⟨rfl, b2, ol, b3, oo⟩
theorem vc_M_commit_49_0 (y_thrown : Int32) (y_ring : Int32) (y_off : Int32) (y_fuse : Int32) (y_steps : Int32) (y_many : Int32) (y_log : Int32) (y_before : Int32) (y_home : Nat → Int32) (y_base : Nat → Int32) (y_now : Nat → Int32) (y_kinds : Nat → Int32) (y_blocks : Nat → Int32) (y_runs : Nat → Int32) (y_revokes : Nat → Int32) (y_from : Nat → Int32) (y_uses : Nat → Int32) (y_revoked : Nat → Int32) (y_had : Nat → Int32) (y_data : Nat → Int32) (r_19 : Int32) (r_28 : Int32) (hpre : pr_M_commit (y_thrown, y_ring, y_off, y_fuse, y_steps, y_many, y_log, y_before, y_home, y_base, y_now, y_kinds, y_blocks, y_runs, y_revokes, y_from, y_uses, y_revoked, y_had, y_data)) (c_9 : y_off = 0) (w_19 : po_M_size y_runs r_19) (w_28 : po_M_size y_revokes r_28) (c_31 : r_28 ≤ 0) (c_41 : r_19 = 0) (c_45 : (0 : Int32) = 0) : po_M_commit (y_thrown, y_ring, y_off, y_fuse, y_steps, y_many, y_log, y_before, y_home, y_base, y_now, y_kinds, y_blocks, y_runs, y_revokes, y_from, y_uses, y_revoked, y_had, y_data) 0 (0, y_ring, y_off, y_fuse, y_steps, y_many, y_log, y_before, y_home, y_base, y_now, y_kinds, y_blocks, y_runs, y_revokes, y_from, y_uses, y_revoked, y_had, y_data) := by
  intro σ hr hsw
  obtain ⟨ring, run, rev, now, d, g⟩ := σ
  obtain ⟨o, a1, a2, a3, a4, a5, a6, a7, a8, a9, a10, a11, a12, a13, a14⟩ := m_al hr hsw c_9
  have w1 := w_19 run a1
  have w2 := w_28 rev a2
  have e1 : cnt run = 0 := (nI_eq (by omega) (by decide)).mp (w1.symm.trans c_41)
  have e2 : cnt rev = 0 := by
    rw [w2] at c_31
    have := (nI_leI (b := 0) (by omega) (by decide)).mp c_31
    omega
  rw [fC_none o (by rw [cnt_zero.mp e1, cnt_zero.mp e2]; decide)]
  exact ⟨rfl, hr⟩
theorem vc_M_commit_75_1 (y_thrown : Int32) (y_ring : Int32) (y_off : Int32) (y_fuse : Int32) (y_steps : Int32) (y_many : Int32) (y_log : Int32) (y_before : Int32) (y_home : Nat → Int32) (y_base : Nat → Int32) (y_now : Nat → Int32) (y_kinds : Nat → Int32) (y_blocks : Nat → Int32) (y_runs : Nat → Int32) (y_revokes : Nat → Int32) (y_from : Nat → Int32) (y_uses : Nat → Int32) (y_revoked : Nat → Int32) (y_had : Nat → Int32) (y_data : Nat → Int32) (r_19 : Int32) (r_28 : Int32) (v_73 : Int32) (hpre : pr_M_commit (y_thrown, y_ring, y_off, y_fuse, y_steps, y_many, y_log, y_before, y_home, y_base, y_now, y_kinds, y_blocks, y_runs, y_revokes, y_from, y_uses, y_revoked, y_had, y_data)) (c_9 : y_off = 0) (w_19 : po_M_size y_runs r_19) (w_28 : po_M_size y_revokes r_28) (c_31 : ¬ r_28 ≤ 0) (c_41 : ¬ r_19 = 0) (c_62 : ¬ (1 : Int32) = 0) (e_73 : v_73 = (((r_19 + (((r_19 + 28) - 1) / 28)) + 1) + 1)) : pr_M_used (0, y_ring, y_off, y_fuse, y_steps, y_many, y_log, y_before, y_home, y_base, y_now, y_kinds, y_blocks, y_runs, y_revokes, y_from, y_uses, y_revoked, y_had, y_data) := by
  obtain ⟨σ, hr, hsw⟩ := hpre
  obtain ⟨ring, run, rev, now, d, g⟩ := σ
  obtain ⟨o, a1, a2, a3, a4, a5, a6, a7, a8, a9, a10, a11, a12, a13, a14⟩ := m_al hr hsw c_9
  exact ⟨g, hr.2.1, a5, a8⟩
theorem vc_M_commit_99_2 (y_thrown : Int32) (y_ring : Int32) (y_off : Int32) (y_fuse : Int32) (y_steps : Int32) (y_many : Int32) (y_log : Int32) (y_before : Int32) (y_home : Nat → Int32) (y_base : Nat → Int32) (y_now : Nat → Int32) (y_kinds : Nat → Int32) (y_blocks : Nat → Int32) (y_runs : Nat → Int32) (y_revokes : Nat → Int32) (y_from : Nat → Int32) (y_uses : Nat → Int32) (y_revoked : Nat → Int32) (y_had : Nat → Int32) (y_data : Nat → Int32) (r_19 : Int32) (r_28 : Int32) (v_73 : Int32) (r_75 : Int32) (hpre : pr_M_commit (y_thrown, y_ring, y_off, y_fuse, y_steps, y_many, y_log, y_before, y_home, y_base, y_now, y_kinds, y_blocks, y_runs, y_revokes, y_from, y_uses, y_revoked, y_had, y_data)) (c_9 : y_off = 0) (w_19 : po_M_size y_runs r_19) (w_28 : po_M_size y_revokes r_28) (c_31 : ¬ r_28 ≤ 0) (c_41 : ¬ r_19 = 0) (c_62 : ¬ (1 : Int32) = 0) (e_73 : v_73 = (((r_19 + (((r_19 + 28) - 1) / 28)) + 1) + 1)) (w_75 : po_M_used (0, y_ring, y_off, y_fuse, y_steps, y_many, y_log, y_before, y_home, y_base, y_now, y_kinds, y_blocks, y_runs, y_revokes, y_from, y_uses, y_revoked, y_had, y_data) r_75) (c_86 : (r_75 + v_73) ≤ (y_ring - 1)) : iv_M_commit_101 (y_thrown, y_ring, y_off, y_fuse, y_steps, y_many, y_log, y_before, y_home, y_base, y_now, y_kinds, y_blocks, y_runs, y_revokes, y_from, y_uses, y_revoked, y_had, y_data) v_73 1 (0, y_ring, y_off, y_fuse, y_steps, y_many, y_log, y_before, y_home, y_base, y_now, y_kinds, y_blocks, y_runs, y_revokes, y_from, y_uses, y_revoked, y_had, y_data) ∧ True := by
  refine ⟨⟨1, Nat.le_refl _, rfl, rfl, c_9, fun ring run rev now d g hr hsw => ?_⟩, trivial⟩
  obtain ⟨o, a1, a2, a3, a4, a5, a6, a7, a8, a9, a10, a11, a12, a13, a14⟩ := m_al hr hsw c_9
  have w1 := w_19 run a1
  have w2 := w_28 rev a2
  have e2 : ¬ rev = 0 := fun z => c_31 (by rw [w2, cnt_zero.mpr z]; decide)
  have hz : ¬ run ||| rev = 0 := fun z => e2 (or_z z).2
  have eu : v_73 = nI (sUse run rev) := by
    rw [e_73, w1, use_1 (cnt run) (by omega)]
    unfold sUse
    rw [if_neg e2]
  have wu := w_75 g hr.2.1 a5 a8
  obtain ⟨u1, u2, u3⟩ := use_le (run := run) (rev := rev) a9
  have u4 := use_ge2 hz
  have sw := sw_lw hsw
  have er : y_ring - 1 = nI (ring - 1) := by rw [a12]; exact nI_s1 (by omega)
  rw [wu, eu, nI_add, er] at c_86
  have c86 : sUsed g + sUse run rev ≤ ring - 1 := (nI_leI (by omega) (by omega)).mp c_86
  exact ⟨eu, by omega, hz, d, g, d, fC_go1 o hz (by omega), a6, a7, sw.1, c86, rfl, hr.1, hr.2.1, a5, a7, o, by rw [a6]; rfl, fun e he => by rw [a6] at he; cases he⟩
theorem vc_M_commit_90_1 (y_thrown : Int32) (y_ring : Int32) (y_off : Int32) (y_fuse : Int32) (y_steps : Int32) (y_many : Int32) (y_log : Int32) (y_before : Int32) (y_home : Nat → Int32) (y_base : Nat → Int32) (y_now : Nat → Int32) (y_kinds : Nat → Int32) (y_blocks : Nat → Int32) (y_runs : Nat → Int32) (y_revokes : Nat → Int32) (y_from : Nat → Int32) (y_uses : Nat → Int32) (y_revoked : Nat → Int32) (y_had : Nat → Int32) (y_data : Nat → Int32) (r_19 : Int32) (r_28 : Int32) (v_73 : Int32) (r_75 : Int32) (hpre : pr_M_commit (y_thrown, y_ring, y_off, y_fuse, y_steps, y_many, y_log, y_before, y_home, y_base, y_now, y_kinds, y_blocks, y_runs, y_revokes, y_from, y_uses, y_revoked, y_had, y_data)) (c_9 : y_off = 0) (w_19 : po_M_size y_runs r_19) (w_28 : po_M_size y_revokes r_28) (c_31 : ¬ r_28 ≤ 0) (c_41 : ¬ r_19 = 0) (c_62 : ¬ (1 : Int32) = 0) (e_73 : v_73 = (((r_19 + (((r_19 + 28) - 1) / 28)) + 1) + 1)) (w_75 : po_M_used (0, y_ring, y_off, y_fuse, y_steps, y_many, y_log, y_before, y_home, y_base, y_now, y_kinds, y_blocks, y_runs, y_revokes, y_from, y_uses, y_revoked, y_had, y_data) r_75) (c_86 : ¬ (r_75 + v_73) ≤ (y_ring - 1)) : pr_M_clearing (0, y_ring, y_off, y_fuse, y_steps, y_many, y_log, y_before, y_home, y_base, y_now, y_kinds, y_blocks, y_runs, y_revokes, y_from, y_uses, y_revoked, y_had, y_data) := by
  obtain ⟨σ, hr, hsw⟩ := hpre
  obtain ⟨ring, run, rev, now, d, g⟩ := σ
  obtain ⟨o, a1, a2, a3, a4, a5, a6, a7, a8, a9, a10, a11, a12, a13, a14⟩ := m_al hr hsw c_9
  exact ⟨d, run, rev, g, hr.1, a7, a6, hr.2.1, a5, a8⟩
theorem vc_M_commit_99_3 (y_thrown : Int32) (y_ring : Int32) (y_off : Int32) (y_fuse : Int32) (y_steps : Int32) (y_many : Int32) (y_log : Int32) (y_before : Int32) (y_home : Nat → Int32) (y_base : Nat → Int32) (y_now : Nat → Int32) (y_kinds : Nat → Int32) (y_blocks : Nat → Int32) (y_runs : Nat → Int32) (y_revokes : Nat → Int32) (y_from : Nat → Int32) (y_uses : Nat → Int32) (y_revoked : Nat → Int32) (y_had : Nat → Int32) (y_data : Nat → Int32) (r_19 : Int32) (r_28 : Int32) (v_73 : Int32) (r_75 : Int32) (r_90 : Int32) (y_off_90 : Int32) (y_fuse_90 : Int32) (y_steps_90 : Int32) (y_many_90 : Int32) (y_log_90 : Int32) (y_before_90 : Int32) (y_home_90 : Nat → Int32) (y_base_90 : Nat → Int32) (y_kinds_90 : Nat → Int32) (y_blocks_90 : Nat → Int32) (y_runs_90 : Nat → Int32) (y_revokes_90 : Nat → Int32) (hpre : pr_M_commit (y_thrown, y_ring, y_off, y_fuse, y_steps, y_many, y_log, y_before, y_home, y_base, y_now, y_kinds, y_blocks, y_runs, y_revokes, y_from, y_uses, y_revoked, y_had, y_data)) (c_9 : y_off = 0) (w_19 : po_M_size y_runs r_19) (w_28 : po_M_size y_revokes r_28) (c_31 : ¬ r_28 ≤ 0) (c_41 : ¬ r_19 = 0) (c_62 : ¬ (1 : Int32) = 0) (e_73 : v_73 = (((r_19 + (((r_19 + 28) - 1) / 28)) + 1) + 1)) (w_75 : po_M_used (0, y_ring, y_off, y_fuse, y_steps, y_many, y_log, y_before, y_home, y_base, y_now, y_kinds, y_blocks, y_runs, y_revokes, y_from, y_uses, y_revoked, y_had, y_data) r_75) (c_86 : ¬ (r_75 + v_73) ≤ (y_ring - 1)) (w_90 : po_M_clearing (0, y_ring, y_off, y_fuse, y_steps, y_many, y_log, y_before, y_home, y_base, y_now, y_kinds, y_blocks, y_runs, y_revokes, y_from, y_uses, y_revoked, y_had, y_data) r_90 (0, y_ring, y_off_90, y_fuse_90, y_steps_90, y_many_90, y_log_90, y_before_90, y_home_90, y_base_90, y_now, y_kinds_90, y_blocks_90, y_runs_90, y_revokes_90, y_from, y_uses, y_revoked, y_had, y_data)) (c_93 : 0 ≤ r_90) : iv_M_commit_101 (y_thrown, y_ring, y_off, y_fuse, y_steps, y_many, y_log, y_before, y_home, y_base, y_now, y_kinds, y_blocks, y_runs, y_revokes, y_from, y_uses, y_revoked, y_had, y_data) v_73 1 (0, y_ring, y_off_90, y_fuse_90, y_steps_90, y_many_90, y_log_90, y_before_90, y_home_90, y_base_90, y_now, y_kinds_90, y_blocks_90, y_runs_90, y_revokes_90, y_from, y_uses, y_revoked, y_had, y_data) ∧ True := by
  refine ⟨⟨1, Nat.le_refl _, rfl, rfl, c_9, fun ring run rev now d g hr hsw => ?_⟩, trivial⟩
  obtain ⟨o, a1, a2, a3, a4, a5, a6, a7, a8, a9, a10, a11, a12, a13, a14⟩ := m_al hr hsw c_9
  have w1 := w_19 run a1
  have w2 := w_28 rev a2
  have e2 : ¬ rev = 0 := fun z => c_31 (by rw [w2, cnt_zero.mpr z]; decide)
  have hz : ¬ run ||| rev = 0 := fun z => e2 (or_z z).2
  have eu : v_73 = nI (sUse run rev) := by
    rw [e_73, w1, use_1 (cnt run) (by omega)]
    unfold sUse
    rw [if_neg e2]
  have wu := w_75 g hr.2.1 a5 a8
  obtain ⟨u1, u2, u3⟩ := use_le (run := run) (rev := rev) a9
  have u4 := use_ge2 hz
  have sw := sw_lw hsw
  have er : y_ring - 1 = nI (ring - 1) := by rw [a12]; exact nI_s1 (by omega)
  rw [wu, eu, nI_add, er] at c_86
  have c86 : ring - 1 < sUsed g + sUse run rev := by
    rcases Nat.lt_or_ge (ring - 1) (sUsed g + sUse run rev) with z | z
    · exact z
    · exact absurd (nI_le z (by omega)) c_86
  obtain ⟨b1, b2, b3⟩ := w_90 d run rev g hr.1 a7 a6 hr.2.1 a5 a8
  obtain ⟨x1, x2, x3⟩ := clear_wf a7 a6 a8
  have z : (sClear d g).1 = true := by
    cases z : (sClear d g).1
    · rw [z] at b1
      have b1 : r_90 = -1 := b1
      rw [b1] at c_93; exact absurd c_93 (by decide)
    · rfl
  obtain ⟨y1, y2⟩ := x2 z
  have ol := clr_l a7 a6 a8 hr.2.1
  rw [y2] at b3 ol
  rw [y1] at b3
  have e0 : fCommit (ring, run, rev, now, d, g) = cGo ring run rev now (sClear d g).2.1 (0, g.2) := by
    rw [fC_go2 o hz c86, z, y2]; rfl
  refine ⟨eu, by omega, hz, (sClear d g).2.1, (0, g.2), (sClear d g).2.1, e0, y1, x1, LW_0 sw.1, ?_, rfl, b2, ol, b3, x1, clr_on a7 a6 a8 o z, by rw [y1]; rfl, fun e he => by rw [y1] at he; cases he⟩
  show 0 + sUse run rev ≤ ring - 1
  omega
theorem vc_M_commit_97_1 (y_thrown : Int32) (y_ring : Int32) (y_off : Int32) (y_fuse : Int32) (y_steps : Int32) (y_many : Int32) (y_log : Int32) (y_before : Int32) (y_home : Nat → Int32) (y_base : Nat → Int32) (y_now : Nat → Int32) (y_kinds : Nat → Int32) (y_blocks : Nat → Int32) (y_runs : Nat → Int32) (y_revokes : Nat → Int32) (y_from : Nat → Int32) (y_uses : Nat → Int32) (y_revoked : Nat → Int32) (y_had : Nat → Int32) (y_data : Nat → Int32) (r_19 : Int32) (r_28 : Int32) (v_73 : Int32) (r_75 : Int32) (r_90 : Int32) (y_off_90 : Int32) (y_fuse_90 : Int32) (y_steps_90 : Int32) (y_many_90 : Int32) (y_log_90 : Int32) (y_before_90 : Int32) (y_home_90 : Nat → Int32) (y_base_90 : Nat → Int32) (y_kinds_90 : Nat → Int32) (y_blocks_90 : Nat → Int32) (y_runs_90 : Nat → Int32) (y_revokes_90 : Nat → Int32) (hpre : pr_M_commit (y_thrown, y_ring, y_off, y_fuse, y_steps, y_many, y_log, y_before, y_home, y_base, y_now, y_kinds, y_blocks, y_runs, y_revokes, y_from, y_uses, y_revoked, y_had, y_data)) (c_9 : y_off = 0) (w_19 : po_M_size y_runs r_19) (w_28 : po_M_size y_revokes r_28) (c_31 : ¬ r_28 ≤ 0) (c_41 : ¬ r_19 = 0) (c_62 : ¬ (1 : Int32) = 0) (e_73 : v_73 = (((r_19 + (((r_19 + 28) - 1) / 28)) + 1) + 1)) (w_75 : po_M_used (0, y_ring, y_off, y_fuse, y_steps, y_many, y_log, y_before, y_home, y_base, y_now, y_kinds, y_blocks, y_runs, y_revokes, y_from, y_uses, y_revoked, y_had, y_data) r_75) (c_86 : ¬ (r_75 + v_73) ≤ (y_ring - 1)) (w_90 : po_M_clearing (0, y_ring, y_off, y_fuse, y_steps, y_many, y_log, y_before, y_home, y_base, y_now, y_kinds, y_blocks, y_runs, y_revokes, y_from, y_uses, y_revoked, y_had, y_data) r_90 (0, y_ring, y_off_90, y_fuse_90, y_steps_90, y_many_90, y_log_90, y_before_90, y_home_90, y_base_90, y_now, y_kinds_90, y_blocks_90, y_runs_90, y_revokes_90, y_from, y_uses, y_revoked, y_had, y_data)) (c_93 : ¬ 0 ≤ r_90) : po_M_commit (y_thrown, y_ring, y_off, y_fuse, y_steps, y_many, y_log, y_before, y_home, y_base, y_now, y_kinds, y_blocks, y_runs, y_revokes, y_from, y_uses, y_revoked, y_had, y_data) (-1) (0, y_ring, y_off_90, y_fuse_90, y_steps_90, y_many_90, y_log_90, y_before_90, y_home_90, y_base_90, y_now, y_kinds_90, y_blocks_90, y_runs_90, y_revokes_90, y_from, y_uses, y_revoked, y_had, y_data) := by
  intro σ hr hsw
  obtain ⟨ring, run, rev, now, d, g⟩ := σ
  obtain ⟨o, a1, a2, a3, a4, a5, a6, a7, a8, a9, a10, a11, a12, a13, a14⟩ := m_al hr hsw c_9
  have w1 := w_19 run a1
  have w2 := w_28 rev a2
  have e2 : ¬ rev = 0 := fun z => c_31 (by rw [w2, cnt_zero.mpr z]; decide)
  have hz : ¬ run ||| rev = 0 := fun z => e2 (or_z z).2
  have eu : v_73 = nI (sUse run rev) := by
    rw [e_73, w1, use_1 (cnt run) (by omega)]
    unfold sUse
    rw [if_neg e2]
  have wu := w_75 g hr.2.1 a5 a8
  obtain ⟨u1, u2, u3⟩ := use_le (run := run) (rev := rev) a9
  have u4 := use_ge2 hz
  have sw := sw_lw hsw
  have er : y_ring - 1 = nI (ring - 1) := by rw [a12]; exact nI_s1 (by omega)
  rw [wu, eu, nI_add, er] at c_86
  have c86 : ring - 1 < sUsed g + sUse run rev := by
    rcases Nat.lt_or_ge (ring - 1) (sUsed g + sUse run rev) with z | z
    · exact z
    · exact absurd (nI_le z (by omega)) c_86
  obtain ⟨b1, b2, b3⟩ := w_90 d run rev g hr.1 a7 a6 hr.2.1 a5 a8
  obtain ⟨x1, x2, x3⟩ := clear_wf a7 a6 a8
  have z : (sClear d g).1 = false := by
    cases z : (sClear d g).1
    · rfl
    · rw [z] at b1
      have b1 : r_90 = nI (cnt (sLying g)) := b1
      have k := cnt_le (sLying g)
      rw [b1] at c_93
      exact absurd (nI_le (a := 0) (Nat.zero_le _) (by omega)) c_93
  have ol := clr_l a7 a6 a8 hr.2.1
  have oo := clr_o a7 a6 a8 hr.2.2.2 o
  have e0 : fCommit (ring, run, rev, now, d, g) = (-1, (ring, run, rev, now, (sClear d g).2.1, (sClear d g).2.2)) := by
    rw [fC_go2 o hz c86, z]; rfl
  rw [e0]
  exact ⟨rfl, b2, ol, b3, oo⟩
theorem vc_M_commit_75_2 (y_thrown : Int32) (y_ring : Int32) (y_off : Int32) (y_fuse : Int32) (y_steps : Int32) (y_many : Int32) (y_log : Int32) (y_before : Int32) (y_home : Nat → Int32) (y_base : Nat → Int32) (y_now : Nat → Int32) (y_kinds : Nat → Int32) (y_blocks : Nat → Int32) (y_runs : Nat → Int32) (y_revokes : Nat → Int32) (y_from : Nat → Int32) (y_uses : Nat → Int32) (y_revoked : Nat → Int32) (y_had : Nat → Int32) (y_data : Nat → Int32) (r_19 : Int32) (r_28 : Int32) (v_73 : Int32) (hpre : pr_M_commit (y_thrown, y_ring, y_off, y_fuse, y_steps, y_many, y_log, y_before, y_home, y_base, y_now, y_kinds, y_blocks, y_runs, y_revokes, y_from, y_uses, y_revoked, y_had, y_data)) (c_9 : y_off = 0) (w_19 : po_M_size y_runs r_19) (w_28 : po_M_size y_revokes r_28) (c_31 : ¬ r_28 ≤ 0) (c_41 : r_19 = 0) (c_45 : ¬ (1 : Int32) = 0) (c_62 : ¬ (1 : Int32) = 0) (e_73 : v_73 = (((r_19 + (((r_19 + 28) - 1) / 28)) + 1) + 1)) : pr_M_used (0, y_ring, y_off, y_fuse, y_steps, y_many, y_log, y_before, y_home, y_base, y_now, y_kinds, y_blocks, y_runs, y_revokes, y_from, y_uses, y_revoked, y_had, y_data) := by
  obtain ⟨σ, hr, hsw⟩ := hpre
  obtain ⟨ring, run, rev, now, d, g⟩ := σ
  obtain ⟨o, a1, a2, a3, a4, a5, a6, a7, a8, a9, a10, a11, a12, a13, a14⟩ := m_al hr hsw c_9
  exact ⟨g, hr.2.1, a5, a8⟩
theorem vc_M_commit_99_4 (y_thrown : Int32) (y_ring : Int32) (y_off : Int32) (y_fuse : Int32) (y_steps : Int32) (y_many : Int32) (y_log : Int32) (y_before : Int32) (y_home : Nat → Int32) (y_base : Nat → Int32) (y_now : Nat → Int32) (y_kinds : Nat → Int32) (y_blocks : Nat → Int32) (y_runs : Nat → Int32) (y_revokes : Nat → Int32) (y_from : Nat → Int32) (y_uses : Nat → Int32) (y_revoked : Nat → Int32) (y_had : Nat → Int32) (y_data : Nat → Int32) (r_19 : Int32) (r_28 : Int32) (v_73 : Int32) (r_75 : Int32) (hpre : pr_M_commit (y_thrown, y_ring, y_off, y_fuse, y_steps, y_many, y_log, y_before, y_home, y_base, y_now, y_kinds, y_blocks, y_runs, y_revokes, y_from, y_uses, y_revoked, y_had, y_data)) (c_9 : y_off = 0) (w_19 : po_M_size y_runs r_19) (w_28 : po_M_size y_revokes r_28) (c_31 : ¬ r_28 ≤ 0) (c_41 : r_19 = 0) (c_45 : ¬ (1 : Int32) = 0) (c_62 : ¬ (1 : Int32) = 0) (e_73 : v_73 = (((r_19 + (((r_19 + 28) - 1) / 28)) + 1) + 1)) (w_75 : po_M_used (0, y_ring, y_off, y_fuse, y_steps, y_many, y_log, y_before, y_home, y_base, y_now, y_kinds, y_blocks, y_runs, y_revokes, y_from, y_uses, y_revoked, y_had, y_data) r_75) (c_86 : (r_75 + v_73) ≤ (y_ring - 1)) : iv_M_commit_101 (y_thrown, y_ring, y_off, y_fuse, y_steps, y_many, y_log, y_before, y_home, y_base, y_now, y_kinds, y_blocks, y_runs, y_revokes, y_from, y_uses, y_revoked, y_had, y_data) v_73 1 (0, y_ring, y_off, y_fuse, y_steps, y_many, y_log, y_before, y_home, y_base, y_now, y_kinds, y_blocks, y_runs, y_revokes, y_from, y_uses, y_revoked, y_had, y_data) ∧ True := by
  refine ⟨⟨1, Nat.le_refl _, rfl, rfl, c_9, fun ring run rev now d g hr hsw => ?_⟩, trivial⟩
  obtain ⟨o, a1, a2, a3, a4, a5, a6, a7, a8, a9, a10, a11, a12, a13, a14⟩ := m_al hr hsw c_9
  have w1 := w_19 run a1
  have w2 := w_28 rev a2
  have e2 : ¬ rev = 0 := fun z => c_31 (by rw [w2, cnt_zero.mpr z]; decide)
  have hz : ¬ run ||| rev = 0 := fun z => e2 (or_z z).2
  have eu : v_73 = nI (sUse run rev) := by
    rw [e_73, w1, use_1 (cnt run) (by omega)]
    unfold sUse
    rw [if_neg e2]
  have wu := w_75 g hr.2.1 a5 a8
  obtain ⟨u1, u2, u3⟩ := use_le (run := run) (rev := rev) a9
  have u4 := use_ge2 hz
  have sw := sw_lw hsw
  have er : y_ring - 1 = nI (ring - 1) := by rw [a12]; exact nI_s1 (by omega)
  rw [wu, eu, nI_add, er] at c_86
  have c86 : sUsed g + sUse run rev ≤ ring - 1 := (nI_leI (by omega) (by omega)).mp c_86
  exact ⟨eu, by omega, hz, d, g, d, fC_go1 o hz (by omega), a6, a7, sw.1, c86, rfl, hr.1, hr.2.1, a5, a7, o, by rw [a6]; rfl, fun e he => by rw [a6] at he; cases he⟩
theorem vc_M_commit_90_2 (y_thrown : Int32) (y_ring : Int32) (y_off : Int32) (y_fuse : Int32) (y_steps : Int32) (y_many : Int32) (y_log : Int32) (y_before : Int32) (y_home : Nat → Int32) (y_base : Nat → Int32) (y_now : Nat → Int32) (y_kinds : Nat → Int32) (y_blocks : Nat → Int32) (y_runs : Nat → Int32) (y_revokes : Nat → Int32) (y_from : Nat → Int32) (y_uses : Nat → Int32) (y_revoked : Nat → Int32) (y_had : Nat → Int32) (y_data : Nat → Int32) (r_19 : Int32) (r_28 : Int32) (v_73 : Int32) (r_75 : Int32) (hpre : pr_M_commit (y_thrown, y_ring, y_off, y_fuse, y_steps, y_many, y_log, y_before, y_home, y_base, y_now, y_kinds, y_blocks, y_runs, y_revokes, y_from, y_uses, y_revoked, y_had, y_data)) (c_9 : y_off = 0) (w_19 : po_M_size y_runs r_19) (w_28 : po_M_size y_revokes r_28) (c_31 : ¬ r_28 ≤ 0) (c_41 : r_19 = 0) (c_45 : ¬ (1 : Int32) = 0) (c_62 : ¬ (1 : Int32) = 0) (e_73 : v_73 = (((r_19 + (((r_19 + 28) - 1) / 28)) + 1) + 1)) (w_75 : po_M_used (0, y_ring, y_off, y_fuse, y_steps, y_many, y_log, y_before, y_home, y_base, y_now, y_kinds, y_blocks, y_runs, y_revokes, y_from, y_uses, y_revoked, y_had, y_data) r_75) (c_86 : ¬ (r_75 + v_73) ≤ (y_ring - 1)) : pr_M_clearing (0, y_ring, y_off, y_fuse, y_steps, y_many, y_log, y_before, y_home, y_base, y_now, y_kinds, y_blocks, y_runs, y_revokes, y_from, y_uses, y_revoked, y_had, y_data) := by
  obtain ⟨σ, hr, hsw⟩ := hpre
  obtain ⟨ring, run, rev, now, d, g⟩ := σ
  obtain ⟨o, a1, a2, a3, a4, a5, a6, a7, a8, a9, a10, a11, a12, a13, a14⟩ := m_al hr hsw c_9
  exact ⟨d, run, rev, g, hr.1, a7, a6, hr.2.1, a5, a8⟩
theorem vc_M_commit_99_5 (y_thrown : Int32) (y_ring : Int32) (y_off : Int32) (y_fuse : Int32) (y_steps : Int32) (y_many : Int32) (y_log : Int32) (y_before : Int32) (y_home : Nat → Int32) (y_base : Nat → Int32) (y_now : Nat → Int32) (y_kinds : Nat → Int32) (y_blocks : Nat → Int32) (y_runs : Nat → Int32) (y_revokes : Nat → Int32) (y_from : Nat → Int32) (y_uses : Nat → Int32) (y_revoked : Nat → Int32) (y_had : Nat → Int32) (y_data : Nat → Int32) (r_19 : Int32) (r_28 : Int32) (v_73 : Int32) (r_75 : Int32) (r_90 : Int32) (y_off_90 : Int32) (y_fuse_90 : Int32) (y_steps_90 : Int32) (y_many_90 : Int32) (y_log_90 : Int32) (y_before_90 : Int32) (y_home_90 : Nat → Int32) (y_base_90 : Nat → Int32) (y_kinds_90 : Nat → Int32) (y_blocks_90 : Nat → Int32) (y_runs_90 : Nat → Int32) (y_revokes_90 : Nat → Int32) (hpre : pr_M_commit (y_thrown, y_ring, y_off, y_fuse, y_steps, y_many, y_log, y_before, y_home, y_base, y_now, y_kinds, y_blocks, y_runs, y_revokes, y_from, y_uses, y_revoked, y_had, y_data)) (c_9 : y_off = 0) (w_19 : po_M_size y_runs r_19) (w_28 : po_M_size y_revokes r_28) (c_31 : ¬ r_28 ≤ 0) (c_41 : r_19 = 0) (c_45 : ¬ (1 : Int32) = 0) (c_62 : ¬ (1 : Int32) = 0) (e_73 : v_73 = (((r_19 + (((r_19 + 28) - 1) / 28)) + 1) + 1)) (w_75 : po_M_used (0, y_ring, y_off, y_fuse, y_steps, y_many, y_log, y_before, y_home, y_base, y_now, y_kinds, y_blocks, y_runs, y_revokes, y_from, y_uses, y_revoked, y_had, y_data) r_75) (c_86 : ¬ (r_75 + v_73) ≤ (y_ring - 1)) (w_90 : po_M_clearing (0, y_ring, y_off, y_fuse, y_steps, y_many, y_log, y_before, y_home, y_base, y_now, y_kinds, y_blocks, y_runs, y_revokes, y_from, y_uses, y_revoked, y_had, y_data) r_90 (0, y_ring, y_off_90, y_fuse_90, y_steps_90, y_many_90, y_log_90, y_before_90, y_home_90, y_base_90, y_now, y_kinds_90, y_blocks_90, y_runs_90, y_revokes_90, y_from, y_uses, y_revoked, y_had, y_data)) (c_93 : 0 ≤ r_90) : iv_M_commit_101 (y_thrown, y_ring, y_off, y_fuse, y_steps, y_many, y_log, y_before, y_home, y_base, y_now, y_kinds, y_blocks, y_runs, y_revokes, y_from, y_uses, y_revoked, y_had, y_data) v_73 1 (0, y_ring, y_off_90, y_fuse_90, y_steps_90, y_many_90, y_log_90, y_before_90, y_home_90, y_base_90, y_now, y_kinds_90, y_blocks_90, y_runs_90, y_revokes_90, y_from, y_uses, y_revoked, y_had, y_data) ∧ True := by
  refine ⟨⟨1, Nat.le_refl _, rfl, rfl, c_9, fun ring run rev now d g hr hsw => ?_⟩, trivial⟩
  obtain ⟨o, a1, a2, a3, a4, a5, a6, a7, a8, a9, a10, a11, a12, a13, a14⟩ := m_al hr hsw c_9
  have w1 := w_19 run a1
  have w2 := w_28 rev a2
  have e2 : ¬ rev = 0 := fun z => c_31 (by rw [w2, cnt_zero.mpr z]; decide)
  have hz : ¬ run ||| rev = 0 := fun z => e2 (or_z z).2
  have eu : v_73 = nI (sUse run rev) := by
    rw [e_73, w1, use_1 (cnt run) (by omega)]
    unfold sUse
    rw [if_neg e2]
  have wu := w_75 g hr.2.1 a5 a8
  obtain ⟨u1, u2, u3⟩ := use_le (run := run) (rev := rev) a9
  have u4 := use_ge2 hz
  have sw := sw_lw hsw
  have er : y_ring - 1 = nI (ring - 1) := by rw [a12]; exact nI_s1 (by omega)
  rw [wu, eu, nI_add, er] at c_86
  have c86 : ring - 1 < sUsed g + sUse run rev := by
    rcases Nat.lt_or_ge (ring - 1) (sUsed g + sUse run rev) with z | z
    · exact z
    · exact absurd (nI_le z (by omega)) c_86
  obtain ⟨b1, b2, b3⟩ := w_90 d run rev g hr.1 a7 a6 hr.2.1 a5 a8
  obtain ⟨x1, x2, x3⟩ := clear_wf a7 a6 a8
  have z : (sClear d g).1 = true := by
    cases z : (sClear d g).1
    · rw [z] at b1
      have b1 : r_90 = -1 := b1
      rw [b1] at c_93; exact absurd c_93 (by decide)
    · rfl
  obtain ⟨y1, y2⟩ := x2 z
  have ol := clr_l a7 a6 a8 hr.2.1
  rw [y2] at b3 ol
  rw [y1] at b3
  have e0 : fCommit (ring, run, rev, now, d, g) = cGo ring run rev now (sClear d g).2.1 (0, g.2) := by
    rw [fC_go2 o hz c86, z, y2]; rfl
  refine ⟨eu, by omega, hz, (sClear d g).2.1, (0, g.2), (sClear d g).2.1, e0, y1, x1, LW_0 sw.1, ?_, rfl, b2, ol, b3, x1, clr_on a7 a6 a8 o z, by rw [y1]; rfl, fun e he => by rw [y1] at he; cases he⟩
  show 0 + sUse run rev ≤ ring - 1
  omega
theorem vc_M_commit_97_2 (y_thrown : Int32) (y_ring : Int32) (y_off : Int32) (y_fuse : Int32) (y_steps : Int32) (y_many : Int32) (y_log : Int32) (y_before : Int32) (y_home : Nat → Int32) (y_base : Nat → Int32) (y_now : Nat → Int32) (y_kinds : Nat → Int32) (y_blocks : Nat → Int32) (y_runs : Nat → Int32) (y_revokes : Nat → Int32) (y_from : Nat → Int32) (y_uses : Nat → Int32) (y_revoked : Nat → Int32) (y_had : Nat → Int32) (y_data : Nat → Int32) (r_19 : Int32) (r_28 : Int32) (v_73 : Int32) (r_75 : Int32) (r_90 : Int32) (y_off_90 : Int32) (y_fuse_90 : Int32) (y_steps_90 : Int32) (y_many_90 : Int32) (y_log_90 : Int32) (y_before_90 : Int32) (y_home_90 : Nat → Int32) (y_base_90 : Nat → Int32) (y_kinds_90 : Nat → Int32) (y_blocks_90 : Nat → Int32) (y_runs_90 : Nat → Int32) (y_revokes_90 : Nat → Int32) (hpre : pr_M_commit (y_thrown, y_ring, y_off, y_fuse, y_steps, y_many, y_log, y_before, y_home, y_base, y_now, y_kinds, y_blocks, y_runs, y_revokes, y_from, y_uses, y_revoked, y_had, y_data)) (c_9 : y_off = 0) (w_19 : po_M_size y_runs r_19) (w_28 : po_M_size y_revokes r_28) (c_31 : ¬ r_28 ≤ 0) (c_41 : r_19 = 0) (c_45 : ¬ (1 : Int32) = 0) (c_62 : ¬ (1 : Int32) = 0) (e_73 : v_73 = (((r_19 + (((r_19 + 28) - 1) / 28)) + 1) + 1)) (w_75 : po_M_used (0, y_ring, y_off, y_fuse, y_steps, y_many, y_log, y_before, y_home, y_base, y_now, y_kinds, y_blocks, y_runs, y_revokes, y_from, y_uses, y_revoked, y_had, y_data) r_75) (c_86 : ¬ (r_75 + v_73) ≤ (y_ring - 1)) (w_90 : po_M_clearing (0, y_ring, y_off, y_fuse, y_steps, y_many, y_log, y_before, y_home, y_base, y_now, y_kinds, y_blocks, y_runs, y_revokes, y_from, y_uses, y_revoked, y_had, y_data) r_90 (0, y_ring, y_off_90, y_fuse_90, y_steps_90, y_many_90, y_log_90, y_before_90, y_home_90, y_base_90, y_now, y_kinds_90, y_blocks_90, y_runs_90, y_revokes_90, y_from, y_uses, y_revoked, y_had, y_data)) (c_93 : ¬ 0 ≤ r_90) : po_M_commit (y_thrown, y_ring, y_off, y_fuse, y_steps, y_many, y_log, y_before, y_home, y_base, y_now, y_kinds, y_blocks, y_runs, y_revokes, y_from, y_uses, y_revoked, y_had, y_data) (-1) (0, y_ring, y_off_90, y_fuse_90, y_steps_90, y_many_90, y_log_90, y_before_90, y_home_90, y_base_90, y_now, y_kinds_90, y_blocks_90, y_runs_90, y_revokes_90, y_from, y_uses, y_revoked, y_had, y_data) := by
  intro σ hr hsw
  obtain ⟨ring, run, rev, now, d, g⟩ := σ
  obtain ⟨o, a1, a2, a3, a4, a5, a6, a7, a8, a9, a10, a11, a12, a13, a14⟩ := m_al hr hsw c_9
  have w1 := w_19 run a1
  have w2 := w_28 rev a2
  have e2 : ¬ rev = 0 := fun z => c_31 (by rw [w2, cnt_zero.mpr z]; decide)
  have hz : ¬ run ||| rev = 0 := fun z => e2 (or_z z).2
  have eu : v_73 = nI (sUse run rev) := by
    rw [e_73, w1, use_1 (cnt run) (by omega)]
    unfold sUse
    rw [if_neg e2]
  have wu := w_75 g hr.2.1 a5 a8
  obtain ⟨u1, u2, u3⟩ := use_le (run := run) (rev := rev) a9
  have u4 := use_ge2 hz
  have sw := sw_lw hsw
  have er : y_ring - 1 = nI (ring - 1) := by rw [a12]; exact nI_s1 (by omega)
  rw [wu, eu, nI_add, er] at c_86
  have c86 : ring - 1 < sUsed g + sUse run rev := by
    rcases Nat.lt_or_ge (ring - 1) (sUsed g + sUse run rev) with z | z
    · exact z
    · exact absurd (nI_le z (by omega)) c_86
  obtain ⟨b1, b2, b3⟩ := w_90 d run rev g hr.1 a7 a6 hr.2.1 a5 a8
  obtain ⟨x1, x2, x3⟩ := clear_wf a7 a6 a8
  have z : (sClear d g).1 = false := by
    cases z : (sClear d g).1
    · rfl
    · rw [z] at b1
      have b1 : r_90 = nI (cnt (sLying g)) := b1
      have k := cnt_le (sLying g)
      rw [b1] at c_93
      exact absurd (nI_le (a := 0) (Nat.zero_le _) (by omega)) c_93
  have ol := clr_l a7 a6 a8 hr.2.1
  have oo := clr_o a7 a6 a8 hr.2.2.2 o
  have e0 : fCommit (ring, run, rev, now, d, g) = (-1, (ring, run, rev, now, (sClear d g).2.1, (sClear d g).2.2)) := by
    rw [fC_go2 o hz c86, z]; rfl
  rw [e0]
  exact ⟨rfl, b2, ol, b3, oo⟩
theorem vc_M_commit_13_0 (y_thrown : Int32) (y_ring : Int32) (y_off : Int32) (y_fuse : Int32) (y_steps : Int32) (y_many : Int32) (y_log : Int32) (y_before : Int32) (y_home : Nat → Int32) (y_base : Nat → Int32) (y_now : Nat → Int32) (y_kinds : Nat → Int32) (y_blocks : Nat → Int32) (y_runs : Nat → Int32) (y_revokes : Nat → Int32) (y_from : Nat → Int32) (y_uses : Nat → Int32) (y_revoked : Nat → Int32) (y_had : Nat → Int32) (y_data : Nat → Int32) (hpre : pr_M_commit (y_thrown, y_ring, y_off, y_fuse, y_steps, y_many, y_log, y_before, y_home, y_base, y_now, y_kinds, y_blocks, y_runs, y_revokes, y_from, y_uses, y_revoked, y_had, y_data)) (c_9 : ¬ y_off = 0) : po_M_commit (y_thrown, y_ring, y_off, y_fuse, y_steps, y_many, y_log, y_before, y_home, y_base, y_now, y_kinds, y_blocks, y_runs, y_revokes, y_from, y_uses, y_revoked, y_had, y_data) (-1) (0, y_ring, y_off, y_fuse, y_steps, y_many, y_log, y_before, y_home, y_base, y_now, y_kinds, y_blocks, y_runs, y_revokes, y_from, y_uses, y_revoked, y_had, y_data) := by
  intro σ hr hsw
  obtain ⟨ring, run, rev, now, d, g⟩ := σ
  rw [fC_off (m_off hr c_9)]
  exact ⟨rfl, hr⟩
theorem vc_M_clear_28_0 (y_thrown : Int32) (y_ring : Int32) (y_off : Int32) (y_fuse : Int32) (y_steps : Int32) (y_many : Int32) (y_log : Int32) (y_before : Int32) (y_home : Nat → Int32) (y_base : Nat → Int32) (y_now : Nat → Int32) (y_kinds : Nat → Int32) (y_blocks : Nat → Int32) (y_runs : Nat → Int32) (y_revokes : Nat → Int32) (y_from : Nat → Int32) (y_uses : Nat → Int32) (y_revoked : Nat → Int32) (y_had : Nat → Int32) (y_data : Nat → Int32) (hpre : pr_M_clear (y_thrown, y_ring, y_off, y_fuse, y_steps, y_many, y_log, y_before, y_home, y_base, y_now, y_kinds, y_blocks, y_runs, y_revokes, y_from, y_uses, y_revoked, y_had, y_data)) (c_9 : y_off = 0) (c_20 : ¬ y_log = 0) : pr_M_clearing (0, y_ring, y_off, y_fuse, y_steps, y_many, y_log, y_before, y_home, y_base, y_now, y_kinds, y_blocks, y_runs, y_revokes, y_from, y_uses, y_revoked, y_had, y_data) := by
  obtain ⟨σ, hr, hsw⟩ := hpre
  obtain ⟨ring, run, rev, now, d, g⟩ := σ
  obtain ⟨o, a1, a2, a3, a4, a5, a6, a7, a8, a9, a10, a11, a12, a13, a14⟩ := m_al hr hsw c_9
  exact ⟨d, run, rev, g, hr.1, a7, a6, hr.2.1, a5, a8⟩
theorem vc_M_clear_31_0 (y_thrown : Int32) (y_ring : Int32) (y_off : Int32) (y_fuse : Int32) (y_steps : Int32) (y_many : Int32) (y_log : Int32) (y_before : Int32) (y_home : Nat → Int32) (y_base : Nat → Int32) (y_now : Nat → Int32) (y_kinds : Nat → Int32) (y_blocks : Nat → Int32) (y_runs : Nat → Int32) (y_revokes : Nat → Int32) (y_from : Nat → Int32) (y_uses : Nat → Int32) (y_revoked : Nat → Int32) (y_had : Nat → Int32) (y_data : Nat → Int32) (r_28 : Int32) (y_off_28 : Int32) (y_fuse_28 : Int32) (y_steps_28 : Int32) (y_many_28 : Int32) (y_log_28 : Int32) (y_before_28 : Int32) (y_home_28 : Nat → Int32) (y_base_28 : Nat → Int32) (y_kinds_28 : Nat → Int32) (y_blocks_28 : Nat → Int32) (y_runs_28 : Nat → Int32) (y_revokes_28 : Nat → Int32) (hpre : pr_M_clear (y_thrown, y_ring, y_off, y_fuse, y_steps, y_many, y_log, y_before, y_home, y_base, y_now, y_kinds, y_blocks, y_runs, y_revokes, y_from, y_uses, y_revoked, y_had, y_data)) (c_9 : y_off = 0) (c_20 : ¬ y_log = 0) (w_28 : po_M_clearing (0, y_ring, y_off, y_fuse, y_steps, y_many, y_log, y_before, y_home, y_base, y_now, y_kinds, y_blocks, y_runs, y_revokes, y_from, y_uses, y_revoked, y_had, y_data) r_28 (0, y_ring, y_off_28, y_fuse_28, y_steps_28, y_many_28, y_log_28, y_before_28, y_home_28, y_base_28, y_now, y_kinds_28, y_blocks_28, y_runs_28, y_revokes_28, y_from, y_uses, y_revoked, y_had, y_data)) : po_M_clear (y_thrown, y_ring, y_off, y_fuse, y_steps, y_many, y_log, y_before, y_home, y_base, y_now, y_kinds, y_blocks, y_runs, y_revokes, y_from, y_uses, y_revoked, y_had, y_data) r_28 (0, y_ring, y_off_28, y_fuse_28, y_steps_28, y_many_28, y_log_28, y_before_28, y_home_28, y_base_28, y_now, y_kinds_28, y_blocks_28, y_runs_28, y_revokes_28, y_from, y_uses, y_revoked, y_had, y_data) := by
  intro σ hr hsw
  obtain ⟨ring, run, rev, now, d, g⟩ := σ
  obtain ⟨o, a1, a2, a3, a4, a5, a6, a7, a8, a9, a10, a11, a12, a13, a14⟩ := m_al hr hsw c_9
  have a5b : y_log = nI g.1 := a5
  have hz : ¬ g.1 = 0 := fun z => c_20 (by rw [a5b, z]; rfl)
  obtain ⟨b1, b2, b3⟩ := w_28 d run rev g hr.1 a7 a6 hr.2.1 a5 a8
  rw [fCl_go o hz]
  exact ⟨b1, b2, clr_l a7 a6 a8 hr.2.1, b3, clr_o a7 a6 a8 hr.2.2.2 o⟩
theorem vc_M_clear_31_1 (y_thrown : Int32) (y_ring : Int32) (y_off : Int32) (y_fuse : Int32) (y_steps : Int32) (y_many : Int32) (y_log : Int32) (y_before : Int32) (y_home : Nat → Int32) (y_base : Nat → Int32) (y_now : Nat → Int32) (y_kinds : Nat → Int32) (y_blocks : Nat → Int32) (y_runs : Nat → Int32) (y_revokes : Nat → Int32) (y_from : Nat → Int32) (y_uses : Nat → Int32) (y_revoked : Nat → Int32) (y_had : Nat → Int32) (y_data : Nat → Int32) (hpre : pr_M_clear (y_thrown, y_ring, y_off, y_fuse, y_steps, y_many, y_log, y_before, y_home, y_base, y_now, y_kinds, y_blocks, y_runs, y_revokes, y_from, y_uses, y_revoked, y_had, y_data)) (c_9 : y_off = 0) (c_20 : y_log = 0) : po_M_clear (y_thrown, y_ring, y_off, y_fuse, y_steps, y_many, y_log, y_before, y_home, y_base, y_now, y_kinds, y_blocks, y_runs, y_revokes, y_from, y_uses, y_revoked, y_had, y_data) 0 (0, y_ring, y_off, y_fuse, y_steps, y_many, y_log, y_before, y_home, y_base, y_now, y_kinds, y_blocks, y_runs, y_revokes, y_from, y_uses, y_revoked, y_had, y_data) := by
  intro σ hr hsw
  obtain ⟨ring, run, rev, now, d, g⟩ := σ
  obtain ⟨o, a1, a2, a3, a4, a5, a6, a7, a8, a9, a10, a11, a12, a13, a14⟩ := m_al hr hsw c_9
  have a5b : y_log = nI g.1 := a5
  have on1 := (okG_n (n := g.1) a8).1
  have hz : g.1 = 0 := (nI_eq (by omega) (by decide)).mp (a5b.symm.trans c_20)
  rw [fCl_none o hz]
  exact ⟨rfl, hr⟩
theorem vc_M_clear_31_2 (y_thrown : Int32) (y_ring : Int32) (y_off : Int32) (y_fuse : Int32) (y_steps : Int32) (y_many : Int32) (y_log : Int32) (y_before : Int32) (y_home : Nat → Int32) (y_base : Nat → Int32) (y_now : Nat → Int32) (y_kinds : Nat → Int32) (y_blocks : Nat → Int32) (y_runs : Nat → Int32) (y_revokes : Nat → Int32) (y_from : Nat → Int32) (y_uses : Nat → Int32) (y_revoked : Nat → Int32) (y_had : Nat → Int32) (y_data : Nat → Int32) (hpre : pr_M_clear (y_thrown, y_ring, y_off, y_fuse, y_steps, y_many, y_log, y_before, y_home, y_base, y_now, y_kinds, y_blocks, y_runs, y_revokes, y_from, y_uses, y_revoked, y_had, y_data)) (c_9 : ¬ y_off = 0) : po_M_clear (y_thrown, y_ring, y_off, y_fuse, y_steps, y_many, y_log, y_before, y_home, y_base, y_now, y_kinds, y_blocks, y_runs, y_revokes, y_from, y_uses, y_revoked, y_had, y_data) (-1) (0, y_ring, y_off, y_fuse, y_steps, y_many, y_log, y_before, y_home, y_base, y_now, y_kinds, y_blocks, y_runs, y_revokes, y_from, y_uses, y_revoked, y_had, y_data) := by
  intro σ hr hsw
  obtain ⟨ring, run, rev, now, d, g⟩ := σ
  rw [fCl_off (m_off hr c_9)]
  exact ⟨rfl, hr⟩
