def mtG (bits : Int64) (d : Dk) (g : Lg) : Lg := sLogMount bits d.1 g
def mtD (bits : Int64) (d : Dk) : Dk := sSettle bits (d.1, true, d.2.2)
def yLog : MDt → Int32
  | (_, _, _, _, _, _, log, _, _, _, _, _, _, _, _, _, _, _, _, _) => log
section MT
variable {ring : Nat} {run rev : Int64} {now : Nat → Int32} {d : Dk} {g : Lg} {bits : Int64}
theorem fM_0 (h : d.2.1 = false) (z : (mtG bits d g).1 = 0) : fMount bits (ring, run, rev, now, d, g) = (0, (ring, 0, 0, va_cpy (mtD bits d).2.2.2.2.2 now 0 0 16384, mtD bits d, mtG bits d g)) := by
  obtain ⟨u, on, fu, st, ba, ho⟩ := d
  have h : on = false := h
  subst h
  show (match (if (mtG bits (u, false, fu, st, ba, ho) g).1 = 0 then (0, mtD bits (u, false, fu, st, ba, ho), mtG bits (u, false, fu, st, ba, ho) g) else sReplay (mtD bits (u, false, fu, st, ba, ho)) (mtG bits (u, false, fu, st, ba, ho) g)) with
        | (r, d, g) => ((r, (ring, 0, 0, va_cpy d.2.2.2.2.2 now 0 0 16384, d, g)) : Int32 × Sp)) = _
  rw [if_pos z]
theorem fM_1 (h : d.2.1 = false) (z : ¬ (mtG bits d g).1 = 0) : fMount bits (ring, run, rev, now, d, g) = ((sReplay (mtD bits d) (mtG bits d g)).1, (ring, 0, 0, va_cpy (sReplay (mtD bits d) (mtG bits d g)).2.1.2.2.2.2.2 now 0 0 16384, (sReplay (mtD bits d) (mtG bits d g)).2.1, (sReplay (mtD bits d) (mtG bits d g)).2.2)) := by
  obtain ⟨u, on, fu, st, ba, ho⟩ := d
  have h : on = false := h
  subst h
  show (match (if (mtG bits (u, false, fu, st, ba, ho) g).1 = 0 then (0, mtD bits (u, false, fu, st, ba, ho), mtG bits (u, false, fu, st, ba, ho) g) else sReplay (mtD bits (u, false, fu, st, ba, ho)) (mtG bits (u, false, fu, st, ba, ho) g)) with
        | (r, d, g) => ((r, (ring, 0, 0, va_cpy d.2.2.2.2.2 now 0 0 16384, d, g)) : Int32 × Sp)) = _
  rw [if_neg z]
end MT
theorem lv_rvd {rvk : Nat → Int64} {q : Nat} (hq : q < 64) : ∀ (k t : Nat) (x : Int64), bitt (lvN rvk x t k) q = (bitt x q && !rvd rvk q t k) := by
  intro k
  induction k with
  | zero => intro t x; show bitt x q = _; rw [show rvd rvk q t 0 = false from rfl, Bool.not_false, Bool.and_true]
  | succ k ih =>
    intro t x
    have e : rvd rvk q t (k + 1) = (bitt (rvk t) q || rvd rvk q (t + 1) k) := rfl
    show bitt (lvN rvk (x &&& (rvk t ^^^ (-1))) (t + 1) k) q = _
    rw [ih, bt_and, bt_not _ hq, e]
    cases bitt x q <;> cases bitt (rvk t) q <;> cases rvd rvk q (t + 1) k <;> rfl
theorem living_e {g : Lg} {t q : Nat} (hq : q < 64) : bitt (sLiving g t) q = (bitt (g.2.1 t) q && !rvd g.2.2.1 q t (g.1 - t)) := lv_rvd hq _ _ _
theorem rep_skip {g : Lg} {t : Nat} {lv : Int64} {n : Int32} {d : Dk} : ∀ (m b : Nat), b + m ≤ 64 → (∀ e, b ≤ e → e < b + m → bitt lv e = false) → sRepB g t lv b (64 - b) n d = sRepB g t lv (b + m) (64 - (b + m)) n d := by
  intro m
  induction m with
  | zero => intro b _ _; rfl
  | succ m ih =>
    intro b hb h
    rw [show 64 - b = (64 - (b + 1)) + 1 by omega, rep_s (h b (Nat.le_refl _) (by omega)), ih (b + 1) (by omega) (fun e h1 h2 => h e (by omega) (by omega)), show b + 1 + m = b + (m + 1) by omega]
theorem nxt {x : Int64} {b : Nat} (hb : b ≤ 64) (h : rk x b < cnt x) : ∃ c, b ≤ c ∧ c < 64 ∧ bitt x c = true ∧ rk x c = rk x b ∧ ∀ e, b ≤ e → e < c → bitt x e = false := by
  obtain ⟨c, h1, h2, h3⟩ := sel 64 (rk x b) h
  have hbc : b ≤ c := by
    rcases Nat.lt_or_ge c b with z | z
    · have : rk x c < rk x b := cntB_lt z h2
      omega
    · exact z
  refine ⟨c, hbc, h1, h2, h3, fun e he1 he2 => ?_⟩
  cases z : bitt x e
  · rfl
  · have k1 : rk x b ≤ rk x e := cntB_mono he1
    have k2 : rk x e < rk x c := cntB_lt he2 z
    omega
theorem rk_end {x : Int64} {b : Nat} (h : rk x b = cnt x) : ∀ e, b ≤ e → e < 64 → bitt x e = false := by
  intro e h1 h2
  cases z : bitt x e
  · rfl
  · have k1 : rk x b ≤ rk x e := cntB_mono h1
    have k2 := rk_lt h2 z
    omega
theorem lv_no {g : Lg} {t e : Nat} (h : bitt (g.2.1 t) e = false) : bitt (sLiving g t) e = false := by
  cases z : bitt (sLiving g t) e
  · rfl
  · have := lv_bit _ _ _ z
    rw [h] at this; cases this
theorem RMl_le {n m : Nat} {r : (Nat → Int64) × (Nat → Int64) × (Nat → Nat) × (Nat → Nat) × (Nat → Int32)} {y : MDt} (h : RMl (n, r) y) (hm : m ≤ n) : RMl (m, r) y := by
  obtain ⟨blk, rvk, use, fst, im⟩ := r
  obtain ⟨th, rg, off, fuse, steps, many, log, before, home, base, nw, kinds, blocks, runs, revokes, frm, uses, revoked, had, data⟩ := y
  exact ⟨fun t ht => h.1 t (Nat.le_trans ht hm), fun t ht => h.2.1 t (Nat.lt_of_lt_of_le ht hm), h.2.2⟩
theorem lm_le (bits : Int64) (u : List Nat) (g : Lg) : ∃ m, m ≤ g.1 ∧ sLogMount bits u g = (m, g.2) := by
  obtain ⟨n, r⟩ := g
  have e1 : ∃ m, m ≤ n ∧ g1M bits u (n, r) = (m, r) := by
    unfold g1M
    split
    · exact ⟨n - 1, by omega, rfl⟩
    · exact ⟨n, Nat.le_refl _, rfl⟩
  obtain ⟨m, h1, h2⟩ := e1
  rw [lm_e, h2]
  split
  · exact ⟨0, Nat.zero_le _, rfl⟩
  · exact ⟨m, h1, rfl⟩
theorem RMl_mt {bits : Int64} {d : Dk} {g : Lg} {y : MDt} (h : RMl g y) : RMl (mtG bits d g) y := by
  obtain ⟨m, h1, h2⟩ := lm_le bits d.1 g
  unfold mtG
  rw [h2]
  exact RMl_le h h1
theorem lgN_inj {n m : Nat} {y : MDt} (h : lgN n y) (h2 : lgN m y) (hn : n ≤ 99) (hm : m ≤ 99) : n = m := by
  obtain ⟨a1, a2, a3, a4, a5, a6, a7, r⟩ := y
  exact (nI_eq (by omega) (by omega)).mp (Eq.trans (Eq.symm h) h2)
theorem cpy_tail {h f g : Nat → Int32} (t : ∀ j, 16384 ≤ j → f j = g j) : va_cpy h f 0 0 16384 = va_cpy h g 0 0 16384 := by
  funext j
  by_cases q : j < 16384
  · rw [pk_cpy_in (Nat.zero_le _) (by omega), pk_cpy_in (Nat.zero_le _) (by omega)]
  · rw [pk_cpy_out (by omega), pk_cpy_out (by omega)]; exact t j (by omega)
theorem cpy_out {h f : Nat → Int32} {j : Nat} (t : 16384 ≤ j) : va_cpy h f 0 0 16384 j = f j := pk_cpy_out (by omega)
theorem RMs_on {d : Dk} {run rev : Int64} {th th2 rg rg2 off fuse steps many log log2 before before2 : Int32} {home base nw nw2 kinds blocks runs revokes frm frm2 uses uses2 revoked revoked2 had had2 data data2 : Nat → Int32} (h : RMs d run rev (th, rg, off, fuse, steps, many, log, before, home, base, nw, kinds, blocks, runs, revokes, frm, uses, revoked, had, data)) (o : d.2.1 = false) : RMs (d.1, true, d.2.2) 0 0 (th2, rg2, 0, fuse, steps, many, log2, before2, home, base, nw2, kinds, blocks, runs, revokes, frm2, uses2, revoked2, had2, data2) := by
  obtain ⟨u, on, f, st, ba, ho⟩ := d
  have o : on = false := o
  subst o
  obtain ⟨q1, q2, q3, q4, q5, q6, q7, q8⟩ := h
  exact ⟨rfl, q2, q3, q4, q5, q6, q7, q8⟩
def iv_M_mount_30 (bits : Int64) (y : MDt) (x3 x4 : Int32) (y2 : MDt) : Prop := ¬ yOff y = 0 ∧ yNow y2 = yNow y ∧ ∃ t N : Nat, t ≤ N ∧ N ≤ 99 ∧ lgN N y2 ∧ x4 = nI t ∧ ∀ (ring : Nat) (run rev : Int64) (now : Nat → Int32) (d : Dk) (g : Lg), RM (ring, run, rev, now, d, g) y → SW (ring, run, rev, now, d, g) → (mtG bits d g).1 = N ∧ okG (mtG bits d g) ∧ ∃ d2 : Dk, sRepT (mtG bits d g) 0 N 0 (mtD bits d) = sRepT (mtG bits d g) t (N - t) x3 d2 ∧ RMs d2 0 0 y2 ∧ RMl (mtG bits d g) y2 ∧ DW d2 ∧ hs d2.1 ∧ d2.2.1 = true
def iv_M_mount_48 (bits : Int64) (y : MDt) (x3 x4 x5 : Int32) (y2 : MDt) : Prop := ¬ yOff y = 0 ∧ yNow y2 = yNow y ∧ ∃ t N K : Nat, t < N ∧ N ≤ 99 ∧ lgN N y2 ∧ x4 = nI t ∧ x5 = nI K ∧ K ≤ 199 ∧ ∀ (ring : Nat) (run rev : Int64) (now : Nat → Int32) (d : Dk) (g : Lg), RM (ring, run, rev, now, d, g) y → SW (ring, run, rev, now, d, g) → (mtG bits d g).1 = N ∧ okG (mtG bits d g) ∧ ∃ (d2 : Dk) (b : Nat), b ≤ 64 ∧ K = (mtG bits d g).2.2.2.2.1 t + rk ((mtG bits d g).2.1 t) b ∧ sRepT (mtG bits d g) 0 N 0 (mtD bits d) = rC (mtG bits d g) t (N - (t + 1)) (sRepB (mtG bits d g) t (sLiving (mtG bits d g) t) b (64 - b) x3 d2) ∧ RMs d2 0 0 y2 ∧ RMl (mtG bits d g) y2 ∧ DW d2 ∧ hs d2.1 ∧ d2.2.1 = true
def mu_M_mount_30 (_ : Int64) (_ : MDt) (_ x4 : Int32) (y2 : MDt) : Nat := 300 * ((yLog y2).toNatClampNeg - x4.toNatClampNeg)
def mu_M_mount_48 (_ : Int64) (_ : MDt) (_ x4 x5 : Int32) (y2 : MDt) : Nat := 300 * ((yLog y2).toNatClampNeg - x4.toNatClampNeg) - 1 - x5.toNatClampNeg
theorem sw_uo {ring : Nat} {run rev : Int64} {now : Nat → Int32} {d : Dk} {g : Lg} (h : SW (ring, run, rev, now, d, g)) : UO d.1 g.1 := by
  obtain ⟨u, on, fu, st, ba, ho⟩ := d
  exact h.2.2.2.2.2.2.1
section MK
variable {ring : Nat} {run rev : Int64} {now : Nat → Int32} {d : Dk} {g : Lg} {th rg off fuse steps many log before : Int32} {home base nw nw0 kinds blocks runs revokes frm uses revoked had data : Nat → Int32}
theorem RM_mk (h1 : RMs d run rev (th, rg, off, fuse, steps, many, log, before, home, base, nw0, kinds, blocks, runs, revokes, frm, uses, revoked, had, data)) (h2 : RMl g (th, rg, off, fuse, steps, many, log, before, home, base, nw0, kinds, blocks, runs, revokes, frm, uses, revoked, had, data)) (h3 : RMn d.1 g.1 (th, rg, off, fuse, steps, many, log, before, home, base, nw0, kinds, blocks, runs, revokes, frm, uses, revoked, had, data)) (h4 : rg = nI ring) (h5 : nw = now) : RM (ring, run, rev, now, d, g) (th, rg, off, fuse, steps, many, log, before, home, base, nw, kinds, blocks, runs, revokes, frm, uses, revoked, had, data) := by
  subst h5
  exact ⟨h1, h2, h3, h4, fun _ => rfl, fun _ _ => rfl⟩
theorem RM_mko (h1 : RMs d run rev (th, rg, off, fuse, steps, many, log, before, home, base, nw0, kinds, blocks, runs, revokes, frm, uses, revoked, had, data)) (h2 : RMl g (th, rg, off, fuse, steps, many, log, before, home, base, nw0, kinds, blocks, runs, revokes, frm, uses, revoked, had, data)) (h3 : RMn d.1 g.1 (th, rg, off, fuse, steps, many, log, before, home, base, nw0, kinds, blocks, runs, revokes, frm, uses, revoked, had, data)) (h4 : rg = nI ring) (o : d.2.1 = false) (t : ∀ j, 16384 ≤ j → nw j = now j) : RM (ring, run, rev, now, d, g) (th, rg, off, fuse, steps, many, log, before, home, base, nw, kinds, blocks, runs, revokes, frm, uses, revoked, had, data) :=
  ⟨h1, h2, h3, h4, fun z => absurd (o.symm.trans z) (by decide), t⟩
theorem l_frm (h : RMl g (th, rg, off, fuse, steps, many, log, before, home, base, nw0, kinds, blocks, runs, revokes, frm, uses, revoked, had, data)) {t : Nat} (ht : t ≤ g.1) : frm t = nI (g.2.2.2.2.1 t) := by
  obtain ⟨n, blk, rvk, use, fst, im⟩ := g
  exact h.1 t ht
theorem l_had (h : RMl g (th, rg, off, fuse, steps, many, log, before, home, base, nw0, kinds, blocks, runs, revokes, frm, uses, revoked, had, data)) {t c : Nat} (ht : t < g.1) (hc : c < 64) (hb : bitt (g.2.1 t) c = true) : had (g.2.2.2.2.1 t + rk (g.2.1 t) c) = nI c := by
  obtain ⟨n, blk, rvk, use, fst, im⟩ := g
  exact ((h.2.1 t ht).2 c hc).2 hb
theorem l_dat (h : RMl g (th, rg, off, fuse, steps, many, log, before, home, base, nw0, kinds, blocks, runs, revokes, frm, uses, revoked, had, data)) : data = g.2.2.2.2.2 := by
  obtain ⟨n, blk, rvk, use, fst, im⟩ := g
  exact h.2.2
theorem cpy_t2 {h f g : Nat → Int32} (t : ∀ j, 16384 ≤ j → f j = g j) : ∀ j, 16384 ≤ j → f j = va_cpy h g 0 0 16384 j := fun j hj => (t j hj).trans (cpy_out hj).symm
end MK

theorem vc_M_mount_172_0 (a_bits : Int64) (y_thrown : Int32) (y_ring : Int32) (y_off : Int32) (y_fuse : Int32) (y_steps : Int32) (y_many : Int32) (y_log : Int32) (y_before : Int32) (y_home : Nat → Int32) (y_base : Nat → Int32) (y_now : Nat → Int32) (y_kinds : Nat → Int32) (y_blocks : Nat → Int32) (y_runs : Nat → Int32) (y_revokes : Nat → Int32) (y_from : Nat → Int32) (y_uses : Nat → Int32) (y_revoked : Nat → Int32) (y_had : Nat → Int32) (y_data : Nat → Int32) (x3 : Int32) (x4 : Int32) (y_thrown_i : Int32) (y_off_i : Int32) (y_fuse_i : Int32) (y_steps_i : Int32) (y_many_i : Int32) (y_log_i : Int32) (y_before_i : Int32) (y_home_i : Nat → Int32) (y_base_i : Nat → Int32) (y_now_i : Nat → Int32) (y_kinds_i : Nat → Int32) (y_blocks_i : Nat → Int32) (y_runs_i : Nat → Int32) (y_revokes_i : Nat → Int32) (hpre : pr_M_mount a_bits (y_thrown, y_ring, y_off, y_fuse, y_steps, y_many, y_log, y_before, y_home, y_base, y_now, y_kinds, y_blocks, y_runs, y_revokes, y_from, y_uses, y_revoked, y_had, y_data)) (hinv : iv_M_mount_30 a_bits (y_thrown, y_ring, y_off, y_fuse, y_steps, y_many, y_log, y_before, y_home, y_base, y_now, y_kinds, y_blocks, y_runs, y_revokes, y_from, y_uses, y_revoked, y_had, y_data) x3 x4 (y_thrown_i, y_ring, y_off_i, y_fuse_i, y_steps_i, y_many_i, y_log_i, y_before_i, y_home_i, y_base_i, y_now_i, y_kinds_i, y_blocks_i, y_runs_i, y_revokes_i, y_from, y_uses, y_revoked, y_had, y_data)) (c_36 : y_log_i ≤ x4) (c_146 : y_log_i ≤ 0) : pr_M_copy 0 0 16384 16384 16384 y_home_i y_now_i := by
  obtain ⟨c_9, ew, t, N, htN, hN, hlg, rfl, h⟩ := hinv
  have el : y_log_i = nI N := hlg
  have ew : y_now_i = y_now := ew
  obtain ⟨σ, hr, hsw⟩ := hpre
  obtain ⟨ring, run, rev, now, d, g⟩ := σ
  obtain ⟨en, wo, d2, h2, rs, rl, w2, hh, o2⟩ := h ring run rev now d g hr hsw
  have off := m_off hr c_9
  have eh : y_home_i = d2.2.2.2.2.2 := (RMs_home (h2 := y_home_i) rs).1
  exact ⟨0, 0, 16384, rfl, rfl, rfl, by decide, by decide, by decide, by decide, by rw [eh]; exact w2.2.2.2⟩
theorem vc_M_mount_176_0 (a_bits : Int64) (y_thrown : Int32) (y_ring : Int32) (y_off : Int32) (y_fuse : Int32) (y_steps : Int32) (y_many : Int32) (y_log : Int32) (y_before : Int32) (y_home : Nat → Int32) (y_base : Nat → Int32) (y_now : Nat → Int32) (y_kinds : Nat → Int32) (y_blocks : Nat → Int32) (y_runs : Nat → Int32) (y_revokes : Nat → Int32) (y_from : Nat → Int32) (y_uses : Nat → Int32) (y_revoked : Nat → Int32) (y_had : Nat → Int32) (y_data : Nat → Int32) (x3 : Int32) (x4 : Int32) (y_thrown_i : Int32) (y_off_i : Int32) (y_fuse_i : Int32) (y_steps_i : Int32) (y_many_i : Int32) (y_log_i : Int32) (y_before_i : Int32) (y_home_i : Nat → Int32) (y_base_i : Nat → Int32) (y_now_i : Nat → Int32) (y_kinds_i : Nat → Int32) (y_blocks_i : Nat → Int32) (y_runs_i : Nat → Int32) (y_revokes_i : Nat → Int32) (b_ar_172 : Nat → Int32) (hpre : pr_M_mount a_bits (y_thrown, y_ring, y_off, y_fuse, y_steps, y_many, y_log, y_before, y_home, y_base, y_now, y_kinds, y_blocks, y_runs, y_revokes, y_from, y_uses, y_revoked, y_had, y_data)) (hinv : iv_M_mount_30 a_bits (y_thrown, y_ring, y_off, y_fuse, y_steps, y_many, y_log, y_before, y_home, y_base, y_now, y_kinds, y_blocks, y_runs, y_revokes, y_from, y_uses, y_revoked, y_had, y_data) x3 x4 (y_thrown_i, y_ring, y_off_i, y_fuse_i, y_steps_i, y_many_i, y_log_i, y_before_i, y_home_i, y_base_i, y_now_i, y_kinds_i, y_blocks_i, y_runs_i, y_revokes_i, y_from, y_uses, y_revoked, y_had, y_data)) (c_36 : y_log_i ≤ x4) (c_146 : y_log_i ≤ 0) (w_172 : po_M_copy 0 0 16384 16384 16384 y_home_i y_now_i y_home_i b_ar_172) : po_M_mount a_bits (y_thrown, y_ring, y_off, y_fuse, y_steps, y_many, y_log, y_before, y_home, y_base, y_now, y_kinds, y_blocks, y_runs, y_revokes, y_from, y_uses, y_revoked, y_had, y_data) x3 (y_thrown_i, y_ring, y_off_i, y_fuse_i, y_steps_i, y_many_i, y_log_i, y_before_i, y_home_i, y_base_i, b_ar_172, y_kinds_i, y_blocks_i, y_runs_i, y_revokes_i, y_from, y_uses, y_revoked, y_had, y_data) := by
  intro σ hr hsw
  obtain ⟨ring, run, rev, now, d, g⟩ := σ
  obtain ⟨c_9, ew, t, N, htN, hN, hlg, rfl, h⟩ := hinv
  have el : y_log_i = nI N := hlg
  have ew : y_now_i = y_now := ew
  obtain ⟨en, wo, d2, h2, rs, rl, w2, hh, o2⟩ := h ring run rev now d g hr hsw
  have off := m_off hr c_9
  rw [el] at c_36
  have hge : N ≤ t := (nI_leI (by omega) (by omega)).mp c_36
  have et : t = N := by omega
  subst et
  rw [el] at c_146
  have n0 := (nI_leI (b := 0) (by omega) (by decide)).mp c_146
  have n0 : t = 0 := by omega
  subst n0
  have w := w_172 0 0 16384 rfl rfl rfl (by decide) (by decide) (by decide) (by decide)
  have h2 : ((true, (0 : Int32), mtD a_bits d) : Bool × Int32 × Dk) = (true, x3, d2) := h2
  have e3 : x3 = 0 := (congrArg (fun p => p.2.1) h2).symm
  have e4 : d2 = mtD a_bits d := (congrArg (fun p => p.2.2) h2).symm
  subst e3 e4
  have eh : y_home_i = (mtD a_bits d).2.2.2.2.2 := (RMs_home (h2 := y_home_i) rs).1
  rw [fM_0 off en]
  rw [ew, eh, cpy_tail (f := y_now) (g := now) hr.2.2.2.2.2] at w
  exact ⟨rfl, RM_mk rs rl (RMn_hs hs_nil (by rw [en]; exact hlg)) hr.2.2.2.1 w⟩
theorem vc_M_mount_150_0 (a_bits : Int64) (y_thrown : Int32) (y_ring : Int32) (y_off : Int32) (y_fuse : Int32) (y_steps : Int32) (y_many : Int32) (y_log : Int32) (y_before : Int32) (y_home : Nat → Int32) (y_base : Nat → Int32) (y_now : Nat → Int32) (y_kinds : Nat → Int32) (y_blocks : Nat → Int32) (y_runs : Nat → Int32) (y_revokes : Nat → Int32) (y_from : Nat → Int32) (y_uses : Nat → Int32) (y_revoked : Nat → Int32) (y_had : Nat → Int32) (y_data : Nat → Int32) (x3 : Int32) (x4 : Int32) (y_thrown_i : Int32) (y_off_i : Int32) (y_fuse_i : Int32) (y_steps_i : Int32) (y_many_i : Int32) (y_log_i : Int32) (y_before_i : Int32) (y_home_i : Nat → Int32) (y_base_i : Nat → Int32) (y_now_i : Nat → Int32) (y_kinds_i : Nat → Int32) (y_blocks_i : Nat → Int32) (y_runs_i : Nat → Int32) (y_revokes_i : Nat → Int32) (hpre : pr_M_mount a_bits (y_thrown, y_ring, y_off, y_fuse, y_steps, y_many, y_log, y_before, y_home, y_base, y_now, y_kinds, y_blocks, y_runs, y_revokes, y_from, y_uses, y_revoked, y_had, y_data)) (hinv : iv_M_mount_30 a_bits (y_thrown, y_ring, y_off, y_fuse, y_steps, y_many, y_log, y_before, y_home, y_base, y_now, y_kinds, y_blocks, y_runs, y_revokes, y_from, y_uses, y_revoked, y_had, y_data) x3 x4 (y_thrown_i, y_ring, y_off_i, y_fuse_i, y_steps_i, y_many_i, y_log_i, y_before_i, y_home_i, y_base_i, y_now_i, y_kinds_i, y_blocks_i, y_runs_i, y_revokes_i, y_from, y_uses, y_revoked, y_had, y_data)) (c_36 : y_log_i ≤ x4) (c_146 : ¬ y_log_i ≤ 0) : pr_M_empty (y_thrown_i, y_ring, y_off_i, y_fuse_i, y_steps_i, y_many_i, y_log_i, y_before_i, y_home_i, y_base_i, y_now_i, y_kinds_i, y_blocks_i, y_runs_i, y_revokes_i, y_from, y_uses, y_revoked, y_had, y_data) := by
  obtain ⟨c_9, ew, t, N, htN, hN, hlg, rfl, h⟩ := hinv
  have el : y_log_i = nI N := hlg
  have ew : y_now_i = y_now := ew
  obtain ⟨σ, hr, hsw⟩ := hpre
  obtain ⟨ring, run, rev, now, d, g⟩ := σ
  obtain ⟨en, wo, d2, h2, rs, rl, w2, hh, o2⟩ := h ring run rev now d g hr hsw
  have off := m_off hr c_9
  have hl := hs_len64 hh
  exact ⟨d2, 0, 0, rs, w2, by omega⟩
theorem vc_M_mount_172_1 (a_bits : Int64) (y_thrown : Int32) (y_ring : Int32) (y_off : Int32) (y_fuse : Int32) (y_steps : Int32) (y_many : Int32) (y_log : Int32) (y_before : Int32) (y_home : Nat → Int32) (y_base : Nat → Int32) (y_now : Nat → Int32) (y_kinds : Nat → Int32) (y_blocks : Nat → Int32) (y_runs : Nat → Int32) (y_revokes : Nat → Int32) (y_from : Nat → Int32) (y_uses : Nat → Int32) (y_revoked : Nat → Int32) (y_had : Nat → Int32) (y_data : Nat → Int32) (x3 : Int32) (x4 : Int32) (y_thrown_i : Int32) (y_off_i : Int32) (y_fuse_i : Int32) (y_steps_i : Int32) (y_many_i : Int32) (y_log_i : Int32) (y_before_i : Int32) (y_home_i : Nat → Int32) (y_base_i : Nat → Int32) (y_now_i : Nat → Int32) (y_kinds_i : Nat → Int32) (y_blocks_i : Nat → Int32) (y_runs_i : Nat → Int32) (y_revokes_i : Nat → Int32) (r_150 : Int32) (y_off_150 : Int32) (y_fuse_150 : Int32) (y_steps_150 : Int32) (y_many_150 : Int32) (y_log_150 : Int32) (y_before_150 : Int32) (y_base_150 : Nat → Int32) (y_kinds_150 : Nat → Int32) (y_blocks_150 : Nat → Int32) (y_runs_150 : Nat → Int32) (y_revokes_150 : Nat → Int32) (hpre : pr_M_mount a_bits (y_thrown, y_ring, y_off, y_fuse, y_steps, y_many, y_log, y_before, y_home, y_base, y_now, y_kinds, y_blocks, y_runs, y_revokes, y_from, y_uses, y_revoked, y_had, y_data)) (hinv : iv_M_mount_30 a_bits (y_thrown, y_ring, y_off, y_fuse, y_steps, y_many, y_log, y_before, y_home, y_base, y_now, y_kinds, y_blocks, y_runs, y_revokes, y_from, y_uses, y_revoked, y_had, y_data) x3 x4 (y_thrown_i, y_ring, y_off_i, y_fuse_i, y_steps_i, y_many_i, y_log_i, y_before_i, y_home_i, y_base_i, y_now_i, y_kinds_i, y_blocks_i, y_runs_i, y_revokes_i, y_from, y_uses, y_revoked, y_had, y_data)) (c_36 : y_log_i ≤ x4) (c_146 : ¬ y_log_i ≤ 0) (w_150 : po_M_empty (y_thrown_i, y_ring, y_off_i, y_fuse_i, y_steps_i, y_many_i, y_log_i, y_before_i, y_home_i, y_base_i, y_now_i, y_kinds_i, y_blocks_i, y_runs_i, y_revokes_i, y_from, y_uses, y_revoked, y_had, y_data) r_150 (y_thrown_i, y_ring, y_off_150, y_fuse_150, y_steps_150, y_many_150, y_log_150, y_before_150, y_home_i, y_base_150, y_now_i, y_kinds_150, y_blocks_150, y_runs_150, y_revokes_150, y_from, y_uses, y_revoked, y_had, y_data)) (c_153 : ¬ r_150 = 0) : pr_M_copy 0 0 16384 16384 16384 y_home_i y_now_i := by
  obtain ⟨c_9, ew, t, N, htN, hN, hlg, rfl, h⟩ := hinv
  have el : y_log_i = nI N := hlg
  have ew : y_now_i = y_now := ew
  obtain ⟨σ, hr, hsw⟩ := hpre
  obtain ⟨ring, run, rev, now, d, g⟩ := σ
  obtain ⟨en, wo, d2, h2, rs, rl, w2, hh, o2⟩ := h ring run rev now d g hr hsw
  have off := m_off hr c_9
  obtain ⟨q1, q2, q3⟩ := w_150 d2 0 0 (mtG a_bits d g) rs w2 hh (by rw [en]; exact hlg)
  obtain ⟨x1, x2, x4⟩ := end_wf (g := mtG a_bits d g) w2
  have eh : y_home_i = (sEnd d2 (mtG a_bits d g)).2.1.2.2.2.2.2 := (RMs_home (h2 := y_home_i) q2).1
  exact ⟨0, 0, 16384, rfl, rfl, rfl, by decide, by decide, by decide, by decide, by rw [eh]; exact x1.2.2.2⟩
theorem vc_M_mount_176_1 (a_bits : Int64) (y_thrown : Int32) (y_ring : Int32) (y_off : Int32) (y_fuse : Int32) (y_steps : Int32) (y_many : Int32) (y_log : Int32) (y_before : Int32) (y_home : Nat → Int32) (y_base : Nat → Int32) (y_now : Nat → Int32) (y_kinds : Nat → Int32) (y_blocks : Nat → Int32) (y_runs : Nat → Int32) (y_revokes : Nat → Int32) (y_from : Nat → Int32) (y_uses : Nat → Int32) (y_revoked : Nat → Int32) (y_had : Nat → Int32) (y_data : Nat → Int32) (x3 : Int32) (x4 : Int32) (y_thrown_i : Int32) (y_off_i : Int32) (y_fuse_i : Int32) (y_steps_i : Int32) (y_many_i : Int32) (y_log_i : Int32) (y_before_i : Int32) (y_home_i : Nat → Int32) (y_base_i : Nat → Int32) (y_now_i : Nat → Int32) (y_kinds_i : Nat → Int32) (y_blocks_i : Nat → Int32) (y_runs_i : Nat → Int32) (y_revokes_i : Nat → Int32) (r_150 : Int32) (y_off_150 : Int32) (y_fuse_150 : Int32) (y_steps_150 : Int32) (y_many_150 : Int32) (y_log_150 : Int32) (y_before_150 : Int32) (y_base_150 : Nat → Int32) (y_kinds_150 : Nat → Int32) (y_blocks_150 : Nat → Int32) (y_runs_150 : Nat → Int32) (y_revokes_150 : Nat → Int32) (b_ar_172 : Nat → Int32) (hpre : pr_M_mount a_bits (y_thrown, y_ring, y_off, y_fuse, y_steps, y_many, y_log, y_before, y_home, y_base, y_now, y_kinds, y_blocks, y_runs, y_revokes, y_from, y_uses, y_revoked, y_had, y_data)) (hinv : iv_M_mount_30 a_bits (y_thrown, y_ring, y_off, y_fuse, y_steps, y_many, y_log, y_before, y_home, y_base, y_now, y_kinds, y_blocks, y_runs, y_revokes, y_from, y_uses, y_revoked, y_had, y_data) x3 x4 (y_thrown_i, y_ring, y_off_i, y_fuse_i, y_steps_i, y_many_i, y_log_i, y_before_i, y_home_i, y_base_i, y_now_i, y_kinds_i, y_blocks_i, y_runs_i, y_revokes_i, y_from, y_uses, y_revoked, y_had, y_data)) (c_36 : y_log_i ≤ x4) (c_146 : ¬ y_log_i ≤ 0) (w_150 : po_M_empty (y_thrown_i, y_ring, y_off_i, y_fuse_i, y_steps_i, y_many_i, y_log_i, y_before_i, y_home_i, y_base_i, y_now_i, y_kinds_i, y_blocks_i, y_runs_i, y_revokes_i, y_from, y_uses, y_revoked, y_had, y_data) r_150 (y_thrown_i, y_ring, y_off_150, y_fuse_150, y_steps_150, y_many_150, y_log_150, y_before_150, y_home_i, y_base_150, y_now_i, y_kinds_150, y_blocks_150, y_runs_150, y_revokes_150, y_from, y_uses, y_revoked, y_had, y_data)) (c_153 : ¬ r_150 = 0) (w_172 : po_M_copy 0 0 16384 16384 16384 y_home_i y_now_i y_home_i b_ar_172) : po_M_mount a_bits (y_thrown, y_ring, y_off, y_fuse, y_steps, y_many, y_log, y_before, y_home, y_base, y_now, y_kinds, y_blocks, y_runs, y_revokes, y_from, y_uses, y_revoked, y_had, y_data) x3 (y_thrown_i, y_ring, y_off_150, y_fuse_150, y_steps_150, y_many_150, y_log_150, y_before_150, y_home_i, y_base_150, b_ar_172, y_kinds_150, y_blocks_150, y_runs_150, y_revokes_150, y_from, y_uses, y_revoked, y_had, y_data) := by
  intro σ hr hsw
  obtain ⟨ring, run, rev, now, d, g⟩ := σ
  obtain ⟨c_9, ew, t, N, htN, hN, hlg, rfl, h⟩ := hinv
  have el : y_log_i = nI N := hlg
  have ew : y_now_i = y_now := ew
  obtain ⟨en, wo, d2, h2, rs, rl, w2, hh, o2⟩ := h ring run rev now d g hr hsw
  have off := m_off hr c_9
  rw [el] at c_36
  have hge : N ≤ t := (nI_leI (by omega) (by omega)).mp c_36
  have et : t = N := by omega
  subst et
  have n0 : ¬ t ≤ 0 := fun z => c_146 (by rw [el]; exact nI_le (b := 0) z (by decide))
  obtain ⟨q1, q2, q3⟩ := w_150 d2 0 0 (mtG a_bits d g) rs w2 hh (by rw [en]; exact hlg)
  obtain ⟨x1, x2, x4⟩ := end_wf (g := mtG a_bits d g) w2
  have w := w_172 0 0 16384 rfl rfl rfl (by decide) (by decide) (by decide) (by decide)
  have h2 : sRepT (mtG a_bits d g) 0 t 0 (mtD a_bits d) = (true, x3, d2) := by
    rw [h2, Nat.sub_self]; rfl
  rw [← en] at h2
  have er := rpl_t h2
  have z := b2i_n0.mp (fun y => c_153 (q1.trans y))
  rw [z] at er
  rw [fM_1 off (by rw [en]; omega), er]
  have eh : y_home_i = (sEnd d2 (mtG a_bits d g)).2.1.2.2.2.2.2 := (RMs_home (h2 := y_home_i) q2).1
  rw [ew, eh, cpy_tail (f := y_now) (g := now) hr.2.2.2.2.2] at w
  exact ⟨rfl, RM_mk q2 (by rw [(x2 z).2]; exact RMl_0 rl) q3 hr.2.2.2.1 w⟩
theorem vc_M_mount_157_0 (a_bits : Int64) (y_thrown : Int32) (y_ring : Int32) (y_off : Int32) (y_fuse : Int32) (y_steps : Int32) (y_many : Int32) (y_log : Int32) (y_before : Int32) (y_home : Nat → Int32) (y_base : Nat → Int32) (y_now : Nat → Int32) (y_kinds : Nat → Int32) (y_blocks : Nat → Int32) (y_runs : Nat → Int32) (y_revokes : Nat → Int32) (y_from : Nat → Int32) (y_uses : Nat → Int32) (y_revoked : Nat → Int32) (y_had : Nat → Int32) (y_data : Nat → Int32) (x3 : Int32) (x4 : Int32) (y_thrown_i : Int32) (y_off_i : Int32) (y_fuse_i : Int32) (y_steps_i : Int32) (y_many_i : Int32) (y_log_i : Int32) (y_before_i : Int32) (y_home_i : Nat → Int32) (y_base_i : Nat → Int32) (y_now_i : Nat → Int32) (y_kinds_i : Nat → Int32) (y_blocks_i : Nat → Int32) (y_runs_i : Nat → Int32) (y_revokes_i : Nat → Int32) (r_150 : Int32) (y_off_150 : Int32) (y_fuse_150 : Int32) (y_steps_150 : Int32) (y_many_150 : Int32) (y_log_150 : Int32) (y_before_150 : Int32) (y_base_150 : Nat → Int32) (y_kinds_150 : Nat → Int32) (y_blocks_150 : Nat → Int32) (y_runs_150 : Nat → Int32) (y_revokes_150 : Nat → Int32) (hpre : pr_M_mount a_bits (y_thrown, y_ring, y_off, y_fuse, y_steps, y_many, y_log, y_before, y_home, y_base, y_now, y_kinds, y_blocks, y_runs, y_revokes, y_from, y_uses, y_revoked, y_had, y_data)) (hinv : iv_M_mount_30 a_bits (y_thrown, y_ring, y_off, y_fuse, y_steps, y_many, y_log, y_before, y_home, y_base, y_now, y_kinds, y_blocks, y_runs, y_revokes, y_from, y_uses, y_revoked, y_had, y_data) x3 x4 (y_thrown_i, y_ring, y_off_i, y_fuse_i, y_steps_i, y_many_i, y_log_i, y_before_i, y_home_i, y_base_i, y_now_i, y_kinds_i, y_blocks_i, y_runs_i, y_revokes_i, y_from, y_uses, y_revoked, y_had, y_data)) (c_36 : y_log_i ≤ x4) (c_146 : ¬ y_log_i ≤ 0) (w_150 : po_M_empty (y_thrown_i, y_ring, y_off_i, y_fuse_i, y_steps_i, y_many_i, y_log_i, y_before_i, y_home_i, y_base_i, y_now_i, y_kinds_i, y_blocks_i, y_runs_i, y_revokes_i, y_from, y_uses, y_revoked, y_had, y_data) r_150 (y_thrown_i, y_ring, y_off_150, y_fuse_150, y_steps_150, y_many_150, y_log_150, y_before_150, y_home_i, y_base_150, y_now_i, y_kinds_150, y_blocks_150, y_runs_150, y_revokes_150, y_from, y_uses, y_revoked, y_had, y_data)) (c_153 : r_150 = 0) : po_M_mount a_bits (y_thrown, y_ring, y_off, y_fuse, y_steps, y_many, y_log, y_before, y_home, y_base, y_now, y_kinds, y_blocks, y_runs, y_revokes, y_from, y_uses, y_revoked, y_had, y_data) (-1) (y_thrown_i, y_ring, y_off_150, y_fuse_150, y_steps_150, y_many_150, y_log_150, y_before_150, y_home_i, y_base_150, y_now_i, y_kinds_150, y_blocks_150, y_runs_150, y_revokes_150, y_from, y_uses, y_revoked, y_had, y_data) := by
  intro σ hr hsw
  obtain ⟨ring, run, rev, now, d, g⟩ := σ
  obtain ⟨c_9, ew, t, N, htN, hN, hlg, rfl, h⟩ := hinv
  have el : y_log_i = nI N := hlg
  have ew : y_now_i = y_now := ew
  obtain ⟨en, wo, d2, h2, rs, rl, w2, hh, o2⟩ := h ring run rev now d g hr hsw
  have off := m_off hr c_9
  rw [el] at c_36
  have hge : N ≤ t := (nI_leI (by omega) (by omega)).mp c_36
  have et : t = N := by omega
  subst et
  have n0 : ¬ t ≤ 0 := fun z => c_146 (by rw [el]; exact nI_le (b := 0) z (by decide))
  obtain ⟨q1, q2, q3⟩ := w_150 d2 0 0 (mtG a_bits d g) rs w2 hh (by rw [en]; exact hlg)
  obtain ⟨x1, x2, x4⟩ := end_wf (g := mtG a_bits d g) w2
  have h2 : sRepT (mtG a_bits d g) 0 t 0 (mtD a_bits d) = (true, x3, d2) := by
    rw [h2, Nat.sub_self]; rfl
  rw [← en] at h2
  have er := rpl_t h2
  have z := b2i_0.mp (q1.symm.trans c_153)
  rw [z] at er
  rw [fM_1 off (by rw [en]; omega), er]
  have zo := end_off z
  exact ⟨rfl, RM_mko q2 (by rw [x4 z]; exact rl) q3 hr.2.2.2.1 zo (by rw [ew]; exact cpy_t2 hr.2.2.2.2.2)⟩
theorem vc_M_mount_45_0 (a_bits : Int64) (y_thrown : Int32) (y_ring : Int32) (y_off : Int32) (y_fuse : Int32) (y_steps : Int32) (y_many : Int32) (y_log : Int32) (y_before : Int32) (y_home : Nat → Int32) (y_base : Nat → Int32) (y_now : Nat → Int32) (y_kinds : Nat → Int32) (y_blocks : Nat → Int32) (y_runs : Nat → Int32) (y_revokes : Nat → Int32) (y_from : Nat → Int32) (y_uses : Nat → Int32) (y_revoked : Nat → Int32) (y_had : Nat → Int32) (y_data : Nat → Int32) (x3 : Int32) (x4 : Int32) (y_thrown_i : Int32) (y_off_i : Int32) (y_fuse_i : Int32) (y_steps_i : Int32) (y_many_i : Int32) (y_log_i : Int32) (y_before_i : Int32) (y_home_i : Nat → Int32) (y_base_i : Nat → Int32) (y_now_i : Nat → Int32) (y_kinds_i : Nat → Int32) (y_blocks_i : Nat → Int32) (y_runs_i : Nat → Int32) (y_revokes_i : Nat → Int32) (hpre : pr_M_mount a_bits (y_thrown, y_ring, y_off, y_fuse, y_steps, y_many, y_log, y_before, y_home, y_base, y_now, y_kinds, y_blocks, y_runs, y_revokes, y_from, y_uses, y_revoked, y_had, y_data)) (hinv : iv_M_mount_30 a_bits (y_thrown, y_ring, y_off, y_fuse, y_steps, y_many, y_log, y_before, y_home, y_base, y_now, y_kinds, y_blocks, y_runs, y_revokes, y_from, y_uses, y_revoked, y_had, y_data) x3 x4 (y_thrown_i, y_ring, y_off_i, y_fuse_i, y_steps_i, y_many_i, y_log_i, y_before_i, y_home_i, y_base_i, y_now_i, y_kinds_i, y_blocks_i, y_runs_i, y_revokes_i, y_from, y_uses, y_revoked, y_had, y_data)) (c_36 : ¬ y_log_i ≤ x4) : vp_in x4 102 := by
  obtain ⟨c_9, ew, t, N, htN, hN, hlg, rfl, h⟩ := hinv
  have el : y_log_i = nI N := hlg
  have ew : y_now_i = y_now := ew
  have hlt : ¬ N ≤ t := fun z => c_36 (by rw [el]; exact nI_le z (by omega))
  exact vp_in_nI (by omega) (by decide)
theorem vc_M_mount_46_0 (a_bits : Int64) (y_thrown : Int32) (y_ring : Int32) (y_off : Int32) (y_fuse : Int32) (y_steps : Int32) (y_many : Int32) (y_log : Int32) (y_before : Int32) (y_home : Nat → Int32) (y_base : Nat → Int32) (y_now : Nat → Int32) (y_kinds : Nat → Int32) (y_blocks : Nat → Int32) (y_runs : Nat → Int32) (y_revokes : Nat → Int32) (y_from : Nat → Int32) (y_uses : Nat → Int32) (y_revoked : Nat → Int32) (y_had : Nat → Int32) (y_data : Nat → Int32) (x3 : Int32) (x4 : Int32) (y_thrown_i : Int32) (y_off_i : Int32) (y_fuse_i : Int32) (y_steps_i : Int32) (y_many_i : Int32) (y_log_i : Int32) (y_before_i : Int32) (y_home_i : Nat → Int32) (y_base_i : Nat → Int32) (y_now_i : Nat → Int32) (y_kinds_i : Nat → Int32) (y_blocks_i : Nat → Int32) (y_runs_i : Nat → Int32) (y_revokes_i : Nat → Int32) (v_45 : Int32) (hpre : pr_M_mount a_bits (y_thrown, y_ring, y_off, y_fuse, y_steps, y_many, y_log, y_before, y_home, y_base, y_now, y_kinds, y_blocks, y_runs, y_revokes, y_from, y_uses, y_revoked, y_had, y_data)) (hinv : iv_M_mount_30 a_bits (y_thrown, y_ring, y_off, y_fuse, y_steps, y_many, y_log, y_before, y_home, y_base, y_now, y_kinds, y_blocks, y_runs, y_revokes, y_from, y_uses, y_revoked, y_had, y_data) x3 x4 (y_thrown_i, y_ring, y_off_i, y_fuse_i, y_steps_i, y_many_i, y_log_i, y_before_i, y_home_i, y_base_i, y_now_i, y_kinds_i, y_blocks_i, y_runs_i, y_revokes_i, y_from, y_uses, y_revoked, y_had, y_data)) (c_36 : ¬ y_log_i ≤ x4) (e_45 : v_45 = (y_from (x4).toNatClampNeg)) : iv_M_mount_48 a_bits (y_thrown, y_ring, y_off, y_fuse, y_steps, y_many, y_log, y_before, y_home, y_base, y_now, y_kinds, y_blocks, y_runs, y_revokes, y_from, y_uses, y_revoked, y_had, y_data) x3 x4 v_45 (y_thrown_i, y_ring, y_off_i, y_fuse_i, y_steps_i, y_many_i, y_log_i, y_before_i, y_home_i, y_base_i, y_now_i, y_kinds_i, y_blocks_i, y_runs_i, y_revokes_i, y_from, y_uses, y_revoked, y_had, y_data) ∧ mu_M_mount_48 a_bits (y_thrown, y_ring, y_off, y_fuse, y_steps, y_many, y_log, y_before, y_home, y_base, y_now, y_kinds, y_blocks, y_runs, y_revokes, y_from, y_uses, y_revoked, y_had, y_data) x3 x4 v_45 (y_thrown_i, y_ring, y_off_i, y_fuse_i, y_steps_i, y_many_i, y_log_i, y_before_i, y_home_i, y_base_i, y_now_i, y_kinds_i, y_blocks_i, y_runs_i, y_revokes_i, y_from, y_uses, y_revoked, y_had, y_data) < mu_M_mount_30 a_bits (y_thrown, y_ring, y_off, y_fuse, y_steps, y_many, y_log, y_before, y_home, y_base, y_now, y_kinds, y_blocks, y_runs, y_revokes, y_from, y_uses, y_revoked, y_had, y_data) x3 x4 (y_thrown_i, y_ring, y_off_i, y_fuse_i, y_steps_i, y_many_i, y_log_i, y_before_i, y_home_i, y_base_i, y_now_i, y_kinds_i, y_blocks_i, y_runs_i, y_revokes_i, y_from, y_uses, y_revoked, y_had, y_data) := by
  obtain ⟨c_9, ew, t, N, htN, hN, hlg, rfl, h⟩ := hinv
  have el : y_log_i = nI N := hlg
  have ew : y_now_i = y_now := ew
  have hlt : ¬ N ≤ t := fun z => c_36 (by rw [el]; exact nI_le z (by omega))
  obtain ⟨σ, hr, hsw⟩ := hpre
  obtain ⟨ring, run, rev, now, d, g⟩ := σ
  have G0 := h ring run rev now d g hr hsw
  have ef : ∀ G : Lg, RMl G (y_thrown_i, y_ring, y_off_i, y_fuse_i, y_steps_i, y_many_i, y_log_i, y_before_i, y_home_i, y_base_i, y_now_i, y_kinds_i, y_blocks_i, y_runs_i, y_revokes_i, y_from, y_uses, y_revoked, y_had, y_data) → G.1 = N → okG G → v_45 = nI (G.2.2.2.2.1 t) ∧ G.2.2.2.2.1 t ≤ 199 := fun G hG hn ho => by
    have e := l_frm hG (t := t) (by rw [hn]; omega)
    have l := lw_fst (t := t) ho (by rw [hn]; omega)
    rw [nI_clamp (by omega)] at e_45
    exact ⟨e_45.trans e, by omega⟩
  obtain ⟨en0, wo0, d20, h20, rs0, rl0, -⟩ := G0
  obtain ⟨k1, k2⟩ := ef _ rl0 en0 wo0
  refine ⟨⟨c_9, ew, t, N, (mtG a_bits d g).2.2.2.2.1 t, by omega, hN, hlg, rfl, k1, k2, fun ring2 run2 rev2 now2 d2 g2 hr2 hs2 => ?_⟩, ?_⟩
  · obtain ⟨en, wo, d3, h2, rs, rl, w2, hh, o2⟩ := h ring2 run2 rev2 now2 d2 g2 hr2 hs2
    obtain ⟨k3, k4⟩ := ef _ rl en wo
    have e2 := (nI_eq (by omega) (by omega)).mp (k1.symm.trans k3)
    refine ⟨en, wo, d3, 0, by omega, by rw [rk_0]; exact e2, ?_, rs, rl, w2, hh, o2⟩
    rw [h2, show N - t = (N - (t + 1)) + 1 by omega, repT_s]
  · show 300 * (y_log_i.toNatClampNeg - (nI t).toNatClampNeg) - 1 - v_45.toNatClampNeg < 300 * (y_log_i.toNatClampNeg - (nI t).toNatClampNeg)
    rw [el, nI_clamp (n := N) (by omega), nI_clamp (n := t) (by omega)]
    omega
theorem vc_M_mount_58_0 (a_bits : Int64) (y_thrown : Int32) (y_ring : Int32) (y_off : Int32) (y_fuse : Int32) (y_steps : Int32) (y_many : Int32) (y_log : Int32) (y_before : Int32) (y_home : Nat → Int32) (y_base : Nat → Int32) (y_now : Nat → Int32) (y_kinds : Nat → Int32) (y_blocks : Nat → Int32) (y_runs : Nat → Int32) (y_revokes : Nat → Int32) (y_from : Nat → Int32) (y_uses : Nat → Int32) (y_revoked : Nat → Int32) (y_had : Nat → Int32) (y_data : Nat → Int32) (x3 : Int32) (x4 : Int32) (x5 : Int32) (y_thrown_i : Int32) (y_off_i : Int32) (y_fuse_i : Int32) (y_steps_i : Int32) (y_many_i : Int32) (y_log_i : Int32) (y_before_i : Int32) (y_home_i : Nat → Int32) (y_base_i : Nat → Int32) (y_now_i : Nat → Int32) (y_kinds_i : Nat → Int32) (y_blocks_i : Nat → Int32) (y_runs_i : Nat → Int32) (y_revokes_i : Nat → Int32) (hpre : pr_M_mount a_bits (y_thrown, y_ring, y_off, y_fuse, y_steps, y_many, y_log, y_before, y_home, y_base, y_now, y_kinds, y_blocks, y_runs, y_revokes, y_from, y_uses, y_revoked, y_had, y_data)) (hinv : iv_M_mount_48 a_bits (y_thrown, y_ring, y_off, y_fuse, y_steps, y_many, y_log, y_before, y_home, y_base, y_now, y_kinds, y_blocks, y_runs, y_revokes, y_from, y_uses, y_revoked, y_had, y_data) x3 x4 x5 (y_thrown_i, y_ring, y_off_i, y_fuse_i, y_steps_i, y_many_i, y_log_i, y_before_i, y_home_i, y_base_i, y_now_i, y_kinds_i, y_blocks_i, y_runs_i, y_revokes_i, y_from, y_uses, y_revoked, y_had, y_data)) : vp_in (x4 + 1) 102 := by
  obtain ⟨c_9, ew, t, N, K, htN, hN, hlg, rfl, rfl, hK, h⟩ := hinv
  have el : y_log_i = nI N := hlg
  have ew : y_now_i = y_now := ew
  rw [nI_1]
  exact vp_in_nI (by omega) (by decide)
theorem vc_M_mount_139_0 (a_bits : Int64) (y_thrown : Int32) (y_ring : Int32) (y_off : Int32) (y_fuse : Int32) (y_steps : Int32) (y_many : Int32) (y_log : Int32) (y_before : Int32) (y_home : Nat → Int32) (y_base : Nat → Int32) (y_now : Nat → Int32) (y_kinds : Nat → Int32) (y_blocks : Nat → Int32) (y_runs : Nat → Int32) (y_revokes : Nat → Int32) (y_from : Nat → Int32) (y_uses : Nat → Int32) (y_revoked : Nat → Int32) (y_had : Nat → Int32) (y_data : Nat → Int32) (x3 : Int32) (x4 : Int32) (x5 : Int32) (y_thrown_i : Int32) (y_off_i : Int32) (y_fuse_i : Int32) (y_steps_i : Int32) (y_many_i : Int32) (y_log_i : Int32) (y_before_i : Int32) (y_home_i : Nat → Int32) (y_base_i : Nat → Int32) (y_now_i : Nat → Int32) (y_kinds_i : Nat → Int32) (y_blocks_i : Nat → Int32) (y_runs_i : Nat → Int32) (y_revokes_i : Nat → Int32) (v_58 : Int32) (v_136 : Int32) (hpre : pr_M_mount a_bits (y_thrown, y_ring, y_off, y_fuse, y_steps, y_many, y_log, y_before, y_home, y_base, y_now, y_kinds, y_blocks, y_runs, y_revokes, y_from, y_uses, y_revoked, y_had, y_data)) (hinv : iv_M_mount_48 a_bits (y_thrown, y_ring, y_off, y_fuse, y_steps, y_many, y_log, y_before, y_home, y_base, y_now, y_kinds, y_blocks, y_runs, y_revokes, y_from, y_uses, y_revoked, y_had, y_data) x3 x4 x5 (y_thrown_i, y_ring, y_off_i, y_fuse_i, y_steps_i, y_many_i, y_log_i, y_before_i, y_home_i, y_base_i, y_now_i, y_kinds_i, y_blocks_i, y_runs_i, y_revokes_i, y_from, y_uses, y_revoked, y_had, y_data)) (e_58 : v_58 = (y_from ((x4 + 1)).toNatClampNeg)) (c_59 : v_58 ≤ x5) (e_136 : v_136 = x4 + 1) : iv_M_mount_30 a_bits (y_thrown, y_ring, y_off, y_fuse, y_steps, y_many, y_log, y_before, y_home, y_base, y_now, y_kinds, y_blocks, y_runs, y_revokes, y_from, y_uses, y_revoked, y_had, y_data) x3 v_136 (y_thrown_i, y_ring, y_off_i, y_fuse_i, y_steps_i, y_many_i, y_log_i, y_before_i, y_home_i, y_base_i, y_now_i, y_kinds_i, y_blocks_i, y_runs_i, y_revokes_i, y_from, y_uses, y_revoked, y_had, y_data) ∧ mu_M_mount_30 a_bits (y_thrown, y_ring, y_off, y_fuse, y_steps, y_many, y_log, y_before, y_home, y_base, y_now, y_kinds, y_blocks, y_runs, y_revokes, y_from, y_uses, y_revoked, y_had, y_data) x3 v_136 (y_thrown_i, y_ring, y_off_i, y_fuse_i, y_steps_i, y_many_i, y_log_i, y_before_i, y_home_i, y_base_i, y_now_i, y_kinds_i, y_blocks_i, y_runs_i, y_revokes_i, y_from, y_uses, y_revoked, y_had, y_data) < mu_M_mount_48 a_bits (y_thrown, y_ring, y_off, y_fuse, y_steps, y_many, y_log, y_before, y_home, y_base, y_now, y_kinds, y_blocks, y_runs, y_revokes, y_from, y_uses, y_revoked, y_had, y_data) x3 x4 x5 (y_thrown_i, y_ring, y_off_i, y_fuse_i, y_steps_i, y_many_i, y_log_i, y_before_i, y_home_i, y_base_i, y_now_i, y_kinds_i, y_blocks_i, y_runs_i, y_revokes_i, y_from, y_uses, y_revoked, y_had, y_data) := by
  obtain ⟨c_9, ew, t, N, K, htN, hN, hlg, rfl, rfl, hK, h⟩ := hinv
  have el : y_log_i = nI N := hlg
  have ew : y_now_i = y_now := ew
  refine ⟨⟨c_9, ew, t + 1, N, htN, hN, hlg, by rw [e_136]; exact nI_1 t, fun ring run rev now d g hr hsw => ?_⟩, ?_⟩
  · obtain ⟨en, wo, d2, b, hb, eK, h2, rs, rl, w2, hh, o2⟩ := h ring run rev now d g hr hsw
    have off := m_off hr c_9
    have lf := lw_fst (t := t) wo (by rw [en]; exact htN)
    have ef : v_58 = nI ((mtG a_bits d g).2.2.2.2.1 t + cnt ((mtG a_bits d g).2.1 t)) := by
      rw [e_58, nI_1, nI_clamp (by omega), ← lf.1]
      exact l_frm rl (by rw [en]; omega)
    rw [ef] at c_59
    have c59 := (nI_leI (by omega) (by omega)).mp c_59
    have rk1 := rk_le (x := (mtG a_bits d g).2.1 t) hb
    have re : rk ((mtG a_bits d g).2.1 t) b = cnt ((mtG a_bits d g).2.1 t) := by omega
    refine ⟨en, wo, d2, ?_, rs, rl, w2, hh, o2⟩
    have sk := rep_skip (g := mtG a_bits d g) (t := t) (lv := sLiving (mtG a_bits d g) t) (n := x3) (d := d2) (64 - b) b (by omega) (fun e h1 h3 => lv_no (rk_end re e h1 (by omega)))
    rw [h2, sk, show b + (64 - b) = 64 by omega]
    rfl
  · show 300 * (y_log_i.toNatClampNeg - v_136.toNatClampNeg) < 300 * (y_log_i.toNatClampNeg - (nI t).toNatClampNeg) - 1 - (nI K).toNatClampNeg
    rw [e_136, nI_1, el, nI_clamp (n := N) (by omega), nI_clamp (n := t + 1) (by omega), nI_clamp (n := t) (by omega), nI_clamp (n := K) (by omega)]
    omega
theorem vc_M_mount_71_0 (a_bits : Int64) (y_thrown : Int32) (y_ring : Int32) (y_off : Int32) (y_fuse : Int32) (y_steps : Int32) (y_many : Int32) (y_log : Int32) (y_before : Int32) (y_home : Nat → Int32) (y_base : Nat → Int32) (y_now : Nat → Int32) (y_kinds : Nat → Int32) (y_blocks : Nat → Int32) (y_runs : Nat → Int32) (y_revokes : Nat → Int32) (y_from : Nat → Int32) (y_uses : Nat → Int32) (y_revoked : Nat → Int32) (y_had : Nat → Int32) (y_data : Nat → Int32) (x3 : Int32) (x4 : Int32) (x5 : Int32) (y_thrown_i : Int32) (y_off_i : Int32) (y_fuse_i : Int32) (y_steps_i : Int32) (y_many_i : Int32) (y_log_i : Int32) (y_before_i : Int32) (y_home_i : Nat → Int32) (y_base_i : Nat → Int32) (y_now_i : Nat → Int32) (y_kinds_i : Nat → Int32) (y_blocks_i : Nat → Int32) (y_runs_i : Nat → Int32) (y_revokes_i : Nat → Int32) (v_58 : Int32) (hpre : pr_M_mount a_bits (y_thrown, y_ring, y_off, y_fuse, y_steps, y_many, y_log, y_before, y_home, y_base, y_now, y_kinds, y_blocks, y_runs, y_revokes, y_from, y_uses, y_revoked, y_had, y_data)) (hinv : iv_M_mount_48 a_bits (y_thrown, y_ring, y_off, y_fuse, y_steps, y_many, y_log, y_before, y_home, y_base, y_now, y_kinds, y_blocks, y_runs, y_revokes, y_from, y_uses, y_revoked, y_had, y_data) x3 x4 x5 (y_thrown_i, y_ring, y_off_i, y_fuse_i, y_steps_i, y_many_i, y_log_i, y_before_i, y_home_i, y_base_i, y_now_i, y_kinds_i, y_blocks_i, y_runs_i, y_revokes_i, y_from, y_uses, y_revoked, y_had, y_data)) (e_58 : v_58 = (y_from ((x4 + 1)).toNatClampNeg)) (c_59 : ¬ v_58 ≤ x5) : vp_in x5 200 := by
  obtain ⟨c_9, ew, t, N, K, htN, hN, hlg, rfl, rfl, hK, h⟩ := hinv
  have el : y_log_i = nI N := hlg
  have ew : y_now_i = y_now := ew
  obtain ⟨σ, hr, hsw⟩ := hpre
  obtain ⟨ring, run, rev, now, d, g⟩ := σ
  obtain ⟨en, wo, d2, b, hb, eK, h2, rs, rl, w2, hh, o2⟩ := h ring run rev now d g hr hsw
  have off := m_off hr c_9
  have lf := lw_fst (t := t) wo (by rw [en]; exact htN)
  have ef : v_58 = nI ((mtG a_bits d g).2.2.2.2.1 t + cnt ((mtG a_bits d g).2.1 t)) := by
    rw [e_58, nI_1, nI_clamp (by omega), ← lf.1]
    exact l_frm rl (by rw [en]; omega)
  rcases Nat.lt_or_ge K 200 with z | z
  · exact vp_in_nI z (by decide)
  · omega
theorem vc_M_mount_72_0 (a_bits : Int64) (y_thrown : Int32) (y_ring : Int32) (y_off : Int32) (y_fuse : Int32) (y_steps : Int32) (y_many : Int32) (y_log : Int32) (y_before : Int32) (y_home : Nat → Int32) (y_base : Nat → Int32) (y_now : Nat → Int32) (y_kinds : Nat → Int32) (y_blocks : Nat → Int32) (y_runs : Nat → Int32) (y_revokes : Nat → Int32) (y_from : Nat → Int32) (y_uses : Nat → Int32) (y_revoked : Nat → Int32) (y_had : Nat → Int32) (y_data : Nat → Int32) (x3 : Int32) (x4 : Int32) (x5 : Int32) (y_thrown_i : Int32) (y_off_i : Int32) (y_fuse_i : Int32) (y_steps_i : Int32) (y_many_i : Int32) (y_log_i : Int32) (y_before_i : Int32) (y_home_i : Nat → Int32) (y_base_i : Nat → Int32) (y_now_i : Nat → Int32) (y_kinds_i : Nat → Int32) (y_blocks_i : Nat → Int32) (y_runs_i : Nat → Int32) (y_revokes_i : Nat → Int32) (v_58 : Int32) (v_71 : Int32) (hpre : pr_M_mount a_bits (y_thrown, y_ring, y_off, y_fuse, y_steps, y_many, y_log, y_before, y_home, y_base, y_now, y_kinds, y_blocks, y_runs, y_revokes, y_from, y_uses, y_revoked, y_had, y_data)) (hinv : iv_M_mount_48 a_bits (y_thrown, y_ring, y_off, y_fuse, y_steps, y_many, y_log, y_before, y_home, y_base, y_now, y_kinds, y_blocks, y_runs, y_revokes, y_from, y_uses, y_revoked, y_had, y_data) x3 x4 x5 (y_thrown_i, y_ring, y_off_i, y_fuse_i, y_steps_i, y_many_i, y_log_i, y_before_i, y_home_i, y_base_i, y_now_i, y_kinds_i, y_blocks_i, y_runs_i, y_revokes_i, y_from, y_uses, y_revoked, y_had, y_data)) (e_58 : v_58 = (y_from ((x4 + 1)).toNatClampNeg)) (c_59 : ¬ v_58 ≤ x5) (e_71 : v_71 = (y_had (x5).toNatClampNeg)) : pr_M_isRevoked x4 v_71 (y_thrown_i, y_ring, y_off_i, y_fuse_i, y_steps_i, y_many_i, y_log_i, y_before_i, y_home_i, y_base_i, y_now_i, y_kinds_i, y_blocks_i, y_runs_i, y_revokes_i, y_from, y_uses, y_revoked, y_had, y_data) := by
  obtain ⟨c_9, ew, t, N, K, htN, hN, hlg, rfl, rfl, hK, h⟩ := hinv
  have el : y_log_i = nI N := hlg
  have ew : y_now_i = y_now := ew
  obtain ⟨σ, hr, hsw⟩ := hpre
  obtain ⟨ring, run, rev, now, d, g⟩ := σ
  obtain ⟨en, wo, d2, b, hb, eK, h2, rs, rl, w2, hh, o2⟩ := h ring run rev now d g hr hsw
  have off := m_off hr c_9
  have lf := lw_fst (t := t) wo (by rw [en]; exact htN)
  have ef : v_58 = nI ((mtG a_bits d g).2.2.2.2.1 t + cnt ((mtG a_bits d g).2.1 t)) := by
    rw [e_58, nI_1, nI_clamp (by omega), ← lf.1]
    exact l_frm rl (by rw [en]; omega)
  have c59 : K < (mtG a_bits d g).2.2.2.2.1 t + cnt ((mtG a_bits d g).2.1 t) := by
    rcases Nat.lt_or_ge K ((mtG a_bits d g).2.2.2.2.1 t + cnt ((mtG a_bits d g).2.1 t)) with z | z
    · exact z
    · exact absurd (by rw [ef]; exact nI_le z (by omega)) c_59
  obtain ⟨c, n1, n2, n3, n4, n5⟩ := nxt hb (x := (mtG a_bits d g).2.1 t) (by omega)
  have eh1 : y_had K = nI c := by
    have q := l_had rl (by rw [en]; exact htN) n2 n3
    rw [n4, ← eK] at q
    exact q
  rw [nI_clamp (n := K) (by omega), eh1] at e_71
  exact ⟨mtG a_bits d g, t, c, rl, by rw [en]; exact hlg, wo, rfl, by rw [en]; exact htN, e_71, n2⟩
theorem vc_M_mount_133_0 (a_bits : Int64) (y_thrown : Int32) (y_ring : Int32) (y_off : Int32) (y_fuse : Int32) (y_steps : Int32) (y_many : Int32) (y_log : Int32) (y_before : Int32) (y_home : Nat → Int32) (y_base : Nat → Int32) (y_now : Nat → Int32) (y_kinds : Nat → Int32) (y_blocks : Nat → Int32) (y_runs : Nat → Int32) (y_revokes : Nat → Int32) (y_from : Nat → Int32) (y_uses : Nat → Int32) (y_revoked : Nat → Int32) (y_had : Nat → Int32) (y_data : Nat → Int32) (x3 : Int32) (x4 : Int32) (x5 : Int32) (y_thrown_i : Int32) (y_off_i : Int32) (y_fuse_i : Int32) (y_steps_i : Int32) (y_many_i : Int32) (y_log_i : Int32) (y_before_i : Int32) (y_home_i : Nat → Int32) (y_base_i : Nat → Int32) (y_now_i : Nat → Int32) (y_kinds_i : Nat → Int32) (y_blocks_i : Nat → Int32) (y_runs_i : Nat → Int32) (y_revokes_i : Nat → Int32) (v_58 : Int32) (v_71 : Int32) (r_72 : Int32) (v_130 : Int32) (hpre : pr_M_mount a_bits (y_thrown, y_ring, y_off, y_fuse, y_steps, y_many, y_log, y_before, y_home, y_base, y_now, y_kinds, y_blocks, y_runs, y_revokes, y_from, y_uses, y_revoked, y_had, y_data)) (hinv : iv_M_mount_48 a_bits (y_thrown, y_ring, y_off, y_fuse, y_steps, y_many, y_log, y_before, y_home, y_base, y_now, y_kinds, y_blocks, y_runs, y_revokes, y_from, y_uses, y_revoked, y_had, y_data) x3 x4 x5 (y_thrown_i, y_ring, y_off_i, y_fuse_i, y_steps_i, y_many_i, y_log_i, y_before_i, y_home_i, y_base_i, y_now_i, y_kinds_i, y_blocks_i, y_runs_i, y_revokes_i, y_from, y_uses, y_revoked, y_had, y_data)) (e_58 : v_58 = (y_from ((x4 + 1)).toNatClampNeg)) (c_59 : ¬ v_58 ≤ x5) (e_71 : v_71 = (y_had (x5).toNatClampNeg)) (w_72 : po_M_isRevoked x4 v_71 (y_thrown_i, y_ring, y_off_i, y_fuse_i, y_steps_i, y_many_i, y_log_i, y_before_i, y_home_i, y_base_i, y_now_i, y_kinds_i, y_blocks_i, y_runs_i, y_revokes_i, y_from, y_uses, y_revoked, y_had, y_data) r_72) (c_75 : ¬ r_72 = 0) (e_130 : v_130 = x5 + 1) : iv_M_mount_48 a_bits (y_thrown, y_ring, y_off, y_fuse, y_steps, y_many, y_log, y_before, y_home, y_base, y_now, y_kinds, y_blocks, y_runs, y_revokes, y_from, y_uses, y_revoked, y_had, y_data) x3 x4 v_130 (y_thrown_i, y_ring, y_off_i, y_fuse_i, y_steps_i, y_many_i, y_log_i, y_before_i, y_home_i, y_base_i, y_now_i, y_kinds_i, y_blocks_i, y_runs_i, y_revokes_i, y_from, y_uses, y_revoked, y_had, y_data) ∧ mu_M_mount_48 a_bits (y_thrown, y_ring, y_off, y_fuse, y_steps, y_many, y_log, y_before, y_home, y_base, y_now, y_kinds, y_blocks, y_runs, y_revokes, y_from, y_uses, y_revoked, y_had, y_data) x3 x4 v_130 (y_thrown_i, y_ring, y_off_i, y_fuse_i, y_steps_i, y_many_i, y_log_i, y_before_i, y_home_i, y_base_i, y_now_i, y_kinds_i, y_blocks_i, y_runs_i, y_revokes_i, y_from, y_uses, y_revoked, y_had, y_data) < mu_M_mount_48 a_bits (y_thrown, y_ring, y_off, y_fuse, y_steps, y_many, y_log, y_before, y_home, y_base, y_now, y_kinds, y_blocks, y_runs, y_revokes, y_from, y_uses, y_revoked, y_had, y_data) x3 x4 x5 (y_thrown_i, y_ring, y_off_i, y_fuse_i, y_steps_i, y_many_i, y_log_i, y_before_i, y_home_i, y_base_i, y_now_i, y_kinds_i, y_blocks_i, y_runs_i, y_revokes_i, y_from, y_uses, y_revoked, y_had, y_data) := by
  obtain ⟨c_9, ew, t, N, K, htN, hN, hlg, rfl, rfl, hK, h⟩ := hinv
  have el : y_log_i = nI N := hlg
  have ew : y_now_i = y_now := ew
  have hK1 : K + 1 ≤ 199 := by
    obtain ⟨⟨ring, run, rev, now, d, g⟩, hr, hsw⟩ := hpre
    obtain ⟨en, wo, d2, b, hb, eK, h2, rs, rl, w2, hh, o2⟩ := h ring run rev now d g hr hsw
    have off := m_off hr c_9
    have lf := lw_fst (t := t) wo (by rw [en]; exact htN)
    have ef : v_58 = nI ((mtG a_bits d g).2.2.2.2.1 t + cnt ((mtG a_bits d g).2.1 t)) := by
      rw [e_58, nI_1, nI_clamp (by omega), ← lf.1]
      exact l_frm rl (by rw [en]; omega)
    have c59 : K < (mtG a_bits d g).2.2.2.2.1 t + cnt ((mtG a_bits d g).2.1 t) := by
      rcases Nat.lt_or_ge K ((mtG a_bits d g).2.2.2.2.1 t + cnt ((mtG a_bits d g).2.1 t)) with z | z
      · exact z
      · exact absurd (by rw [ef]; exact nI_le z (by omega)) c_59
    obtain ⟨c, n1, n2, n3, n4, n5⟩ := nxt hb (x := (mtG a_bits d g).2.1 t) (by omega)
    omega
  refine ⟨⟨c_9, ew, t, N, K + 1, htN, hN, hlg, rfl, by rw [e_130]; exact nI_1 K, hK1, fun ring run rev now d g hr hsw => ?_⟩, ?_⟩
  · obtain ⟨en, wo, d2, b, hb, eK, h2, rs, rl, w2, hh, o2⟩ := h ring run rev now d g hr hsw
    have off := m_off hr c_9
    have lf := lw_fst (t := t) wo (by rw [en]; exact htN)
    have ef : v_58 = nI ((mtG a_bits d g).2.2.2.2.1 t + cnt ((mtG a_bits d g).2.1 t)) := by
      rw [e_58, nI_1, nI_clamp (by omega), ← lf.1]
      exact l_frm rl (by rw [en]; omega)
    have c59 : K < (mtG a_bits d g).2.2.2.2.1 t + cnt ((mtG a_bits d g).2.1 t) := by
      rcases Nat.lt_or_ge K ((mtG a_bits d g).2.2.2.2.1 t + cnt ((mtG a_bits d g).2.1 t)) with z | z
      · exact z
      · exact absurd (by rw [ef]; exact nI_le z (by omega)) c_59
    obtain ⟨c, n1, n2, n3, n4, n5⟩ := nxt hb (x := (mtG a_bits d g).2.1 t) (by omega)
    have eh1 : y_had K = nI c := by
      have q := l_had rl (by rw [en]; exact htN) n2 n3
      rw [n4, ← eK] at q
      exact q
    rw [nI_clamp (n := K) (by omega), eh1] at e_71
    have wr := w_72 (mtG a_bits d g) t c rl (by rw [en]; exact hlg) wo rfl (by rw [en]; exact htN) e_71 n2
    have sk := rep_skip (g := mtG a_bits d g) (t := t) (lv := sLiving (mtG a_bits d g) t) (n := x3) (d := d2) (c - b) b (by omega) (fun e h1 h3 => lv_no (n5 e h1 (by omega)))
    rw [show b + (c - b) = c by omega, show 64 - c = (64 - (c + 1)) + 1 by omega] at sk
    rw [sk] at h2
    have z := b2i_n0.mp (fun y => c_75 (wr.trans y))
    have lf0 : bitt (sLiving (mtG a_bits d g) t) c = false := by rw [living_e n2, z, n3]; rfl
    rw [rep_s lf0] at h2
    exact ⟨en, wo, d2, c + 1, by omega, by rw [rk_s, n3, if_pos rfl, n4]; omega, h2, rs, rl, w2, hh, o2⟩
  · show 300 * (y_log_i.toNatClampNeg - (nI t).toNatClampNeg) - 1 - v_130.toNatClampNeg < 300 * (y_log_i.toNatClampNeg - (nI t).toNatClampNeg) - 1 - (nI K).toNatClampNeg
    rw [e_130, nI_1, el, nI_clamp (n := N) (by omega), nI_clamp (n := t) (by omega), nI_clamp (n := K + 1) (by omega), nI_clamp (n := K) (by omega)]
    omega
theorem vc_M_mount_86_0 (a_bits : Int64) (y_thrown : Int32) (y_ring : Int32) (y_off : Int32) (y_fuse : Int32) (y_steps : Int32) (y_many : Int32) (y_log : Int32) (y_before : Int32) (y_home : Nat → Int32) (y_base : Nat → Int32) (y_now : Nat → Int32) (y_kinds : Nat → Int32) (y_blocks : Nat → Int32) (y_runs : Nat → Int32) (y_revokes : Nat → Int32) (y_from : Nat → Int32) (y_uses : Nat → Int32) (y_revoked : Nat → Int32) (y_had : Nat → Int32) (y_data : Nat → Int32) (x3 : Int32) (x4 : Int32) (x5 : Int32) (y_thrown_i : Int32) (y_off_i : Int32) (y_fuse_i : Int32) (y_steps_i : Int32) (y_many_i : Int32) (y_log_i : Int32) (y_before_i : Int32) (y_home_i : Nat → Int32) (y_base_i : Nat → Int32) (y_now_i : Nat → Int32) (y_kinds_i : Nat → Int32) (y_blocks_i : Nat → Int32) (y_runs_i : Nat → Int32) (y_revokes_i : Nat → Int32) (v_58 : Int32) (v_71 : Int32) (r_72 : Int32) (hpre : pr_M_mount a_bits (y_thrown, y_ring, y_off, y_fuse, y_steps, y_many, y_log, y_before, y_home, y_base, y_now, y_kinds, y_blocks, y_runs, y_revokes, y_from, y_uses, y_revoked, y_had, y_data)) (hinv : iv_M_mount_48 a_bits (y_thrown, y_ring, y_off, y_fuse, y_steps, y_many, y_log, y_before, y_home, y_base, y_now, y_kinds, y_blocks, y_runs, y_revokes, y_from, y_uses, y_revoked, y_had, y_data) x3 x4 x5 (y_thrown_i, y_ring, y_off_i, y_fuse_i, y_steps_i, y_many_i, y_log_i, y_before_i, y_home_i, y_base_i, y_now_i, y_kinds_i, y_blocks_i, y_runs_i, y_revokes_i, y_from, y_uses, y_revoked, y_had, y_data)) (e_58 : v_58 = (y_from ((x4 + 1)).toNatClampNeg)) (c_59 : ¬ v_58 ≤ x5) (e_71 : v_71 = (y_had (x5).toNatClampNeg)) (w_72 : po_M_isRevoked x4 v_71 (y_thrown_i, y_ring, y_off_i, y_fuse_i, y_steps_i, y_many_i, y_log_i, y_before_i, y_home_i, y_base_i, y_now_i, y_kinds_i, y_blocks_i, y_runs_i, y_revokes_i, y_from, y_uses, y_revoked, y_had, y_data) r_72) (c_75 : r_72 = 0) : vp_in x5 200 := by
  obtain ⟨c_9, ew, t, N, K, htN, hN, hlg, rfl, rfl, hK, h⟩ := hinv
  have el : y_log_i = nI N := hlg
  have ew : y_now_i = y_now := ew
  obtain ⟨σ, hr, hsw⟩ := hpre
  obtain ⟨ring, run, rev, now, d, g⟩ := σ
  obtain ⟨en, wo, d2, b, hb, eK, h2, rs, rl, w2, hh, o2⟩ := h ring run rev now d g hr hsw
  have off := m_off hr c_9
  have lf := lw_fst (t := t) wo (by rw [en]; exact htN)
  have ef : v_58 = nI ((mtG a_bits d g).2.2.2.2.1 t + cnt ((mtG a_bits d g).2.1 t)) := by
    rw [e_58, nI_1, nI_clamp (by omega), ← lf.1]
    exact l_frm rl (by rw [en]; omega)
  rcases Nat.lt_or_ge K 200 with z | z
  · exact vp_in_nI z (by decide)
  · omega
theorem vc_M_mount_87_0 (a_bits : Int64) (y_thrown : Int32) (y_ring : Int32) (y_off : Int32) (y_fuse : Int32) (y_steps : Int32) (y_many : Int32) (y_log : Int32) (y_before : Int32) (y_home : Nat → Int32) (y_base : Nat → Int32) (y_now : Nat → Int32) (y_kinds : Nat → Int32) (y_blocks : Nat → Int32) (y_runs : Nat → Int32) (y_revokes : Nat → Int32) (y_from : Nat → Int32) (y_uses : Nat → Int32) (y_revoked : Nat → Int32) (y_had : Nat → Int32) (y_data : Nat → Int32) (x3 : Int32) (x4 : Int32) (x5 : Int32) (y_thrown_i : Int32) (y_off_i : Int32) (y_fuse_i : Int32) (y_steps_i : Int32) (y_many_i : Int32) (y_log_i : Int32) (y_before_i : Int32) (y_home_i : Nat → Int32) (y_base_i : Nat → Int32) (y_now_i : Nat → Int32) (y_kinds_i : Nat → Int32) (y_blocks_i : Nat → Int32) (y_runs_i : Nat → Int32) (y_revokes_i : Nat → Int32) (v_58 : Int32) (v_71 : Int32) (r_72 : Int32) (v_86 : Int32) (hpre : pr_M_mount a_bits (y_thrown, y_ring, y_off, y_fuse, y_steps, y_many, y_log, y_before, y_home, y_base, y_now, y_kinds, y_blocks, y_runs, y_revokes, y_from, y_uses, y_revoked, y_had, y_data)) (hinv : iv_M_mount_48 a_bits (y_thrown, y_ring, y_off, y_fuse, y_steps, y_many, y_log, y_before, y_home, y_base, y_now, y_kinds, y_blocks, y_runs, y_revokes, y_from, y_uses, y_revoked, y_had, y_data) x3 x4 x5 (y_thrown_i, y_ring, y_off_i, y_fuse_i, y_steps_i, y_many_i, y_log_i, y_before_i, y_home_i, y_base_i, y_now_i, y_kinds_i, y_blocks_i, y_runs_i, y_revokes_i, y_from, y_uses, y_revoked, y_had, y_data)) (e_58 : v_58 = (y_from ((x4 + 1)).toNatClampNeg)) (c_59 : ¬ v_58 ≤ x5) (e_71 : v_71 = (y_had (x5).toNatClampNeg)) (w_72 : po_M_isRevoked x4 v_71 (y_thrown_i, y_ring, y_off_i, y_fuse_i, y_steps_i, y_many_i, y_log_i, y_before_i, y_home_i, y_base_i, y_now_i, y_kinds_i, y_blocks_i, y_runs_i, y_revokes_i, y_from, y_uses, y_revoked, y_had, y_data) r_72) (c_75 : r_72 = 0) (e_86 : v_86 = (y_had (x5).toNatClampNeg)) : pr_M_step 0 v_86 (y_thrown_i, y_ring, y_off_i, y_fuse_i, y_steps_i, y_many_i, y_log_i, y_before_i, y_home_i, y_base_i, y_now_i, y_kinds_i, y_blocks_i, y_runs_i, y_revokes_i, y_from, y_uses, y_revoked, y_had, y_data) := by
  obtain ⟨c_9, ew, t, N, K, htN, hN, hlg, rfl, rfl, hK, h⟩ := hinv
  have el : y_log_i = nI N := hlg
  have ew : y_now_i = y_now := ew
  obtain ⟨σ, hr, hsw⟩ := hpre
  obtain ⟨ring, run, rev, now, d, g⟩ := σ
  obtain ⟨en, wo, d2, b, hb, eK, h2, rs, rl, w2, hh, o2⟩ := h ring run rev now d g hr hsw
  have off := m_off hr c_9
  have lf := lw_fst (t := t) wo (by rw [en]; exact htN)
  have ef : v_58 = nI ((mtG a_bits d g).2.2.2.2.1 t + cnt ((mtG a_bits d g).2.1 t)) := by
    rw [e_58, nI_1, nI_clamp (by omega), ← lf.1]
    exact l_frm rl (by rw [en]; omega)
  have c59 : K < (mtG a_bits d g).2.2.2.2.1 t + cnt ((mtG a_bits d g).2.1 t) := by
    rcases Nat.lt_or_ge K ((mtG a_bits d g).2.2.2.2.1 t + cnt ((mtG a_bits d g).2.1 t)) with z | z
    · exact z
    · exact absurd (by rw [ef]; exact nI_le z (by omega)) c_59
  obtain ⟨c, n1, n2, n3, n4, n5⟩ := nxt hb (x := (mtG a_bits d g).2.1 t) (by omega)
  have eh1 : y_had K = nI c := by
    have q := l_had rl (by rw [en]; exact htN) n2 n3
    rw [n4, ← eK] at q
    exact q
  rw [nI_clamp (n := K) (by omega), eh1] at e_86
  have hl := hs_len64 hh
  exact ⟨d2, 0, 0, 0, c, rs, w2, by omega, rfl, by decide, e_86, fun _ => n2⟩
theorem vc_M_mount_119_0 (a_bits : Int64) (y_thrown : Int32) (y_ring : Int32) (y_off : Int32) (y_fuse : Int32) (y_steps : Int32) (y_many : Int32) (y_log : Int32) (y_before : Int32) (y_home : Nat → Int32) (y_base : Nat → Int32) (y_now : Nat → Int32) (y_kinds : Nat → Int32) (y_blocks : Nat → Int32) (y_runs : Nat → Int32) (y_revokes : Nat → Int32) (y_from : Nat → Int32) (y_uses : Nat → Int32) (y_revoked : Nat → Int32) (y_had : Nat → Int32) (y_data : Nat → Int32) (x3 : Int32) (x4 : Int32) (x5 : Int32) (y_thrown_i : Int32) (y_off_i : Int32) (y_fuse_i : Int32) (y_steps_i : Int32) (y_many_i : Int32) (y_log_i : Int32) (y_before_i : Int32) (y_home_i : Nat → Int32) (y_base_i : Nat → Int32) (y_now_i : Nat → Int32) (y_kinds_i : Nat → Int32) (y_blocks_i : Nat → Int32) (y_runs_i : Nat → Int32) (y_revokes_i : Nat → Int32) (v_58 : Int32) (v_71 : Int32) (r_72 : Int32) (v_86 : Int32) (r_87 : Int32) (y_off_87 : Int32) (y_fuse_87 : Int32) (y_steps_87 : Int32) (y_many_87 : Int32) (y_base_87 : Nat → Int32) (y_kinds_87 : Nat → Int32) (y_blocks_87 : Nat → Int32) (y_runs_87 : Nat → Int32) (y_revokes_87 : Nat → Int32) (hpre : pr_M_mount a_bits (y_thrown, y_ring, y_off, y_fuse, y_steps, y_many, y_log, y_before, y_home, y_base, y_now, y_kinds, y_blocks, y_runs, y_revokes, y_from, y_uses, y_revoked, y_had, y_data)) (hinv : iv_M_mount_48 a_bits (y_thrown, y_ring, y_off, y_fuse, y_steps, y_many, y_log, y_before, y_home, y_base, y_now, y_kinds, y_blocks, y_runs, y_revokes, y_from, y_uses, y_revoked, y_had, y_data) x3 x4 x5 (y_thrown_i, y_ring, y_off_i, y_fuse_i, y_steps_i, y_many_i, y_log_i, y_before_i, y_home_i, y_base_i, y_now_i, y_kinds_i, y_blocks_i, y_runs_i, y_revokes_i, y_from, y_uses, y_revoked, y_had, y_data)) (e_58 : v_58 = (y_from ((x4 + 1)).toNatClampNeg)) (c_59 : ¬ v_58 ≤ x5) (e_71 : v_71 = (y_had (x5).toNatClampNeg)) (w_72 : po_M_isRevoked x4 v_71 (y_thrown_i, y_ring, y_off_i, y_fuse_i, y_steps_i, y_many_i, y_log_i, y_before_i, y_home_i, y_base_i, y_now_i, y_kinds_i, y_blocks_i, y_runs_i, y_revokes_i, y_from, y_uses, y_revoked, y_had, y_data) r_72) (c_75 : r_72 = 0) (e_86 : v_86 = (y_had (x5).toNatClampNeg)) (w_87 : po_M_step 0 v_86 (y_thrown_i, y_ring, y_off_i, y_fuse_i, y_steps_i, y_many_i, y_log_i, y_before_i, y_home_i, y_base_i, y_now_i, y_kinds_i, y_blocks_i, y_runs_i, y_revokes_i, y_from, y_uses, y_revoked, y_had, y_data) r_87 (y_thrown_i, y_ring, y_off_87, y_fuse_87, y_steps_87, y_many_87, y_log_i, y_before_i, y_home_i, y_base_87, y_now_i, y_kinds_87, y_blocks_87, y_runs_87, y_revokes_87, y_from, y_uses, y_revoked, y_had, y_data)) (c_90 : ¬ r_87 = 0) : vp_in x5 200 := by
  obtain ⟨c_9, ew, t, N, K, htN, hN, hlg, rfl, rfl, hK, h⟩ := hinv
  have el : y_log_i = nI N := hlg
  have ew : y_now_i = y_now := ew
  obtain ⟨σ, hr, hsw⟩ := hpre
  obtain ⟨ring, run, rev, now, d, g⟩ := σ
  obtain ⟨en, wo, d2, b, hb, eK, h2, rs, rl, w2, hh, o2⟩ := h ring run rev now d g hr hsw
  have off := m_off hr c_9
  have lf := lw_fst (t := t) wo (by rw [en]; exact htN)
  have ef : v_58 = nI ((mtG a_bits d g).2.2.2.2.1 t + cnt ((mtG a_bits d g).2.1 t)) := by
    rw [e_58, nI_1, nI_clamp (by omega), ← lf.1]
    exact l_frm rl (by rw [en]; omega)
  rcases Nat.lt_or_ge K 200 with z | z
  · exact vp_in_nI z (by decide)
  · omega
theorem vc_M_mount_124_0 (a_bits : Int64) (y_thrown : Int32) (y_ring : Int32) (y_off : Int32) (y_fuse : Int32) (y_steps : Int32) (y_many : Int32) (y_log : Int32) (y_before : Int32) (y_home : Nat → Int32) (y_base : Nat → Int32) (y_now : Nat → Int32) (y_kinds : Nat → Int32) (y_blocks : Nat → Int32) (y_runs : Nat → Int32) (y_revokes : Nat → Int32) (y_from : Nat → Int32) (y_uses : Nat → Int32) (y_revoked : Nat → Int32) (y_had : Nat → Int32) (y_data : Nat → Int32) (x3 : Int32) (x4 : Int32) (x5 : Int32) (y_thrown_i : Int32) (y_off_i : Int32) (y_fuse_i : Int32) (y_steps_i : Int32) (y_many_i : Int32) (y_log_i : Int32) (y_before_i : Int32) (y_home_i : Nat → Int32) (y_base_i : Nat → Int32) (y_now_i : Nat → Int32) (y_kinds_i : Nat → Int32) (y_blocks_i : Nat → Int32) (y_runs_i : Nat → Int32) (y_revokes_i : Nat → Int32) (v_58 : Int32) (v_71 : Int32) (r_72 : Int32) (v_86 : Int32) (r_87 : Int32) (y_off_87 : Int32) (y_fuse_87 : Int32) (y_steps_87 : Int32) (y_many_87 : Int32) (y_base_87 : Nat → Int32) (y_kinds_87 : Nat → Int32) (y_blocks_87 : Nat → Int32) (y_runs_87 : Nat → Int32) (y_revokes_87 : Nat → Int32) (v_119 : Int32) (hpre : pr_M_mount a_bits (y_thrown, y_ring, y_off, y_fuse, y_steps, y_many, y_log, y_before, y_home, y_base, y_now, y_kinds, y_blocks, y_runs, y_revokes, y_from, y_uses, y_revoked, y_had, y_data)) (hinv : iv_M_mount_48 a_bits (y_thrown, y_ring, y_off, y_fuse, y_steps, y_many, y_log, y_before, y_home, y_base, y_now, y_kinds, y_blocks, y_runs, y_revokes, y_from, y_uses, y_revoked, y_had, y_data) x3 x4 x5 (y_thrown_i, y_ring, y_off_i, y_fuse_i, y_steps_i, y_many_i, y_log_i, y_before_i, y_home_i, y_base_i, y_now_i, y_kinds_i, y_blocks_i, y_runs_i, y_revokes_i, y_from, y_uses, y_revoked, y_had, y_data)) (e_58 : v_58 = (y_from ((x4 + 1)).toNatClampNeg)) (c_59 : ¬ v_58 ≤ x5) (e_71 : v_71 = (y_had (x5).toNatClampNeg)) (w_72 : po_M_isRevoked x4 v_71 (y_thrown_i, y_ring, y_off_i, y_fuse_i, y_steps_i, y_many_i, y_log_i, y_before_i, y_home_i, y_base_i, y_now_i, y_kinds_i, y_blocks_i, y_runs_i, y_revokes_i, y_from, y_uses, y_revoked, y_had, y_data) r_72) (c_75 : r_72 = 0) (e_86 : v_86 = (y_had (x5).toNatClampNeg)) (w_87 : po_M_step 0 v_86 (y_thrown_i, y_ring, y_off_i, y_fuse_i, y_steps_i, y_many_i, y_log_i, y_before_i, y_home_i, y_base_i, y_now_i, y_kinds_i, y_blocks_i, y_runs_i, y_revokes_i, y_from, y_uses, y_revoked, y_had, y_data) r_87 (y_thrown_i, y_ring, y_off_87, y_fuse_87, y_steps_87, y_many_87, y_log_i, y_before_i, y_home_i, y_base_87, y_now_i, y_kinds_87, y_blocks_87, y_runs_87, y_revokes_87, y_from, y_uses, y_revoked, y_had, y_data)) (c_90 : ¬ r_87 = 0) (e_119 : v_119 = (y_had (x5).toNatClampNeg)) : pr_M_copy (256 * x5) (256 * v_119) 256 51200 16384 y_data y_home_i := by
  obtain ⟨c_9, ew, t, N, K, htN, hN, hlg, rfl, rfl, hK, h⟩ := hinv
  have el : y_log_i = nI N := hlg
  have ew : y_now_i = y_now := ew
  obtain ⟨σ, hr, hsw⟩ := hpre
  obtain ⟨ring, run, rev, now, d, g⟩ := σ
  obtain ⟨en, wo, d2, b, hb, eK, h2, rs, rl, w2, hh, o2⟩ := h ring run rev now d g hr hsw
  have off := m_off hr c_9
  have lf := lw_fst (t := t) wo (by rw [en]; exact htN)
  have ef : v_58 = nI ((mtG a_bits d g).2.2.2.2.1 t + cnt ((mtG a_bits d g).2.1 t)) := by
    rw [e_58, nI_1, nI_clamp (by omega), ← lf.1]
    exact l_frm rl (by rw [en]; omega)
  have c59 : K < (mtG a_bits d g).2.2.2.2.1 t + cnt ((mtG a_bits d g).2.1 t) := by
    rcases Nat.lt_or_ge K ((mtG a_bits d g).2.2.2.2.1 t + cnt ((mtG a_bits d g).2.1 t)) with z | z
    · exact z
    · exact absurd (by rw [ef]; exact nI_le z (by omega)) c_59
  obtain ⟨c, n1, n2, n3, n4, n5⟩ := nxt hb (x := (mtG a_bits d g).2.1 t) (by omega)
  have eh1 : y_had K = nI c := by
    have q := l_had rl (by rw [en]; exact htN) n2 n3
    rw [n4, ← eK] at q
    exact q
  rw [nI_clamp (n := K) (by omega), eh1] at e_119
  have ed : y_data = (mtG a_bits d g).2.2.2.2.2 := l_dat rl
  exact ⟨256 * K, 256 * c, 256, pk_mul 256 K, by rw [e_119]; exact pk_mul 256 c, rfl, by omega, by omega, by decide, by decide, by rw [ed]; exact (okG_n (n := (mtG a_bits d g).1) wo).2.2.2⟩
theorem vc_M_mount_133_1 (a_bits : Int64) (y_thrown : Int32) (y_ring : Int32) (y_off : Int32) (y_fuse : Int32) (y_steps : Int32) (y_many : Int32) (y_log : Int32) (y_before : Int32) (y_home : Nat → Int32) (y_base : Nat → Int32) (y_now : Nat → Int32) (y_kinds : Nat → Int32) (y_blocks : Nat → Int32) (y_runs : Nat → Int32) (y_revokes : Nat → Int32) (y_from : Nat → Int32) (y_uses : Nat → Int32) (y_revoked : Nat → Int32) (y_had : Nat → Int32) (y_data : Nat → Int32) (x3 : Int32) (x4 : Int32) (x5 : Int32) (y_thrown_i : Int32) (y_off_i : Int32) (y_fuse_i : Int32) (y_steps_i : Int32) (y_many_i : Int32) (y_log_i : Int32) (y_before_i : Int32) (y_home_i : Nat → Int32) (y_base_i : Nat → Int32) (y_now_i : Nat → Int32) (y_kinds_i : Nat → Int32) (y_blocks_i : Nat → Int32) (y_runs_i : Nat → Int32) (y_revokes_i : Nat → Int32) (v_58 : Int32) (v_71 : Int32) (r_72 : Int32) (v_86 : Int32) (r_87 : Int32) (y_off_87 : Int32) (y_fuse_87 : Int32) (y_steps_87 : Int32) (y_many_87 : Int32) (y_base_87 : Nat → Int32) (y_kinds_87 : Nat → Int32) (y_blocks_87 : Nat → Int32) (y_runs_87 : Nat → Int32) (y_revokes_87 : Nat → Int32) (v_119 : Int32) (b_ar_124 : Nat → Int32) (v_127 : Int32) (v_130 : Int32) (hpre : pr_M_mount a_bits (y_thrown, y_ring, y_off, y_fuse, y_steps, y_many, y_log, y_before, y_home, y_base, y_now, y_kinds, y_blocks, y_runs, y_revokes, y_from, y_uses, y_revoked, y_had, y_data)) (hinv : iv_M_mount_48 a_bits (y_thrown, y_ring, y_off, y_fuse, y_steps, y_many, y_log, y_before, y_home, y_base, y_now, y_kinds, y_blocks, y_runs, y_revokes, y_from, y_uses, y_revoked, y_had, y_data) x3 x4 x5 (y_thrown_i, y_ring, y_off_i, y_fuse_i, y_steps_i, y_many_i, y_log_i, y_before_i, y_home_i, y_base_i, y_now_i, y_kinds_i, y_blocks_i, y_runs_i, y_revokes_i, y_from, y_uses, y_revoked, y_had, y_data)) (e_58 : v_58 = (y_from ((x4 + 1)).toNatClampNeg)) (c_59 : ¬ v_58 ≤ x5) (e_71 : v_71 = (y_had (x5).toNatClampNeg)) (w_72 : po_M_isRevoked x4 v_71 (y_thrown_i, y_ring, y_off_i, y_fuse_i, y_steps_i, y_many_i, y_log_i, y_before_i, y_home_i, y_base_i, y_now_i, y_kinds_i, y_blocks_i, y_runs_i, y_revokes_i, y_from, y_uses, y_revoked, y_had, y_data) r_72) (c_75 : r_72 = 0) (e_86 : v_86 = (y_had (x5).toNatClampNeg)) (w_87 : po_M_step 0 v_86 (y_thrown_i, y_ring, y_off_i, y_fuse_i, y_steps_i, y_many_i, y_log_i, y_before_i, y_home_i, y_base_i, y_now_i, y_kinds_i, y_blocks_i, y_runs_i, y_revokes_i, y_from, y_uses, y_revoked, y_had, y_data) r_87 (y_thrown_i, y_ring, y_off_87, y_fuse_87, y_steps_87, y_many_87, y_log_i, y_before_i, y_home_i, y_base_87, y_now_i, y_kinds_87, y_blocks_87, y_runs_87, y_revokes_87, y_from, y_uses, y_revoked, y_had, y_data)) (c_90 : ¬ r_87 = 0) (e_119 : v_119 = (y_had (x5).toNatClampNeg)) (w_124 : po_M_copy (256 * x5) (256 * v_119) 256 51200 16384 y_data y_home_i y_data b_ar_124) (e_127 : v_127 = x3 + 1) (e_130 : v_130 = x5 + 1) : iv_M_mount_48 a_bits (y_thrown, y_ring, y_off, y_fuse, y_steps, y_many, y_log, y_before, y_home, y_base, y_now, y_kinds, y_blocks, y_runs, y_revokes, y_from, y_uses, y_revoked, y_had, y_data) v_127 x4 v_130 (y_thrown_i, y_ring, y_off_87, y_fuse_87, y_steps_87, y_many_87, y_log_i, y_before_i, b_ar_124, y_base_87, y_now_i, y_kinds_87, y_blocks_87, y_runs_87, y_revokes_87, y_from, y_uses, y_revoked, y_had, y_data) ∧ mu_M_mount_48 a_bits (y_thrown, y_ring, y_off, y_fuse, y_steps, y_many, y_log, y_before, y_home, y_base, y_now, y_kinds, y_blocks, y_runs, y_revokes, y_from, y_uses, y_revoked, y_had, y_data) v_127 x4 v_130 (y_thrown_i, y_ring, y_off_87, y_fuse_87, y_steps_87, y_many_87, y_log_i, y_before_i, b_ar_124, y_base_87, y_now_i, y_kinds_87, y_blocks_87, y_runs_87, y_revokes_87, y_from, y_uses, y_revoked, y_had, y_data) < mu_M_mount_48 a_bits (y_thrown, y_ring, y_off, y_fuse, y_steps, y_many, y_log, y_before, y_home, y_base, y_now, y_kinds, y_blocks, y_runs, y_revokes, y_from, y_uses, y_revoked, y_had, y_data) x3 x4 x5 (y_thrown_i, y_ring, y_off_i, y_fuse_i, y_steps_i, y_many_i, y_log_i, y_before_i, y_home_i, y_base_i, y_now_i, y_kinds_i, y_blocks_i, y_runs_i, y_revokes_i, y_from, y_uses, y_revoked, y_had, y_data) := by
  obtain ⟨c_9, ew, t, N, K, htN, hN, hlg, rfl, rfl, hK, h⟩ := hinv
  have el : y_log_i = nI N := hlg
  have ew : y_now_i = y_now := ew
  have hK1 : K + 1 ≤ 199 := by
    obtain ⟨⟨ring, run, rev, now, d, g⟩, hr, hsw⟩ := hpre
    obtain ⟨en, wo, d2, b, hb, eK, h2, rs, rl, w2, hh, o2⟩ := h ring run rev now d g hr hsw
    have off := m_off hr c_9
    have lf := lw_fst (t := t) wo (by rw [en]; exact htN)
    have ef : v_58 = nI ((mtG a_bits d g).2.2.2.2.1 t + cnt ((mtG a_bits d g).2.1 t)) := by
      rw [e_58, nI_1, nI_clamp (by omega), ← lf.1]
      exact l_frm rl (by rw [en]; omega)
    have c59 : K < (mtG a_bits d g).2.2.2.2.1 t + cnt ((mtG a_bits d g).2.1 t) := by
      rcases Nat.lt_or_ge K ((mtG a_bits d g).2.2.2.2.1 t + cnt ((mtG a_bits d g).2.1 t)) with z | z
      · exact z
      · exact absurd (by rw [ef]; exact nI_le z (by omega)) c_59
    obtain ⟨c, n1, n2, n3, n4, n5⟩ := nxt hb (x := (mtG a_bits d g).2.1 t) (by omega)
    omega
  refine ⟨⟨c_9, ew, t, N, K + 1, htN, hN, hlg, rfl, by rw [e_130]; exact nI_1 K, hK1, fun ring run rev now d g hr hsw => ?_⟩, ?_⟩
  · obtain ⟨en, wo, d2, b, hb, eK, h2, rs, rl, w2, hh, o2⟩ := h ring run rev now d g hr hsw
    have off := m_off hr c_9
    have lf := lw_fst (t := t) wo (by rw [en]; exact htN)
    have ef : v_58 = nI ((mtG a_bits d g).2.2.2.2.1 t + cnt ((mtG a_bits d g).2.1 t)) := by
      rw [e_58, nI_1, nI_clamp (by omega), ← lf.1]
      exact l_frm rl (by rw [en]; omega)
    have c59 : K < (mtG a_bits d g).2.2.2.2.1 t + cnt ((mtG a_bits d g).2.1 t) := by
      rcases Nat.lt_or_ge K ((mtG a_bits d g).2.2.2.2.1 t + cnt ((mtG a_bits d g).2.1 t)) with z | z
      · exact z
      · exact absurd (by rw [ef]; exact nI_le z (by omega)) c_59
    obtain ⟨c, n1, n2, n3, n4, n5⟩ := nxt hb (x := (mtG a_bits d g).2.1 t) (by omega)
    have eh1 : y_had K = nI c := by
      have q := l_had rl (by rw [en]; exact htN) n2 n3
      rw [n4, ← eK] at q
      exact q
    rw [nI_clamp (n := K) (by omega), eh1] at e_71
    have wr := w_72 (mtG a_bits d g) t c rl (by rw [en]; exact hlg) wo rfl (by rw [en]; exact htN) e_71 n2
    have sk := rep_skip (g := mtG a_bits d g) (t := t) (lv := sLiving (mtG a_bits d g) t) (n := x3) (d := d2) (c - b) b (by omega) (fun e h1 h3 => lv_no (n5 e h1 (by omega)))
    rw [show b + (c - b) = c by omega, show 64 - c = (64 - (c + 1)) + 1 by omega] at sk
    rw [sk] at h2
    have z := b2i_0.mp (wr.symm.trans c_75)
    have lf1 : bitt (sLiving (mtG a_bits d g) t) c = true := by rw [living_e n2, z, n3]; rfl
    rw [nI_clamp (n := K) (by omega), eh1] at e_86
    have hl := hs_len64 hh
    obtain ⟨p1, p2⟩ := w_87 d2 0 0 0 c rs w2 (by omega) rfl (by decide) e_86 (fun _ => n2)
    have p1 : r_87 = b2i (sMark c d2).1 := p1
    have p2 : RMs (sMark c d2).2 0 0 _ := p2
    obtain ⟨m1, m2, m3⟩ := mark_home (b := c) (sp := sImg (mtG a_bits d g) t c) (f := (mtG a_bits d g).2.2.2.2.2) (d := d2)
    have eim : sImg (mtG a_bits d g) t c = 256 * K := by
      show ((mtG a_bits d g).2.2.2.2.1 t + rk ((mtG a_bits d g).2.1 t) c) * 256 = _
      rw [n4, ← eK, Nat.mul_comm]
    rw [nI_clamp (n := K) (by omega), eh1] at e_119
    have ed : y_data = (mtG a_bits d g).2.2.2.2.2 := l_dat rl
    have w := w_124 (256 * K) (256 * c) 256 (pk_mul 256 K) (by rw [e_119]; exact pk_mul 256 c) rfl (by omega) (by omega) (by decide) (by decide)
    have z1 := b2i_n0.mp (fun y => c_90 (p1.trans y))
    have m3 := m3 z1
    obtain ⟨k1, k2⟩ := DW_home (b := c) (sp := sImg (mtG a_bits d g) t c) w2 hh n2 (okG_n (n := (mtG a_bits d g).1) wo).2.2.2
    have ho := home_on (m1.trans z1)
    obtain ⟨r1, r2⟩ := RMs_home (h2 := b_ar_124) p2
    rw [rep_t lf1 (m1.trans z1), ← e_127] at h2
    refine ⟨en, wo, _, c + 1, by omega, by rw [rk_s, n3, if_pos rfl, n4]; omega, h2, ?_, rl, k1, k2, ho.trans o2⟩
    rw [m3, eim, ← r1, ← ed, ← w]
    exact r2
  · show 300 * (y_log_i.toNatClampNeg - (nI t).toNatClampNeg) - 1 - v_130.toNatClampNeg < 300 * (y_log_i.toNatClampNeg - (nI t).toNatClampNeg) - 1 - (nI K).toNatClampNeg
    rw [e_130, nI_1, el, nI_clamp (n := N) (by omega), nI_clamp (n := t) (by omega), nI_clamp (n := K + 1) (by omega), nI_clamp (n := K) (by omega)]
    omega
theorem vc_M_mount_94_0 (a_bits : Int64) (y_thrown : Int32) (y_ring : Int32) (y_off : Int32) (y_fuse : Int32) (y_steps : Int32) (y_many : Int32) (y_log : Int32) (y_before : Int32) (y_home : Nat → Int32) (y_base : Nat → Int32) (y_now : Nat → Int32) (y_kinds : Nat → Int32) (y_blocks : Nat → Int32) (y_runs : Nat → Int32) (y_revokes : Nat → Int32) (y_from : Nat → Int32) (y_uses : Nat → Int32) (y_revoked : Nat → Int32) (y_had : Nat → Int32) (y_data : Nat → Int32) (x3 : Int32) (x4 : Int32) (x5 : Int32) (y_thrown_i : Int32) (y_off_i : Int32) (y_fuse_i : Int32) (y_steps_i : Int32) (y_many_i : Int32) (y_log_i : Int32) (y_before_i : Int32) (y_home_i : Nat → Int32) (y_base_i : Nat → Int32) (y_now_i : Nat → Int32) (y_kinds_i : Nat → Int32) (y_blocks_i : Nat → Int32) (y_runs_i : Nat → Int32) (y_revokes_i : Nat → Int32) (v_58 : Int32) (v_71 : Int32) (r_72 : Int32) (v_86 : Int32) (r_87 : Int32) (y_off_87 : Int32) (y_fuse_87 : Int32) (y_steps_87 : Int32) (y_many_87 : Int32) (y_base_87 : Nat → Int32) (y_kinds_87 : Nat → Int32) (y_blocks_87 : Nat → Int32) (y_runs_87 : Nat → Int32) (y_revokes_87 : Nat → Int32) (hpre : pr_M_mount a_bits (y_thrown, y_ring, y_off, y_fuse, y_steps, y_many, y_log, y_before, y_home, y_base, y_now, y_kinds, y_blocks, y_runs, y_revokes, y_from, y_uses, y_revoked, y_had, y_data)) (hinv : iv_M_mount_48 a_bits (y_thrown, y_ring, y_off, y_fuse, y_steps, y_many, y_log, y_before, y_home, y_base, y_now, y_kinds, y_blocks, y_runs, y_revokes, y_from, y_uses, y_revoked, y_had, y_data) x3 x4 x5 (y_thrown_i, y_ring, y_off_i, y_fuse_i, y_steps_i, y_many_i, y_log_i, y_before_i, y_home_i, y_base_i, y_now_i, y_kinds_i, y_blocks_i, y_runs_i, y_revokes_i, y_from, y_uses, y_revoked, y_had, y_data)) (e_58 : v_58 = (y_from ((x4 + 1)).toNatClampNeg)) (c_59 : ¬ v_58 ≤ x5) (e_71 : v_71 = (y_had (x5).toNatClampNeg)) (w_72 : po_M_isRevoked x4 v_71 (y_thrown_i, y_ring, y_off_i, y_fuse_i, y_steps_i, y_many_i, y_log_i, y_before_i, y_home_i, y_base_i, y_now_i, y_kinds_i, y_blocks_i, y_runs_i, y_revokes_i, y_from, y_uses, y_revoked, y_had, y_data) r_72) (c_75 : r_72 = 0) (e_86 : v_86 = (y_had (x5).toNatClampNeg)) (w_87 : po_M_step 0 v_86 (y_thrown_i, y_ring, y_off_i, y_fuse_i, y_steps_i, y_many_i, y_log_i, y_before_i, y_home_i, y_base_i, y_now_i, y_kinds_i, y_blocks_i, y_runs_i, y_revokes_i, y_from, y_uses, y_revoked, y_had, y_data) r_87 (y_thrown_i, y_ring, y_off_87, y_fuse_87, y_steps_87, y_many_87, y_log_i, y_before_i, y_home_i, y_base_87, y_now_i, y_kinds_87, y_blocks_87, y_runs_87, y_revokes_87, y_from, y_uses, y_revoked, y_had, y_data)) (c_90 : r_87 = 0) : po_M_mount a_bits (y_thrown, y_ring, y_off, y_fuse, y_steps, y_many, y_log, y_before, y_home, y_base, y_now, y_kinds, y_blocks, y_runs, y_revokes, y_from, y_uses, y_revoked, y_had, y_data) (-1) (y_thrown_i, y_ring, y_off_87, y_fuse_87, y_steps_87, y_many_87, y_log_i, y_before_i, y_home_i, y_base_87, y_now_i, y_kinds_87, y_blocks_87, y_runs_87, y_revokes_87, y_from, y_uses, y_revoked, y_had, y_data) := by
  intro σ hr hsw
  obtain ⟨ring, run, rev, now, d, g⟩ := σ
  obtain ⟨c_9, ew, t, N, K, htN, hN, hlg, rfl, rfl, hK, h⟩ := hinv
  have el : y_log_i = nI N := hlg
  have ew : y_now_i = y_now := ew
  obtain ⟨en, wo, d2, b, hb, eK, h2, rs, rl, w2, hh, o2⟩ := h ring run rev now d g hr hsw
  have off := m_off hr c_9
  have lf := lw_fst (t := t) wo (by rw [en]; exact htN)
  have ef : v_58 = nI ((mtG a_bits d g).2.2.2.2.1 t + cnt ((mtG a_bits d g).2.1 t)) := by
    rw [e_58, nI_1, nI_clamp (by omega), ← lf.1]
    exact l_frm rl (by rw [en]; omega)
  have c59 : K < (mtG a_bits d g).2.2.2.2.1 t + cnt ((mtG a_bits d g).2.1 t) := by
    rcases Nat.lt_or_ge K ((mtG a_bits d g).2.2.2.2.1 t + cnt ((mtG a_bits d g).2.1 t)) with z | z
    · exact z
    · exact absurd (by rw [ef]; exact nI_le z (by omega)) c_59
  obtain ⟨c, n1, n2, n3, n4, n5⟩ := nxt hb (x := (mtG a_bits d g).2.1 t) (by omega)
  have eh1 : y_had K = nI c := by
    have q := l_had rl (by rw [en]; exact htN) n2 n3
    rw [n4, ← eK] at q
    exact q
  rw [nI_clamp (n := K) (by omega), eh1] at e_71
  have wr := w_72 (mtG a_bits d g) t c rl (by rw [en]; exact hlg) wo rfl (by rw [en]; exact htN) e_71 n2
  have sk := rep_skip (g := mtG a_bits d g) (t := t) (lv := sLiving (mtG a_bits d g) t) (n := x3) (d := d2) (c - b) b (by omega) (fun e h1 h3 => lv_no (n5 e h1 (by omega)))
  rw [show b + (c - b) = c by omega, show 64 - c = (64 - (c + 1)) + 1 by omega] at sk
  rw [sk] at h2
  have z := b2i_0.mp (wr.symm.trans c_75)
  have lf1 : bitt (sLiving (mtG a_bits d g) t) c = true := by rw [living_e n2, z, n3]; rfl
  rw [nI_clamp (n := K) (by omega), eh1] at e_86
  have hl := hs_len64 hh
  obtain ⟨p1, p2⟩ := w_87 d2 0 0 0 c rs w2 (by omega) rfl (by decide) e_86 (fun _ => n2)
  have p1 : r_87 = b2i (sMark c d2).1 := p1
  have p2 : RMs (sMark c d2).2 0 0 _ := p2
  obtain ⟨m1, m2, m3⟩ := mark_home (b := c) (sp := sImg (mtG a_bits d g) t c) (f := (mtG a_bits d g).2.2.2.2.2) (d := d2)
  have eim : sImg (mtG a_bits d g) t c = 256 * K := by
    show ((mtG a_bits d g).2.2.2.2.1 t + rk ((mtG a_bits d g).2.1 t) c) * 256 = _
    rw [n4, ← eK, Nat.mul_comm]
  have z1 := b2i_0.mp (p1.symm.trans c_90)
  have m2 := m2 z1
  obtain ⟨k1, k2⟩ := DW_home (b := c) (sp := sImg (mtG a_bits d g) t c) w2 hh n2 (okG_n (n := (mtG a_bits d g).1) wo).2.2.2
  have ho := home_off (m1.trans z1)
  rw [rep_f lf1 (m1.trans z1)] at h2
  rw [← en] at h2
  have er := rpl_f h2
  rw [fM_1 off (by rw [en]; omega), er]
  have zo := ho.1
  rw [← m2] at p2
  exact ⟨rfl, RM_mko p2 rl (RMn_hs k2 (by rw [en]; exact hlg)) hr.2.2.2.1 zo (by rw [ew]; exact cpy_t2 hr.2.2.2.2.2)⟩
theorem vc_M_mount_22_0 (a_bits : Int64) (y_thrown : Int32) (y_ring : Int32) (y_off : Int32) (y_fuse : Int32) (y_steps : Int32) (y_many : Int32) (y_log : Int32) (y_before : Int32) (y_home : Nat → Int32) (y_base : Nat → Int32) (y_now : Nat → Int32) (y_kinds : Nat → Int32) (y_blocks : Nat → Int32) (y_runs : Nat → Int32) (y_revokes : Nat → Int32) (y_from : Nat → Int32) (y_uses : Nat → Int32) (y_revoked : Nat → Int32) (y_had : Nat → Int32) (y_data : Nat → Int32) (hpre : pr_M_mount a_bits (y_thrown, y_ring, y_off, y_fuse, y_steps, y_many, y_log, y_before, y_home, y_base, y_now, y_kinds, y_blocks, y_runs, y_revokes, y_from, y_uses, y_revoked, y_had, y_data)) (c_9 : ¬ y_off = 0) : pr_M_down a_bits (0, y_ring, 0, y_fuse, y_steps, y_many, y_log, y_before, y_home, y_base, y_now, y_kinds, y_blocks, y_runs, y_revokes, y_from, y_uses, y_revoked, y_had, y_data) := by
  obtain ⟨σ, hr, hsw⟩ := hpre
  obtain ⟨ring, run, rev, now, d, g⟩ := σ
  obtain ⟨s1, s2, s3, s4⟩ := SW_wf hsw
  have off := m_off hr c_9
  exact ⟨(d.1, true, d.2.2), 0, 0, g.1, RMs_on hr.1 off, s1, s2, hr.2.2.1⟩
theorem vc_M_mount_28_0 (a_bits : Int64) (y_thrown : Int32) (y_ring : Int32) (y_off : Int32) (y_fuse : Int32) (y_steps : Int32) (y_many : Int32) (y_log : Int32) (y_before : Int32) (y_home : Nat → Int32) (y_base : Nat → Int32) (y_now : Nat → Int32) (y_kinds : Nat → Int32) (y_blocks : Nat → Int32) (y_runs : Nat → Int32) (y_revokes : Nat → Int32) (y_from : Nat → Int32) (y_uses : Nat → Int32) (y_revoked : Nat → Int32) (y_had : Nat → Int32) (y_data : Nat → Int32) (y_many_22 : Int32) (y_log_22 : Int32) (y_home_22 : Nat → Int32) (y_base_22 : Nat → Int32) (hpre : pr_M_mount a_bits (y_thrown, y_ring, y_off, y_fuse, y_steps, y_many, y_log, y_before, y_home, y_base, y_now, y_kinds, y_blocks, y_runs, y_revokes, y_from, y_uses, y_revoked, y_had, y_data)) (c_9 : ¬ y_off = 0) (w_22 : po_M_down a_bits (0, y_ring, 0, y_fuse, y_steps, y_many, y_log, y_before, y_home, y_base, y_now, y_kinds, y_blocks, y_runs, y_revokes, y_from, y_uses, y_revoked, y_had, y_data) (0, y_ring, 0, y_fuse, y_steps, y_many_22, y_log_22, y_before, y_home_22, y_base_22, y_now, y_kinds, y_blocks, y_runs, y_revokes, y_from, y_uses, y_revoked, y_had, y_data)) : iv_M_mount_30 a_bits (y_thrown, y_ring, y_off, y_fuse, y_steps, y_many, y_log, y_before, y_home, y_base, y_now, y_kinds, y_blocks, y_runs, y_revokes, y_from, y_uses, y_revoked, y_had, y_data) 0 0 (0, y_ring, 0, y_fuse, y_steps, y_many_22, y_log_22, y_before, y_home_22, y_base_22, y_now, y_kinds, y_blocks, y_runs, y_revokes, y_from, y_uses, y_revoked, y_had, y_data) ∧ True := by
  obtain ⟨N, wnf, b2f⟩ : ∃ N : Nat, N ≤ 99 ∧ y_log_22 = nI N := by
    obtain ⟨σ, hr, hsw⟩ := hpre
    obtain ⟨ring, run, rev, now, d, g⟩ := σ
    obtain ⟨s1, s2, s3, s4⟩ := SW_wf hsw
    have off := m_off hr c_9
    have uo := sw_uo hsw
    obtain ⟨b1, b2⟩ := w_22 (d.1, true, d.2.2) 0 0 g (RMs_on hr.1 off) s1 s2 uo hr.2.2.1 s3
    have b1 : RMs (mtD a_bits d) 0 0 _ := b1
    have b2 : lgN (mtG a_bits d g).1 _ := b2
    have wo : okG (mtG a_bits d g) := logM_wf s3
    have wn := (okG_n (n := (mtG a_bits d g).1) wo).1
    exact ⟨_, wn, b2⟩
  refine ⟨⟨c_9, rfl, 0, N, Nat.zero_le _, wnf, b2f, rfl, fun ring run rev now d g hr hsw => ?_⟩, trivial⟩
  obtain ⟨s1, s2, s3, s4⟩ := SW_wf hsw
  have off := m_off hr c_9
  have uo := sw_uo hsw
  obtain ⟨b1, b2⟩ := w_22 (d.1, true, d.2.2) 0 0 g (RMs_on hr.1 off) s1 s2 uo hr.2.2.1 s3
  have b1 : RMs (mtD a_bits d) 0 0 _ := b1
  have b2 : lgN (mtG a_bits d g).1 _ := b2
  have wo : okG (mtG a_bits d g) := logM_wf s3
  have wn := (okG_n (n := (mtG a_bits d g).1) wo).1
  have en := lgN_inj b2 b2f wn wnf
  exact ⟨en, wo, mtD a_bits d, by rw [Nat.sub_zero], b1, RMl_mt hr.2.1, settle_wf s1.2.2.1 s1.2.2.2, hs_nil, rfl⟩
theorem vc_M_mount_14_0 (a_bits : Int64) (y_thrown : Int32) (y_ring : Int32) (y_off : Int32) (y_fuse : Int32) (y_steps : Int32) (y_many : Int32) (y_log : Int32) (y_before : Int32) (y_home : Nat → Int32) (y_base : Nat → Int32) (y_now : Nat → Int32) (y_kinds : Nat → Int32) (y_blocks : Nat → Int32) (y_runs : Nat → Int32) (y_revokes : Nat → Int32) (y_from : Nat → Int32) (y_uses : Nat → Int32) (y_revoked : Nat → Int32) (y_had : Nat → Int32) (y_data : Nat → Int32) (hpre : pr_M_mount a_bits (y_thrown, y_ring, y_off, y_fuse, y_steps, y_many, y_log, y_before, y_home, y_base, y_now, y_kinds, y_blocks, y_runs, y_revokes, y_from, y_uses, y_revoked, y_had, y_data)) (c_9 : y_off = 0) : po_M_mount a_bits (y_thrown, y_ring, y_off, y_fuse, y_steps, y_many, y_log, y_before, y_home, y_base, y_now, y_kinds, y_blocks, y_runs, y_revokes, y_from, y_uses, y_revoked, y_had, y_data) (-2) (0, y_ring, y_off, y_fuse, y_steps, y_many, y_log, y_before, y_home, y_base, y_now, y_kinds, y_blocks, y_runs, y_revokes, y_from, y_uses, y_revoked, y_had, y_data) := by
  intro σ hr hsw
  obtain ⟨ring, run, rev, now, d, g⟩ := σ
  have o := m_on hr c_9
  have e : fMount a_bits (ring, run, rev, now, d, g) = (-2, (ring, run, rev, now, d, g)) := by
    obtain ⟨u, on, fu, st, ba, ho⟩ := d
    exact if_pos o
  rw [e]
  exact ⟨rfl, hr⟩
