/-! the reference's calls: what they stand on -/
section MC
variable {ring : Nat} {run rev run2 rev2 : Int64} {now now2 : Nat → Int32} {d : Dk} {g : Lg} {th th2 rg off fuse steps many log before : Int32} {home base nw kinds blocks runs revokes frm uses revoked had data runs2 revokes2 : Nat → Int32}
theorem m_on (h : RM (ring, run, rev, now, d, g) (th, rg, off, fuse, steps, many, log, before, home, base, nw, kinds, blocks, runs, revokes, frm, uses, revoked, had, data)) (c : off = 0) : d.2.1 = true := by
  obtain ⟨u, on, f, st, ba, ho⟩ := d
  have e : off = b2i (!on) := h.1.1
  have e2 := b2i_0.mp (e.symm.trans c)
  cases on
  · cases e2
  · rfl
theorem m_off (h : RM (ring, run, rev, now, d, g) (th, rg, off, fuse, steps, many, log, before, home, base, nw, kinds, blocks, runs, revokes, frm, uses, revoked, had, data)) (c : ¬ off = 0) : d.2.1 = false := by
  obtain ⟨u, on, f, st, ba, ho⟩ := d
  have e : off = b2i (!on) := h.1.1
  have e2 := b2i_n0.mp (fun z => c (e.trans z))
  cases on
  · rfl
  · cases e2
theorem m_al (h : RM (ring, run, rev, now, d, g) (th, rg, off, fuse, steps, many, log, before, home, base, nw, kinds, blocks, runs, revokes, frm, uses, revoked, had, data)) (s : SW (ring, run, rev, now, d, g)) (c : off = 0) : d.2.1 = true ∧ rowOf run runs ∧ rowOf rev revokes ∧ nw = now ∧ home = d.2.2.2.2.2 ∧ lgN g.1 (th, rg, off, fuse, steps, many, log, before, home, base, nw, kinds, blocks, runs, revokes, frm, uses, revoked, had, data) ∧ d.1 = [] ∧ DW d ∧ okG g ∧ cnt run ≤ 30 ∧ cnt rev ≤ 30 ∧ sb_Fit now ∧ rg = nI ring ∧ ring ≤ 200 ∧ run &&& rev = 0 := by
  have o := m_on h c
  obtain ⟨s1, s2, s3, s4⟩ := SW_wf s
  have hn := s4 o
  obtain ⟨u, on, f, st, ba, ho⟩ := d
  have o : on = true := o
  subst o
  have hn : u = [] := hn
  subst hn
  obtain ⟨h1, h2, h3, h4⟩ := h
  obtain ⟨q1, q2, q3, q4, q5, q6, q7, q8⟩ := h1
  have h3 : log = nI g.1 := h3
  exact ⟨rfl, q7, q8, h4.2.1 rfl, q5, h3, rfl, s1, s3, s.2.2.2.1, s.2.2.2.2.1, s.2.2.2.2.2.2.2.1, h4.1, s.2.1, s.2.2.1⟩
theorem RM_upd (h : RM (ring, run, rev, now, d, g) (th, rg, off, fuse, steps, many, log, before, home, base, nw, kinds, blocks, runs, revokes, frm, uses, revoked, had, data)) (o : d.2.1 = true) (h1 : rowOf run2 runs2) (h2 : rowOf rev2 revokes2) : RM (ring, run2, rev2, now2, d, g) (th2, rg, off, fuse, steps, many, log, before, home, base, now2, kinds, blocks, runs2, revokes2, frm, uses, revoked, had, data) := by
  obtain ⟨u, on, f, st, ba, ho⟩ := d
  have o : on = true := o
  subst o
  obtain ⟨⟨q1, q2, q3, q4, q5, q6, q7, q8⟩, k2, k3, k4⟩ := h
  exact ⟨⟨q1, q2, q3, q4, q5, q6, h1, h2⟩, k2, k3, k4.1, fun _ => rfl, fun _ _ => rfl⟩
end MC
theorem row_set {x : Int64} {r : Nat → Int32} {q : Nat} (h : rowOf x r) (hq : q < 64) : rowOf (x ||| bit1 q) (upd r q (vp_nar .boolean 1)) := by
  intro b hb
  rw [nz1, bt_or, bt_bit1 hq]
  by_cases e : b = q
  · subst e; rw [pk_us, decide_eq_true rfl, Bool.or_true]; rfl
  · rw [pk_un e, decide_eq_false e, Bool.or_false]; exact h b hb
theorem row_clr {x : Int64} {r : Nat → Int32} {q : Nat} (h : rowOf x r) (hq : q < 64) : rowOf (x &&& (bit1 q ^^^ (-1))) (upd r q (vp_nar .boolean 0)) := by
  intro b hb
  rw [nz0, bt_and, bt_not _ hb, bt_bit1 hq]
  by_cases e : b = q
  · subst e; rw [pk_us, decide_eq_true rfl, Bool.not_true, Bool.and_false]; rfl
  · rw [pk_un e, decide_eq_false e, Bool.not_false, Bool.and_true]; exact h b hb
theorem row_at {x : Int64} {r : Nat → Int32} {q : Nat} {v : Int32} (h : rowOf x r) (hq : q < 64) (e : v = r (nI q).toNatClampNeg) : v = b2i (bitt x q) := by
  rw [nI_clamp (by omega)] at e
  rw [e]; exact h q hq
theorem nb_y {b r : Int32} (w : po_M_noBlock b r) (c : ¬ r = 0) : b < 0 ∨ 64 ≤ b := by
  have w : r = if b < 0 ∨ 64 ≤ b then 1 else 0 := w
  by_cases h : b < 0 ∨ 64 ≤ b
  · exact h
  · rw [if_neg h] at w; exact absurd w c
theorem nb_n {b r : Int32} (w : po_M_noBlock b r) (c : r = 0) : ∃ q : Nat, q < 64 ∧ b = nI q ∧ ¬ (b < 0 ∨ 64 ≤ b) := by
  have w : r = if b < 0 ∨ 64 ≤ b then 1 else 0 := w
  have h : ¬ (b < 0 ∨ 64 ≤ b) := fun h => by
    rw [if_pos h] at w
    exact absurd (w.symm.trans c) (by decide)
  obtain ⟨q, h1, h2⟩ := home_of h
  exact ⟨q, h1, h2, h⟩
theorem wr_n {n : Int32} (h1 : ¬ n < 1) (h2 : ¬ 256 < n) : ∃ y : Nat, n = nI y ∧ 1 ≤ y ∧ y ≤ 256 := by
  have e : (256 : Int32) - nI 0 = 256 := by decide
  exact n_of (x := 0) (by decide) h1 (by rw [e]; exact h2)
theorem wr_big {a n : Int32} (h : 256 < n) : a < 0 ∨ 256 ≤ a ∨ n < 1 ∨ 256 - a < n := by
  by_cases c : a < 0 ∨ 256 ≤ a
  · exact c.elim Or.inl (fun y => Or.inr (Or.inl y))
  · obtain ⟨x, hx, rfl⟩ := byte_of c
    have e : (256 : Int32) - nI x = nI (256 - x) := pk_sub (a := 256) (by omega)
    refine Or.inr (Or.inr (Or.inr ?_))
    rw [e]
    exact Int32.lt_of_le_of_lt (nI_le (a := 256 - x) (b := 256) (by omega) (by decide)) h
theorem wr_out {a n : Int32} (h1 : ¬ n < 1) (h2 : ¬ 256 < n) (h : 256 - n < a) : a < 0 ∨ 256 ≤ a ∨ n < 1 ∨ 256 - a < n := by
  by_cases c : a < 0 ∨ 256 ≤ a
  · exact c.elim Or.inl (fun y => Or.inr (Or.inl y))
  · obtain ⟨x, hx, rfl⟩ := byte_of c
    obtain ⟨y, rfl, hy1, hy2⟩ := wr_n h1 h2
    have e : (256 : Int32) - nI x = nI (256 - x) := pk_sub (a := 256) (by omega)
    have e2 : (256 : Int32) - nI y = nI (256 - y) := pk_sub (a := 256) (by omega)
    rw [e2] at h
    refine Or.inr (Or.inr (Or.inr ?_))
    rw [e]
    refine nI_lt ?_ (by omega)
    rcases Nat.lt_or_ge (256 - x) y with z | z
    · exact z
    · exact absurd h (Int32.not_lt.mpr (nI_le (a := x) (b := 256 - y) (by omega) (by omega)))
theorem wr_in {a n : Int32} (h1 : ¬ n < 1) (h2 : ¬ 256 < n) (h3 : ¬ a < 0) (h : ¬ 256 - n < a) : ∃ x y : Nat, a = nI x ∧ n = nI y ∧ 1 ≤ y ∧ x + y ≤ 256 ∧ ¬ 256 ≤ a ∧ ¬ 256 - a < n := by
  obtain ⟨y, rfl, hy1, hy2⟩ := wr_n h1 h2
  obtain ⟨x, hx, rfl⟩ := nI_of h3
  have e2 : (256 : Int32) - nI y = nI (256 - y) := pk_sub (a := 256) (by omega)
  rw [e2] at h
  have hx2 : x + y ≤ 256 := by
    rcases Nat.lt_or_ge (256 - y) x with z | z
    · exact absurd (nI_lt z hx) h
    · omega
  have e : (256 : Int32) - nI x = nI (256 - x) := pk_sub (a := 256) (by omega)
  refine ⟨x, y, rfl, rfl, hy1, hx2, ?_, ?_⟩
  · exact fun z => absurd ((nI_leI (a := 256) (by decide) (by omega)).mp z) (by omega)
  · rw [e]
    exact fun z => absurd (nI_le (a := y) (b := 256 - x) (by omega) (by omega)) (Int32.not_le.mpr z)

def iv_M_write_100 (b a n v : Int32) : MDt → Int32 → MDt → Prop
  | (_, _, off, _, _, _, _, _, _, _, nw, _, _, runs, revokes, _, _, _, _, _), x6, (_, _, _, _, _, _, _, _, _, _, nw2, _, _, runs2, revokes2, _, _, _, _, _) => ∃ x y q k : Nat, q < 64 ∧ b = nI q ∧ a = nI x ∧ n = nI y ∧ 1 ≤ y ∧ x + y ≤ 256 ∧ ¬ v < 0 ∧ v ≤ 255 ∧ runs2 = runs ∧ revokes2 = revokes ∧ x6 = nI k ∧ k ≤ y ∧ nw2 = fillF nw (256 * q + x) k v.toInt8.toInt32 ∧ True ∧ off = 0 ∧ ¬ (nI q < 0 ∨ 64 ≤ nI q ∨ nI x < 0 ∨ 256 ≤ nI x ∨ nI y < 1 ∨ 256 - nI x < nI y ∨ v < 0 ∨ 255 < v) ∧ ∀ run : Int64, rowOf run runs → cnt run ≤ 30 → ¬ (bitt run q = false ∧ 30 ≤ cnt run)
def mu_M_write_100 (_ _ n _ : Int32) (_ : MDt) (x6 : Int32) (_ : MDt) : Nat := n.toNatClampNeg - x6.toNatClampNeg
theorem wr_lift {b a n v : Int32} (h : a < 0 ∨ 256 ≤ a ∨ n < 1 ∨ 256 - a < n) : b < 0 ∨ 64 ≤ b ∨ a < 0 ∨ 256 ≤ a ∨ n < 1 ∨ 256 - a < n ∨ v < 0 ∨ 255 < v := by
  rcases h with h | h | h | h
  · exact Or.inr (Or.inr (Or.inl h))
  · exact Or.inr (Or.inr (Or.inr (Or.inl h)))
  · exact Or.inr (Or.inr (Or.inr (Or.inr (Or.inl h))))
  · exact Or.inr (Or.inr (Or.inr (Or.inr (Or.inr (Or.inl h)))))
theorem wr_no {b a n v : Int32} (h1 : ¬ (b < 0 ∨ 64 ≤ b)) (h2 : ¬ a < 0) (h3 : ¬ 256 ≤ a) (h4 : ¬ n < 1) (h5 : ¬ 256 - a < n) (h6 : ¬ v < 0) (h7 : ¬ 255 < v) : ¬ (b < 0 ∨ 64 ≤ b ∨ a < 0 ∨ 256 ≤ a ∨ n < 1 ∨ 256 - a < n ∨ v < 0 ∨ 255 < v) := by
  rintro (h | h | h | h | h | h | h | h)
  · exact h1 (Or.inl h)
  · exact h1 (Or.inr h)
  · exact h2 h
  · exact h3 h
  · exact h4 h
  · exact h5 h
  · exact h6 h
  · exact h7 h
theorem nar8 (v : Int32) : vp_nar .byte v.toInt8.toInt32 = v.toInt8.toInt32 := by
  rw [vp_nar_byte]
  simp

theorem vc_M_write_136_0 (a_b : Int32) (a_a : Int32) (a_n : Int32) (a_v : Int32) (y_thrown : Int32) (y_ring : Int32) (y_off : Int32) (y_fuse : Int32) (y_steps : Int32) (y_many : Int32) (y_log : Int32) (y_before : Int32) (y_home : Nat → Int32) (y_base : Nat → Int32) (y_now : Nat → Int32) (y_kinds : Nat → Int32) (y_blocks : Nat → Int32) (y_runs : Nat → Int32) (y_revokes : Nat → Int32) (y_from : Nat → Int32) (y_uses : Nat → Int32) (y_revoked : Nat → Int32) (y_had : Nat → Int32) (y_data : Nat → Int32) (x6 : Int32) (y_thrown_i : Int32) (y_now_i : Nat → Int32) (y_runs_i : Nat → Int32) (y_revokes_i : Nat → Int32) (hpre : pr_M_write a_b a_a a_n a_v (y_thrown, y_ring, y_off, y_fuse, y_steps, y_many, y_log, y_before, y_home, y_base, y_now, y_kinds, y_blocks, y_runs, y_revokes, y_from, y_uses, y_revoked, y_had, y_data)) (hinv : iv_M_write_100 a_b a_a a_n a_v (y_thrown, y_ring, y_off, y_fuse, y_steps, y_many, y_log, y_before, y_home, y_base, y_now, y_kinds, y_blocks, y_runs, y_revokes, y_from, y_uses, y_revoked, y_had, y_data) x6 (y_thrown_i, y_ring, y_off, y_fuse, y_steps, y_many, y_log, y_before, y_home, y_base, y_now_i, y_kinds, y_blocks, y_runs_i, y_revokes_i, y_from, y_uses, y_revoked, y_had, y_data)) (c_103 : a_n ≤ x6) : vp_in a_b 64 := by
  obtain ⟨x, y, q, k, hq, rfl, rfl, rfl, hy, hxy, hv1, hv2, rfl, rfl, rfl, hk, rfl, -, hoff, hb⟩ := hinv
  exact vp_in_nI (by omega) (by decide)
theorem vc_M_write_143_0 (a_b : Int32) (a_a : Int32) (a_n : Int32) (a_v : Int32) (y_thrown : Int32) (y_ring : Int32) (y_off : Int32) (y_fuse : Int32) (y_steps : Int32) (y_many : Int32) (y_log : Int32) (y_before : Int32) (y_home : Nat → Int32) (y_base : Nat → Int32) (y_now : Nat → Int32) (y_kinds : Nat → Int32) (y_blocks : Nat → Int32) (y_runs : Nat → Int32) (y_revokes : Nat → Int32) (y_from : Nat → Int32) (y_uses : Nat → Int32) (y_revoked : Nat → Int32) (y_had : Nat → Int32) (y_data : Nat → Int32) (x6 : Int32) (y_thrown_i : Int32) (y_now_i : Nat → Int32) (y_runs_i : Nat → Int32) (y_revokes_i : Nat → Int32) (hpre : pr_M_write a_b a_a a_n a_v (y_thrown, y_ring, y_off, y_fuse, y_steps, y_many, y_log, y_before, y_home, y_base, y_now, y_kinds, y_blocks, y_runs, y_revokes, y_from, y_uses, y_revoked, y_had, y_data)) (hinv : iv_M_write_100 a_b a_a a_n a_v (y_thrown, y_ring, y_off, y_fuse, y_steps, y_many, y_log, y_before, y_home, y_base, y_now, y_kinds, y_blocks, y_runs, y_revokes, y_from, y_uses, y_revoked, y_had, y_data) x6 (y_thrown_i, y_ring, y_off, y_fuse, y_steps, y_many, y_log, y_before, y_home, y_base, y_now_i, y_kinds, y_blocks, y_runs_i, y_revokes_i, y_from, y_uses, y_revoked, y_had, y_data)) (c_103 : a_n ≤ x6) : vp_in a_b 64 := by
  obtain ⟨x, y, q, k, hq, rfl, rfl, rfl, hy, hxy, hv1, hv2, rfl, rfl, rfl, hk, rfl, -, hoff, hb⟩ := hinv
  exact vp_in_nI (by omega) (by decide)
theorem vc_M_write_149_0 (a_b : Int32) (a_a : Int32) (a_n : Int32) (a_v : Int32) (y_thrown : Int32) (y_ring : Int32) (y_off : Int32) (y_fuse : Int32) (y_steps : Int32) (y_many : Int32) (y_log : Int32) (y_before : Int32) (y_home : Nat → Int32) (y_base : Nat → Int32) (y_now : Nat → Int32) (y_kinds : Nat → Int32) (y_blocks : Nat → Int32) (y_runs : Nat → Int32) (y_revokes : Nat → Int32) (y_from : Nat → Int32) (y_uses : Nat → Int32) (y_revoked : Nat → Int32) (y_had : Nat → Int32) (y_data : Nat → Int32) (x6 : Int32) (y_thrown_i : Int32) (y_now_i : Nat → Int32) (y_runs_i : Nat → Int32) (y_revokes_i : Nat → Int32) (hpre : pr_M_write a_b a_a a_n a_v (y_thrown, y_ring, y_off, y_fuse, y_steps, y_many, y_log, y_before, y_home, y_base, y_now, y_kinds, y_blocks, y_runs, y_revokes, y_from, y_uses, y_revoked, y_had, y_data)) (hinv : iv_M_write_100 a_b a_a a_n a_v (y_thrown, y_ring, y_off, y_fuse, y_steps, y_many, y_log, y_before, y_home, y_base, y_now, y_kinds, y_blocks, y_runs, y_revokes, y_from, y_uses, y_revoked, y_had, y_data) x6 (y_thrown_i, y_ring, y_off, y_fuse, y_steps, y_many, y_log, y_before, y_home, y_base, y_now_i, y_kinds, y_blocks, y_runs_i, y_revokes_i, y_from, y_uses, y_revoked, y_had, y_data)) (c_103 : a_n ≤ x6) : pr_M_size (upd y_runs_i (a_b).toNatClampNeg (vp_nar .boolean 1)) := by
  trivial
theorem vc_M_write_152_0 (a_b : Int32) (a_a : Int32) (a_n : Int32) (a_v : Int32) (y_thrown : Int32) (y_ring : Int32) (y_off : Int32) (y_fuse : Int32) (y_steps : Int32) (y_many : Int32) (y_log : Int32) (y_before : Int32) (y_home : Nat → Int32) (y_base : Nat → Int32) (y_now : Nat → Int32) (y_kinds : Nat → Int32) (y_blocks : Nat → Int32) (y_runs : Nat → Int32) (y_revokes : Nat → Int32) (y_from : Nat → Int32) (y_uses : Nat → Int32) (y_revoked : Nat → Int32) (y_had : Nat → Int32) (y_data : Nat → Int32) (x6 : Int32) (y_thrown_i : Int32) (y_now_i : Nat → Int32) (y_runs_i : Nat → Int32) (y_revokes_i : Nat → Int32) (r_149 : Int32) (hpre : pr_M_write a_b a_a a_n a_v (y_thrown, y_ring, y_off, y_fuse, y_steps, y_many, y_log, y_before, y_home, y_base, y_now, y_kinds, y_blocks, y_runs, y_revokes, y_from, y_uses, y_revoked, y_had, y_data)) (hinv : iv_M_write_100 a_b a_a a_n a_v (y_thrown, y_ring, y_off, y_fuse, y_steps, y_many, y_log, y_before, y_home, y_base, y_now, y_kinds, y_blocks, y_runs, y_revokes, y_from, y_uses, y_revoked, y_had, y_data) x6 (y_thrown_i, y_ring, y_off, y_fuse, y_steps, y_many, y_log, y_before, y_home, y_base, y_now_i, y_kinds, y_blocks, y_runs_i, y_revokes_i, y_from, y_uses, y_revoked, y_had, y_data)) (c_103 : a_n ≤ x6) (w_149 : po_M_size (upd y_runs_i (a_b).toNatClampNeg (vp_nar .boolean 1)) r_149) : po_M_write a_b a_a a_n a_v (y_thrown, y_ring, y_off, y_fuse, y_steps, y_many, y_log, y_before, y_home, y_base, y_now, y_kinds, y_blocks, y_runs, y_revokes, y_from, y_uses, y_revoked, y_had, y_data) r_149 (y_thrown_i, y_ring, y_off, y_fuse, y_steps, y_many, y_log, y_before, y_home, y_base, y_now_i, y_kinds, y_blocks, (upd y_runs_i (a_b).toNatClampNeg (vp_nar .boolean 1)), (upd y_revokes_i (a_b).toNatClampNeg (vp_nar .boolean 0)), y_from, y_uses, y_revoked, y_had, y_data) := by
  intro σ hr hs
  obtain ⟨ring, run, rev, now, d, g⟩ := σ
  obtain ⟨x, y, q, k, hq, rfl, rfl, rfl, hy, hxy, hv1, hv2, rfl, rfl, rfl, hk, rfl, -, hoff, hb⟩ := hinv
  have hky : y ≤ k := (nI_leI (by omega) (by omega)).mp c_103
  have ek : k = y := by omega
  subst ek
  obtain ⟨o, a1, a2, a3, a4, a5, a6, a7, a8, a9, a10, a11, a12, a13, a14⟩ := m_al hr hs hoff
  have hnb : ¬ (nI q < 0 ∨ 64 ≤ nI q ∨ nI x < 0 ∨ 256 ≤ nI x ∨ nI k < 1 ∨ 256 - nI x < nI k ∨ a_v < 0 ∨ 255 < a_v) := hb.1
  have hfull : ¬ (bitt run q = false ∧ 30 ≤ cnt run) := hb.2 run a1 a9
  have r1 := row_set a1 hq
  have r2 := row_clr a2 hq
  rw [nI_clamp (n := q) (by omega)] at w_149 ⊢
  rw [fW_ok o hnb (by rw [nI_clamp (n := q) (by omega)]; exact hfull), nI_clamp (n := q) (by omega), nI_clamp (n := x) (by omega), nI_clamp (n := k) (by omega)]
  refine ⟨w_149 _ r1, ?_⟩
  rw [a3, Nat.mul_comm q 256]
  exact RM_upd hr o r1 r2
theorem vc_M_write_123_0 (a_b : Int32) (a_a : Int32) (a_n : Int32) (a_v : Int32) (y_thrown : Int32) (y_ring : Int32) (y_off : Int32) (y_fuse : Int32) (y_steps : Int32) (y_many : Int32) (y_log : Int32) (y_before : Int32) (y_home : Nat → Int32) (y_base : Nat → Int32) (y_now : Nat → Int32) (y_kinds : Nat → Int32) (y_blocks : Nat → Int32) (y_runs : Nat → Int32) (y_revokes : Nat → Int32) (y_from : Nat → Int32) (y_uses : Nat → Int32) (y_revoked : Nat → Int32) (y_had : Nat → Int32) (y_data : Nat → Int32) (x6 : Int32) (y_thrown_i : Int32) (y_now_i : Nat → Int32) (y_runs_i : Nat → Int32) (y_revokes_i : Nat → Int32) (v_123 : Int32) (hpre : pr_M_write a_b a_a a_n a_v (y_thrown, y_ring, y_off, y_fuse, y_steps, y_many, y_log, y_before, y_home, y_base, y_now, y_kinds, y_blocks, y_runs, y_revokes, y_from, y_uses, y_revoked, y_had, y_data)) (hinv : iv_M_write_100 a_b a_a a_n a_v (y_thrown, y_ring, y_off, y_fuse, y_steps, y_many, y_log, y_before, y_home, y_base, y_now, y_kinds, y_blocks, y_runs, y_revokes, y_from, y_uses, y_revoked, y_had, y_data) x6 (y_thrown_i, y_ring, y_off, y_fuse, y_steps, y_many, y_log, y_before, y_home, y_base, y_now_i, y_kinds, y_blocks, y_runs_i, y_revokes_i, y_from, y_uses, y_revoked, y_had, y_data)) (c_103 : ¬ a_n ≤ x6) (e_123 : v_123 = (Int32.toInt8 a_v).toInt32) : vp_in (((256 * a_b) + a_a) + x6) 16384 := by
  obtain ⟨x, y, q, k, hq, rfl, rfl, rfl, hy, hxy, hv1, hv2, rfl, rfl, rfl, hk, rfl, -, hoff, hb⟩ := hinv
  have hky : ¬ y ≤ k := fun z => c_103 (nI_le z (by omega))
  rw [show (256 : Int32) * nI q = nI (256 * q) from pk_mul 256 q, nI_add, nI_add]
  exact vp_in_nI (by omega) (by decide)
theorem vc_M_write_127_0 (a_b : Int32) (a_a : Int32) (a_n : Int32) (a_v : Int32) (y_thrown : Int32) (y_ring : Int32) (y_off : Int32) (y_fuse : Int32) (y_steps : Int32) (y_many : Int32) (y_log : Int32) (y_before : Int32) (y_home : Nat → Int32) (y_base : Nat → Int32) (y_now : Nat → Int32) (y_kinds : Nat → Int32) (y_blocks : Nat → Int32) (y_runs : Nat → Int32) (y_revokes : Nat → Int32) (y_from : Nat → Int32) (y_uses : Nat → Int32) (y_revoked : Nat → Int32) (y_had : Nat → Int32) (y_data : Nat → Int32) (x6 : Int32) (y_thrown_i : Int32) (y_now_i : Nat → Int32) (y_runs_i : Nat → Int32) (y_revokes_i : Nat → Int32) (v_123 : Int32) (v_124 : Int32) (hpre : pr_M_write a_b a_a a_n a_v (y_thrown, y_ring, y_off, y_fuse, y_steps, y_many, y_log, y_before, y_home, y_base, y_now, y_kinds, y_blocks, y_runs, y_revokes, y_from, y_uses, y_revoked, y_had, y_data)) (hinv : iv_M_write_100 a_b a_a a_n a_v (y_thrown, y_ring, y_off, y_fuse, y_steps, y_many, y_log, y_before, y_home, y_base, y_now, y_kinds, y_blocks, y_runs, y_revokes, y_from, y_uses, y_revoked, y_had, y_data) x6 (y_thrown_i, y_ring, y_off, y_fuse, y_steps, y_many, y_log, y_before, y_home, y_base, y_now_i, y_kinds, y_blocks, y_runs_i, y_revokes_i, y_from, y_uses, y_revoked, y_had, y_data)) (c_103 : ¬ a_n ≤ x6) (e_123 : v_123 = (Int32.toInt8 a_v).toInt32) (e_124 : v_124 = x6 + 1) : iv_M_write_100 a_b a_a a_n a_v (y_thrown, y_ring, y_off, y_fuse, y_steps, y_many, y_log, y_before, y_home, y_base, y_now, y_kinds, y_blocks, y_runs, y_revokes, y_from, y_uses, y_revoked, y_had, y_data) v_124 (y_thrown_i, y_ring, y_off, y_fuse, y_steps, y_many, y_log, y_before, y_home, y_base, (upd y_now_i ((((256 * a_b) + a_a) + x6)).toNatClampNeg (vp_nar .byte v_123)), y_kinds, y_blocks, y_runs_i, y_revokes_i, y_from, y_uses, y_revoked, y_had, y_data) ∧ mu_M_write_100 a_b a_a a_n a_v (y_thrown, y_ring, y_off, y_fuse, y_steps, y_many, y_log, y_before, y_home, y_base, y_now, y_kinds, y_blocks, y_runs, y_revokes, y_from, y_uses, y_revoked, y_had, y_data) v_124 (y_thrown_i, y_ring, y_off, y_fuse, y_steps, y_many, y_log, y_before, y_home, y_base, (upd y_now_i ((((256 * a_b) + a_a) + x6)).toNatClampNeg (vp_nar .byte v_123)), y_kinds, y_blocks, y_runs_i, y_revokes_i, y_from, y_uses, y_revoked, y_had, y_data) < mu_M_write_100 a_b a_a a_n a_v (y_thrown, y_ring, y_off, y_fuse, y_steps, y_many, y_log, y_before, y_home, y_base, y_now, y_kinds, y_blocks, y_runs, y_revokes, y_from, y_uses, y_revoked, y_had, y_data) x6 (y_thrown_i, y_ring, y_off, y_fuse, y_steps, y_many, y_log, y_before, y_home, y_base, y_now_i, y_kinds, y_blocks, y_runs_i, y_revokes_i, y_from, y_uses, y_revoked, y_had, y_data) := by
  obtain ⟨x, y, q, k, hq, rfl, rfl, rfl, hy, hxy, hv1, hv2, rfl, rfl, rfl, hk, rfl, -, hoff, hb⟩ := hinv
  have hky : ¬ y ≤ k := fun z => c_103 (nI_le z (by omega))
  have ev : vp_nar .byte v_123 = a_v.toInt8.toInt32 := by rw [e_123]; exact nar8 _
  rw [ev, show (256 : Int32) * nI q = nI (256 * q) from pk_mul 256 q, nI_add, nI_add, nI_clamp (n := 256 * q + x + k) (by omega), fillF_succ]
  refine ⟨⟨x, y, q, k + 1, hq, rfl, rfl, rfl, hy, hxy, hv1, hv2, rfl, rfl, by rw [e_124]; exact nI_1 k, by omega, rfl, trivial, hoff, hb⟩, ?_⟩
  show (nI y).toNatClampNeg - v_124.toNatClampNeg < (nI y).toNatClampNeg - (nI k).toNatClampNeg
  rw [e_124, nI_1, nI_clamp (n := y) (by omega), nI_clamp (n := k + 1) (by omega), nI_clamp (n := k) (by omega)]
  omega
theorem vc_M_write_16_0 (a_b : Int32) (a_a : Int32) (a_n : Int32) (a_v : Int32) (y_thrown : Int32) (y_ring : Int32) (y_off : Int32) (y_fuse : Int32) (y_steps : Int32) (y_many : Int32) (y_log : Int32) (y_before : Int32) (y_home : Nat → Int32) (y_base : Nat → Int32) (y_now : Nat → Int32) (y_kinds : Nat → Int32) (y_blocks : Nat → Int32) (y_runs : Nat → Int32) (y_revokes : Nat → Int32) (y_from : Nat → Int32) (y_uses : Nat → Int32) (y_revoked : Nat → Int32) (y_had : Nat → Int32) (y_data : Nat → Int32) (hpre : pr_M_write a_b a_a a_n a_v (y_thrown, y_ring, y_off, y_fuse, y_steps, y_many, y_log, y_before, y_home, y_base, y_now, y_kinds, y_blocks, y_runs, y_revokes, y_from, y_uses, y_revoked, y_had, y_data)) (c_9 : y_off = 0) : pr_M_noBlock a_b := by
  trivial
theorem vc_M_write_96_0 (a_b : Int32) (a_a : Int32) (a_n : Int32) (a_v : Int32) (y_thrown : Int32) (y_ring : Int32) (y_off : Int32) (y_fuse : Int32) (y_steps : Int32) (y_many : Int32) (y_log : Int32) (y_before : Int32) (y_home : Nat → Int32) (y_base : Nat → Int32) (y_now : Nat → Int32) (y_kinds : Nat → Int32) (y_blocks : Nat → Int32) (y_runs : Nat → Int32) (y_revokes : Nat → Int32) (y_from : Nat → Int32) (y_uses : Nat → Int32) (y_revoked : Nat → Int32) (y_had : Nat → Int32) (y_data : Nat → Int32) (r_16 : Int32) (hpre : pr_M_write a_b a_a a_n a_v (y_thrown, y_ring, y_off, y_fuse, y_steps, y_many, y_log, y_before, y_home, y_base, y_now, y_kinds, y_blocks, y_runs, y_revokes, y_from, y_uses, y_revoked, y_had, y_data)) (c_9 : y_off = 0) (w_16 : po_M_noBlock a_b r_16) (c_19 : ¬ r_16 = 0) (c_69 : ¬ (1 : Int32) = 0) : po_M_write a_b a_a a_n a_v (y_thrown, y_ring, y_off, y_fuse, y_steps, y_many, y_log, y_before, y_home, y_base, y_now, y_kinds, y_blocks, y_runs, y_revokes, y_from, y_uses, y_revoked, y_had, y_data) (-2) (0, y_ring, y_off, y_fuse, y_steps, y_many, y_log, y_before, y_home, y_base, y_now, y_kinds, y_blocks, y_runs, y_revokes, y_from, y_uses, y_revoked, y_had, y_data) := by
  intro σ hr hs
  obtain ⟨ring, run, rev, now, d, g⟩ := σ
  obtain ⟨o, a1, a2, a3, a4, a5, a6, a7, a8, a9, a10, a11, a12, a13, a14⟩ := m_al hr hs c_9
  rw [fW_bad o ((nb_y w_16 c_19).elim Or.inl (fun z => Or.inr (Or.inl z)))]
  exact ⟨rfl, hr⟩
theorem vc_M_write_96_1 (a_b : Int32) (a_a : Int32) (a_n : Int32) (a_v : Int32) (y_thrown : Int32) (y_ring : Int32) (y_off : Int32) (y_fuse : Int32) (y_steps : Int32) (y_many : Int32) (y_log : Int32) (y_before : Int32) (y_home : Nat → Int32) (y_base : Nat → Int32) (y_now : Nat → Int32) (y_kinds : Nat → Int32) (y_blocks : Nat → Int32) (y_runs : Nat → Int32) (y_revokes : Nat → Int32) (y_from : Nat → Int32) (y_uses : Nat → Int32) (y_revoked : Nat → Int32) (y_had : Nat → Int32) (y_data : Nat → Int32) (r_16 : Int32) (hpre : pr_M_write a_b a_a a_n a_v (y_thrown, y_ring, y_off, y_fuse, y_steps, y_many, y_log, y_before, y_home, y_base, y_now, y_kinds, y_blocks, y_runs, y_revokes, y_from, y_uses, y_revoked, y_had, y_data)) (c_9 : y_off = 0) (w_16 : po_M_noBlock a_b r_16) (c_19 : r_16 = 0) (c_24 : a_n < 1) (c_69 : ¬ (1 : Int32) = 0) : po_M_write a_b a_a a_n a_v (y_thrown, y_ring, y_off, y_fuse, y_steps, y_many, y_log, y_before, y_home, y_base, y_now, y_kinds, y_blocks, y_runs, y_revokes, y_from, y_uses, y_revoked, y_had, y_data) (-2) (0, y_ring, y_off, y_fuse, y_steps, y_many, y_log, y_before, y_home, y_base, y_now, y_kinds, y_blocks, y_runs, y_revokes, y_from, y_uses, y_revoked, y_had, y_data) := by
  intro σ hr hs
  obtain ⟨ring, run, rev, now, d, g⟩ := σ
  obtain ⟨o, a1, a2, a3, a4, a5, a6, a7, a8, a9, a10, a11, a12, a13, a14⟩ := m_al hr hs c_9
  rw [fW_bad o (Or.inr (Or.inr (Or.inr (Or.inr (Or.inl c_24)))))]
  exact ⟨rfl, hr⟩
theorem vc_M_write_96_2 (a_b : Int32) (a_a : Int32) (a_n : Int32) (a_v : Int32) (y_thrown : Int32) (y_ring : Int32) (y_off : Int32) (y_fuse : Int32) (y_steps : Int32) (y_many : Int32) (y_log : Int32) (y_before : Int32) (y_home : Nat → Int32) (y_base : Nat → Int32) (y_now : Nat → Int32) (y_kinds : Nat → Int32) (y_blocks : Nat → Int32) (y_runs : Nat → Int32) (y_revokes : Nat → Int32) (y_from : Nat → Int32) (y_uses : Nat → Int32) (y_revoked : Nat → Int32) (y_had : Nat → Int32) (y_data : Nat → Int32) (r_16 : Int32) (hpre : pr_M_write a_b a_a a_n a_v (y_thrown, y_ring, y_off, y_fuse, y_steps, y_many, y_log, y_before, y_home, y_base, y_now, y_kinds, y_blocks, y_runs, y_revokes, y_from, y_uses, y_revoked, y_had, y_data)) (c_9 : y_off = 0) (w_16 : po_M_noBlock a_b r_16) (c_19 : r_16 = 0) (c_24 : ¬ a_n < 1) (c_31 : 256 < a_n) (c_69 : ¬ (1 : Int32) = 0) : po_M_write a_b a_a a_n a_v (y_thrown, y_ring, y_off, y_fuse, y_steps, y_many, y_log, y_before, y_home, y_base, y_now, y_kinds, y_blocks, y_runs, y_revokes, y_from, y_uses, y_revoked, y_had, y_data) (-2) (0, y_ring, y_off, y_fuse, y_steps, y_many, y_log, y_before, y_home, y_base, y_now, y_kinds, y_blocks, y_runs, y_revokes, y_from, y_uses, y_revoked, y_had, y_data) := by
  intro σ hr hs
  obtain ⟨ring, run, rev, now, d, g⟩ := σ
  obtain ⟨o, a1, a2, a3, a4, a5, a6, a7, a8, a9, a10, a11, a12, a13, a14⟩ := m_al hr hs c_9
  rw [fW_bad o (wr_lift (wr_big c_31))]
  exact ⟨rfl, hr⟩
theorem vc_M_write_96_3 (a_b : Int32) (a_a : Int32) (a_n : Int32) (a_v : Int32) (y_thrown : Int32) (y_ring : Int32) (y_off : Int32) (y_fuse : Int32) (y_steps : Int32) (y_many : Int32) (y_log : Int32) (y_before : Int32) (y_home : Nat → Int32) (y_base : Nat → Int32) (y_now : Nat → Int32) (y_kinds : Nat → Int32) (y_blocks : Nat → Int32) (y_runs : Nat → Int32) (y_revokes : Nat → Int32) (y_from : Nat → Int32) (y_uses : Nat → Int32) (y_revoked : Nat → Int32) (y_had : Nat → Int32) (y_data : Nat → Int32) (r_16 : Int32) (hpre : pr_M_write a_b a_a a_n a_v (y_thrown, y_ring, y_off, y_fuse, y_steps, y_many, y_log, y_before, y_home, y_base, y_now, y_kinds, y_blocks, y_runs, y_revokes, y_from, y_uses, y_revoked, y_had, y_data)) (c_9 : y_off = 0) (w_16 : po_M_noBlock a_b r_16) (c_19 : r_16 = 0) (c_24 : ¬ a_n < 1) (c_31 : ¬ 256 < a_n) (c_35 : a_a < 0) (c_69 : ¬ (1 : Int32) = 0) : po_M_write a_b a_a a_n a_v (y_thrown, y_ring, y_off, y_fuse, y_steps, y_many, y_log, y_before, y_home, y_base, y_now, y_kinds, y_blocks, y_runs, y_revokes, y_from, y_uses, y_revoked, y_had, y_data) (-2) (0, y_ring, y_off, y_fuse, y_steps, y_many, y_log, y_before, y_home, y_base, y_now, y_kinds, y_blocks, y_runs, y_revokes, y_from, y_uses, y_revoked, y_had, y_data) := by
  intro σ hr hs
  obtain ⟨ring, run, rev, now, d, g⟩ := σ
  obtain ⟨o, a1, a2, a3, a4, a5, a6, a7, a8, a9, a10, a11, a12, a13, a14⟩ := m_al hr hs c_9
  rw [fW_bad o (Or.inr (Or.inr (Or.inl c_35)))]
  exact ⟨rfl, hr⟩
theorem vc_M_write_96_4 (a_b : Int32) (a_a : Int32) (a_n : Int32) (a_v : Int32) (y_thrown : Int32) (y_ring : Int32) (y_off : Int32) (y_fuse : Int32) (y_steps : Int32) (y_many : Int32) (y_log : Int32) (y_before : Int32) (y_home : Nat → Int32) (y_base : Nat → Int32) (y_now : Nat → Int32) (y_kinds : Nat → Int32) (y_blocks : Nat → Int32) (y_runs : Nat → Int32) (y_revokes : Nat → Int32) (y_from : Nat → Int32) (y_uses : Nat → Int32) (y_revoked : Nat → Int32) (y_had : Nat → Int32) (y_data : Nat → Int32) (r_16 : Int32) (hpre : pr_M_write a_b a_a a_n a_v (y_thrown, y_ring, y_off, y_fuse, y_steps, y_many, y_log, y_before, y_home, y_base, y_now, y_kinds, y_blocks, y_runs, y_revokes, y_from, y_uses, y_revoked, y_had, y_data)) (c_9 : y_off = 0) (w_16 : po_M_noBlock a_b r_16) (c_19 : r_16 = 0) (c_24 : ¬ a_n < 1) (c_31 : ¬ 256 < a_n) (c_35 : ¬ a_a < 0) (c_44 : (256 - a_n) < a_a) (c_69 : ¬ (1 : Int32) = 0) : po_M_write a_b a_a a_n a_v (y_thrown, y_ring, y_off, y_fuse, y_steps, y_many, y_log, y_before, y_home, y_base, y_now, y_kinds, y_blocks, y_runs, y_revokes, y_from, y_uses, y_revoked, y_had, y_data) (-2) (0, y_ring, y_off, y_fuse, y_steps, y_many, y_log, y_before, y_home, y_base, y_now, y_kinds, y_blocks, y_runs, y_revokes, y_from, y_uses, y_revoked, y_had, y_data) := by
  intro σ hr hs
  obtain ⟨ring, run, rev, now, d, g⟩ := σ
  obtain ⟨o, a1, a2, a3, a4, a5, a6, a7, a8, a9, a10, a11, a12, a13, a14⟩ := m_al hr hs c_9
  rw [fW_bad o (wr_lift (wr_out c_24 c_31 c_44))]
  exact ⟨rfl, hr⟩
theorem vc_M_write_96_5 (a_b : Int32) (a_a : Int32) (a_n : Int32) (a_v : Int32) (y_thrown : Int32) (y_ring : Int32) (y_off : Int32) (y_fuse : Int32) (y_steps : Int32) (y_many : Int32) (y_log : Int32) (y_before : Int32) (y_home : Nat → Int32) (y_base : Nat → Int32) (y_now : Nat → Int32) (y_kinds : Nat → Int32) (y_blocks : Nat → Int32) (y_runs : Nat → Int32) (y_revokes : Nat → Int32) (y_from : Nat → Int32) (y_uses : Nat → Int32) (y_revoked : Nat → Int32) (y_had : Nat → Int32) (y_data : Nat → Int32) (r_16 : Int32) (hpre : pr_M_write a_b a_a a_n a_v (y_thrown, y_ring, y_off, y_fuse, y_steps, y_many, y_log, y_before, y_home, y_base, y_now, y_kinds, y_blocks, y_runs, y_revokes, y_from, y_uses, y_revoked, y_had, y_data)) (c_9 : y_off = 0) (w_16 : po_M_noBlock a_b r_16) (c_19 : r_16 = 0) (c_24 : ¬ a_n < 1) (c_31 : ¬ 256 < a_n) (c_35 : ¬ a_a < 0) (c_44 : ¬ (256 - a_n) < a_a) (c_49 : a_v < 0) (c_69 : ¬ (1 : Int32) = 0) : po_M_write a_b a_a a_n a_v (y_thrown, y_ring, y_off, y_fuse, y_steps, y_many, y_log, y_before, y_home, y_base, y_now, y_kinds, y_blocks, y_runs, y_revokes, y_from, y_uses, y_revoked, y_had, y_data) (-2) (0, y_ring, y_off, y_fuse, y_steps, y_many, y_log, y_before, y_home, y_base, y_now, y_kinds, y_blocks, y_runs, y_revokes, y_from, y_uses, y_revoked, y_had, y_data) := by
  intro σ hr hs
  obtain ⟨ring, run, rev, now, d, g⟩ := σ
  obtain ⟨o, a1, a2, a3, a4, a5, a6, a7, a8, a9, a10, a11, a12, a13, a14⟩ := m_al hr hs c_9
  rw [fW_bad o (Or.inr (Or.inr (Or.inr (Or.inr (Or.inr (Or.inr (Or.inl c_49)))))))]
  exact ⟨rfl, hr⟩
theorem vc_M_write_77_0 (a_b : Int32) (a_a : Int32) (a_n : Int32) (a_v : Int32) (y_thrown : Int32) (y_ring : Int32) (y_off : Int32) (y_fuse : Int32) (y_steps : Int32) (y_many : Int32) (y_log : Int32) (y_before : Int32) (y_home : Nat → Int32) (y_base : Nat → Int32) (y_now : Nat → Int32) (y_kinds : Nat → Int32) (y_blocks : Nat → Int32) (y_runs : Nat → Int32) (y_revokes : Nat → Int32) (y_from : Nat → Int32) (y_uses : Nat → Int32) (y_revoked : Nat → Int32) (y_had : Nat → Int32) (y_data : Nat → Int32) (r_16 : Int32) (hpre : pr_M_write a_b a_a a_n a_v (y_thrown, y_ring, y_off, y_fuse, y_steps, y_many, y_log, y_before, y_home, y_base, y_now, y_kinds, y_blocks, y_runs, y_revokes, y_from, y_uses, y_revoked, y_had, y_data)) (c_9 : y_off = 0) (w_16 : po_M_noBlock a_b r_16) (c_19 : r_16 = 0) (c_24 : ¬ a_n < 1) (c_31 : ¬ 256 < a_n) (c_35 : ¬ a_a < 0) (c_44 : ¬ (256 - a_n) < a_a) (c_49 : ¬ a_v < 0) (c_57 : a_v ≤ 255) (c_69 : (0 : Int32) = 0) : vp_in a_b 64 := by
  obtain ⟨q, hq, rfl, hnb⟩ := nb_n w_16 c_19
  exact vp_in_nI (by omega) (by decide)
theorem vc_M_write_98_0 (a_b : Int32) (a_a : Int32) (a_n : Int32) (a_v : Int32) (y_thrown : Int32) (y_ring : Int32) (y_off : Int32) (y_fuse : Int32) (y_steps : Int32) (y_many : Int32) (y_log : Int32) (y_before : Int32) (y_home : Nat → Int32) (y_base : Nat → Int32) (y_now : Nat → Int32) (y_kinds : Nat → Int32) (y_blocks : Nat → Int32) (y_runs : Nat → Int32) (y_revokes : Nat → Int32) (y_from : Nat → Int32) (y_uses : Nat → Int32) (y_revoked : Nat → Int32) (y_had : Nat → Int32) (y_data : Nat → Int32) (r_16 : Int32) (v_77 : Int32) (hpre : pr_M_write a_b a_a a_n a_v (y_thrown, y_ring, y_off, y_fuse, y_steps, y_many, y_log, y_before, y_home, y_base, y_now, y_kinds, y_blocks, y_runs, y_revokes, y_from, y_uses, y_revoked, y_had, y_data)) (c_9 : y_off = 0) (w_16 : po_M_noBlock a_b r_16) (c_19 : r_16 = 0) (c_24 : ¬ a_n < 1) (c_31 : ¬ 256 < a_n) (c_35 : ¬ a_a < 0) (c_44 : ¬ (256 - a_n) < a_a) (c_49 : ¬ a_v < 0) (c_57 : a_v ≤ 255) (c_69 : (0 : Int32) = 0) (e_77 : v_77 = (y_runs (a_b).toNatClampNeg)) (c_78 : ¬ v_77 = 0) : iv_M_write_100 a_b a_a a_n a_v (y_thrown, y_ring, y_off, y_fuse, y_steps, y_many, y_log, y_before, y_home, y_base, y_now, y_kinds, y_blocks, y_runs, y_revokes, y_from, y_uses, y_revoked, y_had, y_data) 0 (0, y_ring, y_off, y_fuse, y_steps, y_many, y_log, y_before, y_home, y_base, y_now, y_kinds, y_blocks, y_runs, y_revokes, y_from, y_uses, y_revoked, y_had, y_data) ∧ True := by
  obtain ⟨q, hq, rfl, hnb⟩ := nb_n w_16 c_19
  obtain ⟨x, y, rfl, rfl, hy, hxy, z1, z2⟩ := wr_in c_24 c_31 c_35 c_44
  refine ⟨⟨x, y, q, 0, hq, rfl, rfl, rfl, hy, hxy, c_49, c_57, rfl, rfl, rfl, Nat.zero_le _, (fillF_0 _ _ _).symm, trivial, c_9, ?_, fun run h1 h2 h3 => ?_⟩, trivial⟩
  · exact fun z => wr_no hnb c_35 z1 c_24 z2 c_49 (Int32.not_lt.mpr c_57) z
  · have e := row_at h1 hq e_77
    exact c_78 (by rw [e, h3.1]; rfl)
theorem vc_M_write_86_0 (a_b : Int32) (a_a : Int32) (a_n : Int32) (a_v : Int32) (y_thrown : Int32) (y_ring : Int32) (y_off : Int32) (y_fuse : Int32) (y_steps : Int32) (y_many : Int32) (y_log : Int32) (y_before : Int32) (y_home : Nat → Int32) (y_base : Nat → Int32) (y_now : Nat → Int32) (y_kinds : Nat → Int32) (y_blocks : Nat → Int32) (y_runs : Nat → Int32) (y_revokes : Nat → Int32) (y_from : Nat → Int32) (y_uses : Nat → Int32) (y_revoked : Nat → Int32) (y_had : Nat → Int32) (y_data : Nat → Int32) (r_16 : Int32) (v_77 : Int32) (hpre : pr_M_write a_b a_a a_n a_v (y_thrown, y_ring, y_off, y_fuse, y_steps, y_many, y_log, y_before, y_home, y_base, y_now, y_kinds, y_blocks, y_runs, y_revokes, y_from, y_uses, y_revoked, y_had, y_data)) (c_9 : y_off = 0) (w_16 : po_M_noBlock a_b r_16) (c_19 : r_16 = 0) (c_24 : ¬ a_n < 1) (c_31 : ¬ 256 < a_n) (c_35 : ¬ a_a < 0) (c_44 : ¬ (256 - a_n) < a_a) (c_49 : ¬ a_v < 0) (c_57 : a_v ≤ 255) (c_69 : (0 : Int32) = 0) (e_77 : v_77 = (y_runs (a_b).toNatClampNeg)) (c_78 : v_77 = 0) : pr_M_size y_runs := by
  trivial
theorem vc_M_write_98_1 (a_b : Int32) (a_a : Int32) (a_n : Int32) (a_v : Int32) (y_thrown : Int32) (y_ring : Int32) (y_off : Int32) (y_fuse : Int32) (y_steps : Int32) (y_many : Int32) (y_log : Int32) (y_before : Int32) (y_home : Nat → Int32) (y_base : Nat → Int32) (y_now : Nat → Int32) (y_kinds : Nat → Int32) (y_blocks : Nat → Int32) (y_runs : Nat → Int32) (y_revokes : Nat → Int32) (y_from : Nat → Int32) (y_uses : Nat → Int32) (y_revoked : Nat → Int32) (y_had : Nat → Int32) (y_data : Nat → Int32) (r_16 : Int32) (v_77 : Int32) (r_86 : Int32) (hpre : pr_M_write a_b a_a a_n a_v (y_thrown, y_ring, y_off, y_fuse, y_steps, y_many, y_log, y_before, y_home, y_base, y_now, y_kinds, y_blocks, y_runs, y_revokes, y_from, y_uses, y_revoked, y_had, y_data)) (c_9 : y_off = 0) (w_16 : po_M_noBlock a_b r_16) (c_19 : r_16 = 0) (c_24 : ¬ a_n < 1) (c_31 : ¬ 256 < a_n) (c_35 : ¬ a_a < 0) (c_44 : ¬ (256 - a_n) < a_a) (c_49 : ¬ a_v < 0) (c_57 : a_v ≤ 255) (c_69 : (0 : Int32) = 0) (e_77 : v_77 = (y_runs (a_b).toNatClampNeg)) (c_78 : v_77 = 0) (w_86 : po_M_size y_runs r_86) (c_91 : ¬ r_86 = 30) : iv_M_write_100 a_b a_a a_n a_v (y_thrown, y_ring, y_off, y_fuse, y_steps, y_many, y_log, y_before, y_home, y_base, y_now, y_kinds, y_blocks, y_runs, y_revokes, y_from, y_uses, y_revoked, y_had, y_data) 0 (0, y_ring, y_off, y_fuse, y_steps, y_many, y_log, y_before, y_home, y_base, y_now, y_kinds, y_blocks, y_runs, y_revokes, y_from, y_uses, y_revoked, y_had, y_data) ∧ True := by
  obtain ⟨q, hq, rfl, hnb⟩ := nb_n w_16 c_19
  obtain ⟨x, y, rfl, rfl, hy, hxy, z1, z2⟩ := wr_in c_24 c_31 c_35 c_44
  refine ⟨⟨x, y, q, 0, hq, rfl, rfl, rfl, hy, hxy, c_49, c_57, rfl, rfl, rfl, Nat.zero_le _, (fillF_0 _ _ _).symm, trivial, c_9, ?_, fun run h1 h2 h3 => ?_⟩, trivial⟩
  · exact fun z => wr_no hnb c_35 z1 c_24 z2 c_49 (Int32.not_lt.mpr c_57) z
  · have w := w_86 run h1
    exact c_91 (by rw [w, show cnt run = 30 from Nat.le_antisymm h2 h3.2]; rfl)
theorem vc_M_write_96_6 (a_b : Int32) (a_a : Int32) (a_n : Int32) (a_v : Int32) (y_thrown : Int32) (y_ring : Int32) (y_off : Int32) (y_fuse : Int32) (y_steps : Int32) (y_many : Int32) (y_log : Int32) (y_before : Int32) (y_home : Nat → Int32) (y_base : Nat → Int32) (y_now : Nat → Int32) (y_kinds : Nat → Int32) (y_blocks : Nat → Int32) (y_runs : Nat → Int32) (y_revokes : Nat → Int32) (y_from : Nat → Int32) (y_uses : Nat → Int32) (y_revoked : Nat → Int32) (y_had : Nat → Int32) (y_data : Nat → Int32) (r_16 : Int32) (v_77 : Int32) (r_86 : Int32) (hpre : pr_M_write a_b a_a a_n a_v (y_thrown, y_ring, y_off, y_fuse, y_steps, y_many, y_log, y_before, y_home, y_base, y_now, y_kinds, y_blocks, y_runs, y_revokes, y_from, y_uses, y_revoked, y_had, y_data)) (c_9 : y_off = 0) (w_16 : po_M_noBlock a_b r_16) (c_19 : r_16 = 0) (c_24 : ¬ a_n < 1) (c_31 : ¬ 256 < a_n) (c_35 : ¬ a_a < 0) (c_44 : ¬ (256 - a_n) < a_a) (c_49 : ¬ a_v < 0) (c_57 : a_v ≤ 255) (c_69 : (0 : Int32) = 0) (e_77 : v_77 = (y_runs (a_b).toNatClampNeg)) (c_78 : v_77 = 0) (w_86 : po_M_size y_runs r_86) (c_91 : r_86 = 30) : po_M_write a_b a_a a_n a_v (y_thrown, y_ring, y_off, y_fuse, y_steps, y_many, y_log, y_before, y_home, y_base, y_now, y_kinds, y_blocks, y_runs, y_revokes, y_from, y_uses, y_revoked, y_had, y_data) (-2) (0, y_ring, y_off, y_fuse, y_steps, y_many, y_log, y_before, y_home, y_base, y_now, y_kinds, y_blocks, y_runs, y_revokes, y_from, y_uses, y_revoked, y_had, y_data) := by
  intro σ hr hs
  obtain ⟨ring, run, rev, now, d, g⟩ := σ
  obtain ⟨o, a1, a2, a3, a4, a5, a6, a7, a8, a9, a10, a11, a12, a13, a14⟩ := m_al hr hs c_9
  obtain ⟨q, hq, rfl, hnb⟩ := nb_n w_16 c_19
  obtain ⟨x, y, rfl, rfl, hy, hxy, z1, z2⟩ := wr_in c_24 c_31 c_35 c_44
  have e := row_at a1 hq e_77
  have w := w_86 run a1
  have hc : cnt run = 30 := (nI_eq (by omega) (by decide)).mp (w.symm.trans c_91)
  rw [fW_full o (fun z => wr_no hnb c_35 z1 c_24 z2 c_49 (Int32.not_lt.mpr c_57) z) ⟨by rw [nI_clamp (by omega)]; exact b2i_0.mp (e.symm.trans c_78), by omega⟩]
  exact ⟨rfl, hr⟩
theorem vc_M_write_96_7 (a_b : Int32) (a_a : Int32) (a_n : Int32) (a_v : Int32) (y_thrown : Int32) (y_ring : Int32) (y_off : Int32) (y_fuse : Int32) (y_steps : Int32) (y_many : Int32) (y_log : Int32) (y_before : Int32) (y_home : Nat → Int32) (y_base : Nat → Int32) (y_now : Nat → Int32) (y_kinds : Nat → Int32) (y_blocks : Nat → Int32) (y_runs : Nat → Int32) (y_revokes : Nat → Int32) (y_from : Nat → Int32) (y_uses : Nat → Int32) (y_revoked : Nat → Int32) (y_had : Nat → Int32) (y_data : Nat → Int32) (r_16 : Int32) (hpre : pr_M_write a_b a_a a_n a_v (y_thrown, y_ring, y_off, y_fuse, y_steps, y_many, y_log, y_before, y_home, y_base, y_now, y_kinds, y_blocks, y_runs, y_revokes, y_from, y_uses, y_revoked, y_had, y_data)) (c_9 : y_off = 0) (w_16 : po_M_noBlock a_b r_16) (c_19 : r_16 = 0) (c_24 : ¬ a_n < 1) (c_31 : ¬ 256 < a_n) (c_35 : ¬ a_a < 0) (c_44 : ¬ (256 - a_n) < a_a) (c_49 : ¬ a_v < 0) (c_57 : ¬ a_v ≤ 255) (c_69 : ¬ (1 : Int32) = 0) : po_M_write a_b a_a a_n a_v (y_thrown, y_ring, y_off, y_fuse, y_steps, y_many, y_log, y_before, y_home, y_base, y_now, y_kinds, y_blocks, y_runs, y_revokes, y_from, y_uses, y_revoked, y_had, y_data) (-2) (0, y_ring, y_off, y_fuse, y_steps, y_many, y_log, y_before, y_home, y_base, y_now, y_kinds, y_blocks, y_runs, y_revokes, y_from, y_uses, y_revoked, y_had, y_data) := by
  intro σ hr hs
  obtain ⟨ring, run, rev, now, d, g⟩ := σ
  obtain ⟨o, a1, a2, a3, a4, a5, a6, a7, a8, a9, a10, a11, a12, a13, a14⟩ := m_al hr hs c_9
  rw [fW_bad o (Or.inr (Or.inr (Or.inr (Or.inr (Or.inr (Or.inr (Or.inr (Int32.not_le.mp c_57))))))))]
  exact ⟨rfl, hr⟩
theorem vc_M_write_13_0 (a_b : Int32) (a_a : Int32) (a_n : Int32) (a_v : Int32) (y_thrown : Int32) (y_ring : Int32) (y_off : Int32) (y_fuse : Int32) (y_steps : Int32) (y_many : Int32) (y_log : Int32) (y_before : Int32) (y_home : Nat → Int32) (y_base : Nat → Int32) (y_now : Nat → Int32) (y_kinds : Nat → Int32) (y_blocks : Nat → Int32) (y_runs : Nat → Int32) (y_revokes : Nat → Int32) (y_from : Nat → Int32) (y_uses : Nat → Int32) (y_revoked : Nat → Int32) (y_had : Nat → Int32) (y_data : Nat → Int32) (hpre : pr_M_write a_b a_a a_n a_v (y_thrown, y_ring, y_off, y_fuse, y_steps, y_many, y_log, y_before, y_home, y_base, y_now, y_kinds, y_blocks, y_runs, y_revokes, y_from, y_uses, y_revoked, y_had, y_data)) (c_9 : ¬ y_off = 0) : po_M_write a_b a_a a_n a_v (y_thrown, y_ring, y_off, y_fuse, y_steps, y_many, y_log, y_before, y_home, y_base, y_now, y_kinds, y_blocks, y_runs, y_revokes, y_from, y_uses, y_revoked, y_had, y_data) (-1) (0, y_ring, y_off, y_fuse, y_steps, y_many, y_log, y_before, y_home, y_base, y_now, y_kinds, y_blocks, y_runs, y_revokes, y_from, y_uses, y_revoked, y_had, y_data) := by
  intro σ hr hs
  obtain ⟨ring, run, rev, now, d, g⟩ := σ
  rw [fW_off (m_off hr c_9)]
  exact ⟨rfl, hr⟩
theorem vc_M_read_18_0 (a_b : Int32) (a_a : Int32) (y_thrown : Int32) (y_ring : Int32) (y_off : Int32) (y_fuse : Int32) (y_steps : Int32) (y_many : Int32) (y_log : Int32) (y_before : Int32) (y_home : Nat → Int32) (y_base : Nat → Int32) (y_now : Nat → Int32) (y_kinds : Nat → Int32) (y_blocks : Nat → Int32) (y_runs : Nat → Int32) (y_revokes : Nat → Int32) (y_from : Nat → Int32) (y_uses : Nat → Int32) (y_revoked : Nat → Int32) (y_had : Nat → Int32) (y_data : Nat → Int32) (hpre : pr_M_read a_b a_a (y_thrown, y_ring, y_off, y_fuse, y_steps, y_many, y_log, y_before, y_home, y_base, y_now, y_kinds, y_blocks, y_runs, y_revokes, y_from, y_uses, y_revoked, y_had, y_data)) (c_9 : y_off = 0) : pr_M_noBlock a_b := by
  trivial
theorem vc_M_read_56_0 (a_b : Int32) (a_a : Int32) (y_thrown : Int32) (y_ring : Int32) (y_off : Int32) (y_fuse : Int32) (y_steps : Int32) (y_many : Int32) (y_log : Int32) (y_before : Int32) (y_home : Nat → Int32) (y_base : Nat → Int32) (y_now : Nat → Int32) (y_kinds : Nat → Int32) (y_blocks : Nat → Int32) (y_runs : Nat → Int32) (y_revokes : Nat → Int32) (y_from : Nat → Int32) (y_uses : Nat → Int32) (y_revoked : Nat → Int32) (y_had : Nat → Int32) (y_data : Nat → Int32) (r_18 : Int32) (hpre : pr_M_read a_b a_a (y_thrown, y_ring, y_off, y_fuse, y_steps, y_many, y_log, y_before, y_home, y_base, y_now, y_kinds, y_blocks, y_runs, y_revokes, y_from, y_uses, y_revoked, y_had, y_data)) (c_9 : y_off = 0) (w_18 : po_M_noBlock a_b r_18) (c_21 : ¬ r_18 = 0) : po_M_read a_b a_a (y_thrown, y_ring, y_off, y_fuse, y_steps, y_many, y_log, y_before, y_home, y_base, y_now, y_kinds, y_blocks, y_runs, y_revokes, y_from, y_uses, y_revoked, y_had, y_data) (-2) (0, y_ring, y_off, y_fuse, y_steps, y_many, y_log, y_before, y_home, y_base, y_now, y_kinds, y_blocks, y_runs, y_revokes, y_from, y_uses, y_revoked, y_had, y_data) := by
  intro σ hr hs
  obtain ⟨ring, run, rev, now, d, g⟩ := σ
  obtain ⟨o, a1, a2, a3, a4, a5, a6, a7, a8, a9, a10, a11, a12, a13, a14⟩ := m_al hr hs c_9
  have e := fR_bad (ring := ring) (run := run) (rev := rev) (now := now) (g := g) (b := a_b) (a := a_a) o ((nb_y w_18 c_21).elim Or.inl (fun z => Or.inr (Or.inl z)))
  exact ⟨e.symm, hr⟩
theorem vc_M_read_56_1 (a_b : Int32) (a_a : Int32) (y_thrown : Int32) (y_ring : Int32) (y_off : Int32) (y_fuse : Int32) (y_steps : Int32) (y_many : Int32) (y_log : Int32) (y_before : Int32) (y_home : Nat → Int32) (y_base : Nat → Int32) (y_now : Nat → Int32) (y_kinds : Nat → Int32) (y_blocks : Nat → Int32) (y_runs : Nat → Int32) (y_revokes : Nat → Int32) (y_from : Nat → Int32) (y_uses : Nat → Int32) (y_revoked : Nat → Int32) (y_had : Nat → Int32) (y_data : Nat → Int32) (r_18 : Int32) (hpre : pr_M_read a_b a_a (y_thrown, y_ring, y_off, y_fuse, y_steps, y_many, y_log, y_before, y_home, y_base, y_now, y_kinds, y_blocks, y_runs, y_revokes, y_from, y_uses, y_revoked, y_had, y_data)) (c_9 : y_off = 0) (w_18 : po_M_noBlock a_b r_18) (c_21 : r_18 = 0) (c_25 : a_a < 0) : po_M_read a_b a_a (y_thrown, y_ring, y_off, y_fuse, y_steps, y_many, y_log, y_before, y_home, y_base, y_now, y_kinds, y_blocks, y_runs, y_revokes, y_from, y_uses, y_revoked, y_had, y_data) (-2) (0, y_ring, y_off, y_fuse, y_steps, y_many, y_log, y_before, y_home, y_base, y_now, y_kinds, y_blocks, y_runs, y_revokes, y_from, y_uses, y_revoked, y_had, y_data) := by
  intro σ hr hs
  obtain ⟨ring, run, rev, now, d, g⟩ := σ
  obtain ⟨o, a1, a2, a3, a4, a5, a6, a7, a8, a9, a10, a11, a12, a13, a14⟩ := m_al hr hs c_9
  have e := fR_bad (ring := ring) (run := run) (rev := rev) (now := now) (g := g) (b := a_b) (a := a_a) o (Or.inr (Or.inr (Or.inl c_25)))
  exact ⟨e.symm, hr⟩
theorem vc_M_read_51_0 (a_b : Int32) (a_a : Int32) (y_thrown : Int32) (y_ring : Int32) (y_off : Int32) (y_fuse : Int32) (y_steps : Int32) (y_many : Int32) (y_log : Int32) (y_before : Int32) (y_home : Nat → Int32) (y_base : Nat → Int32) (y_now : Nat → Int32) (y_kinds : Nat → Int32) (y_blocks : Nat → Int32) (y_runs : Nat → Int32) (y_revokes : Nat → Int32) (y_from : Nat → Int32) (y_uses : Nat → Int32) (y_revoked : Nat → Int32) (y_had : Nat → Int32) (y_data : Nat → Int32) (r_18 : Int32) (hpre : pr_M_read a_b a_a (y_thrown, y_ring, y_off, y_fuse, y_steps, y_many, y_log, y_before, y_home, y_base, y_now, y_kinds, y_blocks, y_runs, y_revokes, y_from, y_uses, y_revoked, y_had, y_data)) (c_9 : y_off = 0) (w_18 : po_M_noBlock a_b r_18) (c_21 : r_18 = 0) (c_25 : ¬ a_a < 0) (c_32 : a_a < 256) : vp_in ((256 * a_b) + a_a) 16384 := by
  obtain ⟨q, hq, rfl, hnb⟩ := nb_n w_18 c_21
  have hna : ¬ (a_a < 0 ∨ 256 ≤ a_a) := fun z => z.elim c_25 (fun y => absurd c_32 (Int32.not_lt.mpr y))
  obtain ⟨x, hx, rfl⟩ := byte_of hna
  rw [show (256 : Int32) * nI q = nI (256 * q) from pk_mul 256 q, nI_add]
  exact vp_in_nI (by omega) (by decide)
theorem vc_M_read_56_2 (a_b : Int32) (a_a : Int32) (y_thrown : Int32) (y_ring : Int32) (y_off : Int32) (y_fuse : Int32) (y_steps : Int32) (y_many : Int32) (y_log : Int32) (y_before : Int32) (y_home : Nat → Int32) (y_base : Nat → Int32) (y_now : Nat → Int32) (y_kinds : Nat → Int32) (y_blocks : Nat → Int32) (y_runs : Nat → Int32) (y_revokes : Nat → Int32) (y_from : Nat → Int32) (y_uses : Nat → Int32) (y_revoked : Nat → Int32) (y_had : Nat → Int32) (y_data : Nat → Int32) (r_18 : Int32) (v_51 : Int32) (hpre : pr_M_read a_b a_a (y_thrown, y_ring, y_off, y_fuse, y_steps, y_many, y_log, y_before, y_home, y_base, y_now, y_kinds, y_blocks, y_runs, y_revokes, y_from, y_uses, y_revoked, y_had, y_data)) (c_9 : y_off = 0) (w_18 : po_M_noBlock a_b r_18) (c_21 : r_18 = 0) (c_25 : ¬ a_a < 0) (c_32 : a_a < 256) (e_51 : v_51 = (y_now (((256 * a_b) + a_a)).toNatClampNeg)) : po_M_read a_b a_a (y_thrown, y_ring, y_off, y_fuse, y_steps, y_many, y_log, y_before, y_home, y_base, y_now, y_kinds, y_blocks, y_runs, y_revokes, y_from, y_uses, y_revoked, y_had, y_data) (v_51 &&& 255) (0, y_ring, y_off, y_fuse, y_steps, y_many, y_log, y_before, y_home, y_base, y_now, y_kinds, y_blocks, y_runs, y_revokes, y_from, y_uses, y_revoked, y_had, y_data) := by
  intro σ hr hs
  obtain ⟨ring, run, rev, now, d, g⟩ := σ
  obtain ⟨o, a1, a2, a3, a4, a5, a6, a7, a8, a9, a10, a11, a12, a13, a14⟩ := m_al hr hs c_9
  obtain ⟨q, hq, rfl, hnb⟩ := nb_n w_18 c_21
  have hna : ¬ (a_a < 0 ∨ 256 ≤ a_a) := fun z => z.elim c_25 (fun y => absurd c_32 (Int32.not_lt.mpr y))
  obtain ⟨x, hx, rfl⟩ := byte_of hna
  have hbad : ¬ (nI q < 0 ∨ 64 ≤ nI q ∨ nI x < 0 ∨ 256 ≤ nI x) := fun z => z.elim (fun z => hnb (Or.inl z)) (fun z => z.elim (fun z => hnb (Or.inr z)) hna)
  have e := fR_ok (ring := ring) (run := run) (rev := rev) (now := now) (g := g) o hbad
  rw [show (256 : Int32) * nI q = nI (256 * q) from pk_mul 256 q, nI_add, nI_clamp (n := 256 * q + x) (by omega), a3] at e_51
  rw [nI_clamp (n := q) (by omega), nI_clamp (n := x) (by omega), Nat.mul_comm q 256, ← e_51] at e
  exact ⟨e.symm, hr⟩
theorem vc_M_read_56_3 (a_b : Int32) (a_a : Int32) (y_thrown : Int32) (y_ring : Int32) (y_off : Int32) (y_fuse : Int32) (y_steps : Int32) (y_many : Int32) (y_log : Int32) (y_before : Int32) (y_home : Nat → Int32) (y_base : Nat → Int32) (y_now : Nat → Int32) (y_kinds : Nat → Int32) (y_blocks : Nat → Int32) (y_runs : Nat → Int32) (y_revokes : Nat → Int32) (y_from : Nat → Int32) (y_uses : Nat → Int32) (y_revoked : Nat → Int32) (y_had : Nat → Int32) (y_data : Nat → Int32) (r_18 : Int32) (hpre : pr_M_read a_b a_a (y_thrown, y_ring, y_off, y_fuse, y_steps, y_many, y_log, y_before, y_home, y_base, y_now, y_kinds, y_blocks, y_runs, y_revokes, y_from, y_uses, y_revoked, y_had, y_data)) (c_9 : y_off = 0) (w_18 : po_M_noBlock a_b r_18) (c_21 : r_18 = 0) (c_25 : ¬ a_a < 0) (c_32 : ¬ a_a < 256) : po_M_read a_b a_a (y_thrown, y_ring, y_off, y_fuse, y_steps, y_many, y_log, y_before, y_home, y_base, y_now, y_kinds, y_blocks, y_runs, y_revokes, y_from, y_uses, y_revoked, y_had, y_data) (-2) (0, y_ring, y_off, y_fuse, y_steps, y_many, y_log, y_before, y_home, y_base, y_now, y_kinds, y_blocks, y_runs, y_revokes, y_from, y_uses, y_revoked, y_had, y_data) := by
  intro σ hr hs
  obtain ⟨ring, run, rev, now, d, g⟩ := σ
  obtain ⟨o, a1, a2, a3, a4, a5, a6, a7, a8, a9, a10, a11, a12, a13, a14⟩ := m_al hr hs c_9
  have e := fR_bad (ring := ring) (run := run) (rev := rev) (now := now) (g := g) (b := a_b) (a := a_a) o (Or.inr (Or.inr (Or.inr (Int32.not_lt.mp c_32))))
  exact ⟨e.symm, hr⟩
theorem vc_M_read_56_4 (a_b : Int32) (a_a : Int32) (y_thrown : Int32) (y_ring : Int32) (y_off : Int32) (y_fuse : Int32) (y_steps : Int32) (y_many : Int32) (y_log : Int32) (y_before : Int32) (y_home : Nat → Int32) (y_base : Nat → Int32) (y_now : Nat → Int32) (y_kinds : Nat → Int32) (y_blocks : Nat → Int32) (y_runs : Nat → Int32) (y_revokes : Nat → Int32) (y_from : Nat → Int32) (y_uses : Nat → Int32) (y_revoked : Nat → Int32) (y_had : Nat → Int32) (y_data : Nat → Int32) (hpre : pr_M_read a_b a_a (y_thrown, y_ring, y_off, y_fuse, y_steps, y_many, y_log, y_before, y_home, y_base, y_now, y_kinds, y_blocks, y_runs, y_revokes, y_from, y_uses, y_revoked, y_had, y_data)) (c_9 : ¬ y_off = 0) : po_M_read a_b a_a (y_thrown, y_ring, y_off, y_fuse, y_steps, y_many, y_log, y_before, y_home, y_base, y_now, y_kinds, y_blocks, y_runs, y_revokes, y_from, y_uses, y_revoked, y_had, y_data) (-1) (0, y_ring, y_off, y_fuse, y_steps, y_many, y_log, y_before, y_home, y_base, y_now, y_kinds, y_blocks, y_runs, y_revokes, y_from, y_uses, y_revoked, y_had, y_data) := by
  intro σ hr hs
  obtain ⟨ring, run, rev, now, d, g⟩ := σ
  have e := fR_off (ring := ring) (run := run) (rev := rev) (now := now) (g := g) (b := a_b) (a := a_a) (m_off hr c_9)
  exact ⟨e.symm, hr⟩
theorem vc_M_forget_16_0 (a_b : Int32) (y_thrown : Int32) (y_ring : Int32) (y_off : Int32) (y_fuse : Int32) (y_steps : Int32) (y_many : Int32) (y_log : Int32) (y_before : Int32) (y_home : Nat → Int32) (y_base : Nat → Int32) (y_now : Nat → Int32) (y_kinds : Nat → Int32) (y_blocks : Nat → Int32) (y_runs : Nat → Int32) (y_revokes : Nat → Int32) (y_from : Nat → Int32) (y_uses : Nat → Int32) (y_revoked : Nat → Int32) (y_had : Nat → Int32) (y_data : Nat → Int32) (hpre : pr_M_forget a_b (y_thrown, y_ring, y_off, y_fuse, y_steps, y_many, y_log, y_before, y_home, y_base, y_now, y_kinds, y_blocks, y_runs, y_revokes, y_from, y_uses, y_revoked, y_had, y_data)) (c_9 : y_off = 0) : pr_M_noBlock a_b := by
  trivial
theorem vc_M_forget_46_0 (a_b : Int32) (y_thrown : Int32) (y_ring : Int32) (y_off : Int32) (y_fuse : Int32) (y_steps : Int32) (y_many : Int32) (y_log : Int32) (y_before : Int32) (y_home : Nat → Int32) (y_base : Nat → Int32) (y_now : Nat → Int32) (y_kinds : Nat → Int32) (y_blocks : Nat → Int32) (y_runs : Nat → Int32) (y_revokes : Nat → Int32) (y_from : Nat → Int32) (y_uses : Nat → Int32) (y_revoked : Nat → Int32) (y_had : Nat → Int32) (y_data : Nat → Int32) (r_16 : Int32) (hpre : pr_M_forget a_b (y_thrown, y_ring, y_off, y_fuse, y_steps, y_many, y_log, y_before, y_home, y_base, y_now, y_kinds, y_blocks, y_runs, y_revokes, y_from, y_uses, y_revoked, y_had, y_data)) (c_9 : y_off = 0) (w_16 : po_M_noBlock a_b r_16) (c_19 : ¬ r_16 = 0) : po_M_forget a_b (y_thrown, y_ring, y_off, y_fuse, y_steps, y_many, y_log, y_before, y_home, y_base, y_now, y_kinds, y_blocks, y_runs, y_revokes, y_from, y_uses, y_revoked, y_had, y_data) (-2) (0, y_ring, y_off, y_fuse, y_steps, y_many, y_log, y_before, y_home, y_base, y_now, y_kinds, y_blocks, y_runs, y_revokes, y_from, y_uses, y_revoked, y_had, y_data) := by
  intro σ hr hs
  obtain ⟨ring, run, rev, now, d, g⟩ := σ
  obtain ⟨o, a1, a2, a3, a4, a5, a6, a7, a8, a9, a10, a11, a12, a13, a14⟩ := m_al hr hs c_9
  rw [fF_bad o (nb_y w_16 c_19)]
  exact ⟨rfl, hr⟩
theorem vc_M_forget_27_0 (a_b : Int32) (y_thrown : Int32) (y_ring : Int32) (y_off : Int32) (y_fuse : Int32) (y_steps : Int32) (y_many : Int32) (y_log : Int32) (y_before : Int32) (y_home : Nat → Int32) (y_base : Nat → Int32) (y_now : Nat → Int32) (y_kinds : Nat → Int32) (y_blocks : Nat → Int32) (y_runs : Nat → Int32) (y_revokes : Nat → Int32) (y_from : Nat → Int32) (y_uses : Nat → Int32) (y_revoked : Nat → Int32) (y_had : Nat → Int32) (y_data : Nat → Int32) (r_16 : Int32) (hpre : pr_M_forget a_b (y_thrown, y_ring, y_off, y_fuse, y_steps, y_many, y_log, y_before, y_home, y_base, y_now, y_kinds, y_blocks, y_runs, y_revokes, y_from, y_uses, y_revoked, y_had, y_data)) (c_9 : y_off = 0) (w_16 : po_M_noBlock a_b r_16) (c_19 : r_16 = 0) : vp_in a_b 64 := by
  obtain ⟨q, hq, rfl, hnb⟩ := nb_n w_16 c_19
  exact vp_in_nI (by omega) (by decide)
theorem vc_M_forget_53_0 (a_b : Int32) (y_thrown : Int32) (y_ring : Int32) (y_off : Int32) (y_fuse : Int32) (y_steps : Int32) (y_many : Int32) (y_log : Int32) (y_before : Int32) (y_home : Nat → Int32) (y_base : Nat → Int32) (y_now : Nat → Int32) (y_kinds : Nat → Int32) (y_blocks : Nat → Int32) (y_runs : Nat → Int32) (y_revokes : Nat → Int32) (y_from : Nat → Int32) (y_uses : Nat → Int32) (y_revoked : Nat → Int32) (y_had : Nat → Int32) (y_data : Nat → Int32) (r_16 : Int32) (v_27 : Int32) (hpre : pr_M_forget a_b (y_thrown, y_ring, y_off, y_fuse, y_steps, y_many, y_log, y_before, y_home, y_base, y_now, y_kinds, y_blocks, y_runs, y_revokes, y_from, y_uses, y_revoked, y_had, y_data)) (c_9 : y_off = 0) (w_16 : po_M_noBlock a_b r_16) (c_19 : r_16 = 0) (e_27 : v_27 = (y_revokes (a_b).toNatClampNeg)) (c_28 : ¬ v_27 = 0) : vp_in a_b 64 := by
  obtain ⟨q, hq, rfl, hnb⟩ := nb_n w_16 c_19
  exact vp_in_nI (by omega) (by decide)
theorem vc_M_forget_60_0 (a_b : Int32) (y_thrown : Int32) (y_ring : Int32) (y_off : Int32) (y_fuse : Int32) (y_steps : Int32) (y_many : Int32) (y_log : Int32) (y_before : Int32) (y_home : Nat → Int32) (y_base : Nat → Int32) (y_now : Nat → Int32) (y_kinds : Nat → Int32) (y_blocks : Nat → Int32) (y_runs : Nat → Int32) (y_revokes : Nat → Int32) (y_from : Nat → Int32) (y_uses : Nat → Int32) (y_revoked : Nat → Int32) (y_had : Nat → Int32) (y_data : Nat → Int32) (r_16 : Int32) (v_27 : Int32) (hpre : pr_M_forget a_b (y_thrown, y_ring, y_off, y_fuse, y_steps, y_many, y_log, y_before, y_home, y_base, y_now, y_kinds, y_blocks, y_runs, y_revokes, y_from, y_uses, y_revoked, y_had, y_data)) (c_9 : y_off = 0) (w_16 : po_M_noBlock a_b r_16) (c_19 : r_16 = 0) (e_27 : v_27 = (y_revokes (a_b).toNatClampNeg)) (c_28 : ¬ v_27 = 0) : vp_in a_b 64 := by
  obtain ⟨q, hq, rfl, hnb⟩ := nb_n w_16 c_19
  exact vp_in_nI (by omega) (by decide)
theorem vc_M_forget_83_0 (a_b : Int32) (y_thrown : Int32) (y_ring : Int32) (y_off : Int32) (y_fuse : Int32) (y_steps : Int32) (y_many : Int32) (y_log : Int32) (y_before : Int32) (y_home : Nat → Int32) (y_base : Nat → Int32) (y_now : Nat → Int32) (y_kinds : Nat → Int32) (y_blocks : Nat → Int32) (y_runs : Nat → Int32) (y_revokes : Nat → Int32) (y_from : Nat → Int32) (y_uses : Nat → Int32) (y_revoked : Nat → Int32) (y_had : Nat → Int32) (y_data : Nat → Int32) (r_16 : Int32) (v_27 : Int32) (hpre : pr_M_forget a_b (y_thrown, y_ring, y_off, y_fuse, y_steps, y_many, y_log, y_before, y_home, y_base, y_now, y_kinds, y_blocks, y_runs, y_revokes, y_from, y_uses, y_revoked, y_had, y_data)) (c_9 : y_off = 0) (w_16 : po_M_noBlock a_b r_16) (c_19 : r_16 = 0) (e_27 : v_27 = (y_revokes (a_b).toNatClampNeg)) (c_28 : ¬ v_27 = 0) : pr_M_copy (256 * a_b) (256 * a_b) 256 16384 16384 y_home y_now := by
  obtain ⟨σ, hr, hs⟩ := hpre
  obtain ⟨ring, run, rev, now, d, g⟩ := σ
  obtain ⟨o, a1, a2, a3, a4, a5, a6, a7, a8, a9, a10, a11, a12, a13, a14⟩ := m_al hr hs c_9
  obtain ⟨q, hq, rfl, hnb⟩ := nb_n w_16 c_19
  exact ⟨256 * q, 256 * q, 256, pk_mul 256 q, pk_mul 256 q, rfl, by omega, by omega, by decide, by decide, by rw [a4]; exact a7.2.2.2⟩
theorem vc_M_forget_91_0 (a_b : Int32) (y_thrown : Int32) (y_ring : Int32) (y_off : Int32) (y_fuse : Int32) (y_steps : Int32) (y_many : Int32) (y_log : Int32) (y_before : Int32) (y_home : Nat → Int32) (y_base : Nat → Int32) (y_now : Nat → Int32) (y_kinds : Nat → Int32) (y_blocks : Nat → Int32) (y_runs : Nat → Int32) (y_revokes : Nat → Int32) (y_from : Nat → Int32) (y_uses : Nat → Int32) (y_revoked : Nat → Int32) (y_had : Nat → Int32) (y_data : Nat → Int32) (r_16 : Int32) (v_27 : Int32) (b_ar_83 : Nat → Int32) (hpre : pr_M_forget a_b (y_thrown, y_ring, y_off, y_fuse, y_steps, y_many, y_log, y_before, y_home, y_base, y_now, y_kinds, y_blocks, y_runs, y_revokes, y_from, y_uses, y_revoked, y_had, y_data)) (c_9 : y_off = 0) (w_16 : po_M_noBlock a_b r_16) (c_19 : r_16 = 0) (e_27 : v_27 = (y_revokes (a_b).toNatClampNeg)) (c_28 : ¬ v_27 = 0) (w_83 : po_M_copy (256 * a_b) (256 * a_b) 256 16384 16384 y_home y_now y_home b_ar_83) : pr_M_size (upd y_revokes (a_b).toNatClampNeg (vp_nar .boolean 1)) := by
  trivial
theorem vc_M_forget_94_0 (a_b : Int32) (y_thrown : Int32) (y_ring : Int32) (y_off : Int32) (y_fuse : Int32) (y_steps : Int32) (y_many : Int32) (y_log : Int32) (y_before : Int32) (y_home : Nat → Int32) (y_base : Nat → Int32) (y_now : Nat → Int32) (y_kinds : Nat → Int32) (y_blocks : Nat → Int32) (y_runs : Nat → Int32) (y_revokes : Nat → Int32) (y_from : Nat → Int32) (y_uses : Nat → Int32) (y_revoked : Nat → Int32) (y_had : Nat → Int32) (y_data : Nat → Int32) (r_16 : Int32) (v_27 : Int32) (b_ar_83 : Nat → Int32) (r_91 : Int32) (hpre : pr_M_forget a_b (y_thrown, y_ring, y_off, y_fuse, y_steps, y_many, y_log, y_before, y_home, y_base, y_now, y_kinds, y_blocks, y_runs, y_revokes, y_from, y_uses, y_revoked, y_had, y_data)) (c_9 : y_off = 0) (w_16 : po_M_noBlock a_b r_16) (c_19 : r_16 = 0) (e_27 : v_27 = (y_revokes (a_b).toNatClampNeg)) (c_28 : ¬ v_27 = 0) (w_83 : po_M_copy (256 * a_b) (256 * a_b) 256 16384 16384 y_home y_now y_home b_ar_83) (w_91 : po_M_size (upd y_revokes (a_b).toNatClampNeg (vp_nar .boolean 1)) r_91) : po_M_forget a_b (y_thrown, y_ring, y_off, y_fuse, y_steps, y_many, y_log, y_before, y_home, y_base, y_now, y_kinds, y_blocks, y_runs, y_revokes, y_from, y_uses, y_revoked, y_had, y_data) r_91 (0, y_ring, y_off, y_fuse, y_steps, y_many, y_log, y_before, y_home, y_base, b_ar_83, y_kinds, y_blocks, (upd y_runs (a_b).toNatClampNeg (vp_nar .boolean 0)), (upd y_revokes (a_b).toNatClampNeg (vp_nar .boolean 1)), y_from, y_uses, y_revoked, y_had, y_data) := by
  intro σ hr hs
  obtain ⟨ring, run, rev, now, d, g⟩ := σ
  obtain ⟨o, a1, a2, a3, a4, a5, a6, a7, a8, a9, a10, a11, a12, a13, a14⟩ := m_al hr hs c_9
  obtain ⟨q, hq, rfl, hnb⟩ := nb_n w_16 c_19
  have e := row_at a2 hq e_27
  have hfull : ¬ (bitt rev q = false ∧ 30 ≤ cnt rev) := fun z => c_28 (by rw [e, z.1]; rfl)
  have w := w_83 (256 * q) (256 * q) 256 (pk_mul 256 q) (pk_mul 256 q) rfl (by omega) (by omega) (by decide) (by decide)
  have r1 := row_clr a1 hq
  have r2 := row_set a2 hq
  rw [nI_clamp (n := q) (by omega)] at w_91 ⊢
  rw [fF_ok o hnb (by rw [nI_clamp (n := q) (by omega)]; exact hfull), nI_clamp (n := q) (by omega)]
  refine ⟨w_91 _ r2, ?_⟩
  have ew : b_ar_83 = va_cpy d.2.2.2.2.2 now (q * 256) (q * 256) 256 := by rw [w, a4, a3, Nat.mul_comm q 256]
  rw [ew]
  exact RM_upd hr o r1 r2
theorem vc_M_forget_36_0 (a_b : Int32) (y_thrown : Int32) (y_ring : Int32) (y_off : Int32) (y_fuse : Int32) (y_steps : Int32) (y_many : Int32) (y_log : Int32) (y_before : Int32) (y_home : Nat → Int32) (y_base : Nat → Int32) (y_now : Nat → Int32) (y_kinds : Nat → Int32) (y_blocks : Nat → Int32) (y_runs : Nat → Int32) (y_revokes : Nat → Int32) (y_from : Nat → Int32) (y_uses : Nat → Int32) (y_revoked : Nat → Int32) (y_had : Nat → Int32) (y_data : Nat → Int32) (r_16 : Int32) (v_27 : Int32) (hpre : pr_M_forget a_b (y_thrown, y_ring, y_off, y_fuse, y_steps, y_many, y_log, y_before, y_home, y_base, y_now, y_kinds, y_blocks, y_runs, y_revokes, y_from, y_uses, y_revoked, y_had, y_data)) (c_9 : y_off = 0) (w_16 : po_M_noBlock a_b r_16) (c_19 : r_16 = 0) (e_27 : v_27 = (y_revokes (a_b).toNatClampNeg)) (c_28 : v_27 = 0) : pr_M_size y_revokes := by
  trivial
theorem vc_M_forget_53_1 (a_b : Int32) (y_thrown : Int32) (y_ring : Int32) (y_off : Int32) (y_fuse : Int32) (y_steps : Int32) (y_many : Int32) (y_log : Int32) (y_before : Int32) (y_home : Nat → Int32) (y_base : Nat → Int32) (y_now : Nat → Int32) (y_kinds : Nat → Int32) (y_blocks : Nat → Int32) (y_runs : Nat → Int32) (y_revokes : Nat → Int32) (y_from : Nat → Int32) (y_uses : Nat → Int32) (y_revoked : Nat → Int32) (y_had : Nat → Int32) (y_data : Nat → Int32) (r_16 : Int32) (v_27 : Int32) (r_36 : Int32) (hpre : pr_M_forget a_b (y_thrown, y_ring, y_off, y_fuse, y_steps, y_many, y_log, y_before, y_home, y_base, y_now, y_kinds, y_blocks, y_runs, y_revokes, y_from, y_uses, y_revoked, y_had, y_data)) (c_9 : y_off = 0) (w_16 : po_M_noBlock a_b r_16) (c_19 : r_16 = 0) (e_27 : v_27 = (y_revokes (a_b).toNatClampNeg)) (c_28 : v_27 = 0) (w_36 : po_M_size y_revokes r_36) (c_41 : ¬ r_36 = 30) : vp_in a_b 64 := by
  obtain ⟨q, hq, rfl, hnb⟩ := nb_n w_16 c_19
  exact vp_in_nI (by omega) (by decide)
theorem vc_M_forget_60_1 (a_b : Int32) (y_thrown : Int32) (y_ring : Int32) (y_off : Int32) (y_fuse : Int32) (y_steps : Int32) (y_many : Int32) (y_log : Int32) (y_before : Int32) (y_home : Nat → Int32) (y_base : Nat → Int32) (y_now : Nat → Int32) (y_kinds : Nat → Int32) (y_blocks : Nat → Int32) (y_runs : Nat → Int32) (y_revokes : Nat → Int32) (y_from : Nat → Int32) (y_uses : Nat → Int32) (y_revoked : Nat → Int32) (y_had : Nat → Int32) (y_data : Nat → Int32) (r_16 : Int32) (v_27 : Int32) (r_36 : Int32) (hpre : pr_M_forget a_b (y_thrown, y_ring, y_off, y_fuse, y_steps, y_many, y_log, y_before, y_home, y_base, y_now, y_kinds, y_blocks, y_runs, y_revokes, y_from, y_uses, y_revoked, y_had, y_data)) (c_9 : y_off = 0) (w_16 : po_M_noBlock a_b r_16) (c_19 : r_16 = 0) (e_27 : v_27 = (y_revokes (a_b).toNatClampNeg)) (c_28 : v_27 = 0) (w_36 : po_M_size y_revokes r_36) (c_41 : ¬ r_36 = 30) : vp_in a_b 64 := by
  obtain ⟨q, hq, rfl, hnb⟩ := nb_n w_16 c_19
  exact vp_in_nI (by omega) (by decide)
theorem vc_M_forget_83_1 (a_b : Int32) (y_thrown : Int32) (y_ring : Int32) (y_off : Int32) (y_fuse : Int32) (y_steps : Int32) (y_many : Int32) (y_log : Int32) (y_before : Int32) (y_home : Nat → Int32) (y_base : Nat → Int32) (y_now : Nat → Int32) (y_kinds : Nat → Int32) (y_blocks : Nat → Int32) (y_runs : Nat → Int32) (y_revokes : Nat → Int32) (y_from : Nat → Int32) (y_uses : Nat → Int32) (y_revoked : Nat → Int32) (y_had : Nat → Int32) (y_data : Nat → Int32) (r_16 : Int32) (v_27 : Int32) (r_36 : Int32) (hpre : pr_M_forget a_b (y_thrown, y_ring, y_off, y_fuse, y_steps, y_many, y_log, y_before, y_home, y_base, y_now, y_kinds, y_blocks, y_runs, y_revokes, y_from, y_uses, y_revoked, y_had, y_data)) (c_9 : y_off = 0) (w_16 : po_M_noBlock a_b r_16) (c_19 : r_16 = 0) (e_27 : v_27 = (y_revokes (a_b).toNatClampNeg)) (c_28 : v_27 = 0) (w_36 : po_M_size y_revokes r_36) (c_41 : ¬ r_36 = 30) : pr_M_copy (256 * a_b) (256 * a_b) 256 16384 16384 y_home y_now := by
  obtain ⟨σ, hr, hs⟩ := hpre
  obtain ⟨ring, run, rev, now, d, g⟩ := σ
  obtain ⟨o, a1, a2, a3, a4, a5, a6, a7, a8, a9, a10, a11, a12, a13, a14⟩ := m_al hr hs c_9
  obtain ⟨q, hq, rfl, hnb⟩ := nb_n w_16 c_19
  exact ⟨256 * q, 256 * q, 256, pk_mul 256 q, pk_mul 256 q, rfl, by omega, by omega, by decide, by decide, by rw [a4]; exact a7.2.2.2⟩
theorem vc_M_forget_91_1 (a_b : Int32) (y_thrown : Int32) (y_ring : Int32) (y_off : Int32) (y_fuse : Int32) (y_steps : Int32) (y_many : Int32) (y_log : Int32) (y_before : Int32) (y_home : Nat → Int32) (y_base : Nat → Int32) (y_now : Nat → Int32) (y_kinds : Nat → Int32) (y_blocks : Nat → Int32) (y_runs : Nat → Int32) (y_revokes : Nat → Int32) (y_from : Nat → Int32) (y_uses : Nat → Int32) (y_revoked : Nat → Int32) (y_had : Nat → Int32) (y_data : Nat → Int32) (r_16 : Int32) (v_27 : Int32) (r_36 : Int32) (b_ar_83 : Nat → Int32) (hpre : pr_M_forget a_b (y_thrown, y_ring, y_off, y_fuse, y_steps, y_many, y_log, y_before, y_home, y_base, y_now, y_kinds, y_blocks, y_runs, y_revokes, y_from, y_uses, y_revoked, y_had, y_data)) (c_9 : y_off = 0) (w_16 : po_M_noBlock a_b r_16) (c_19 : r_16 = 0) (e_27 : v_27 = (y_revokes (a_b).toNatClampNeg)) (c_28 : v_27 = 0) (w_36 : po_M_size y_revokes r_36) (c_41 : ¬ r_36 = 30) (w_83 : po_M_copy (256 * a_b) (256 * a_b) 256 16384 16384 y_home y_now y_home b_ar_83) : pr_M_size (upd y_revokes (a_b).toNatClampNeg (vp_nar .boolean 1)) := by
  trivial
theorem vc_M_forget_94_1 (a_b : Int32) (y_thrown : Int32) (y_ring : Int32) (y_off : Int32) (y_fuse : Int32) (y_steps : Int32) (y_many : Int32) (y_log : Int32) (y_before : Int32) (y_home : Nat → Int32) (y_base : Nat → Int32) (y_now : Nat → Int32) (y_kinds : Nat → Int32) (y_blocks : Nat → Int32) (y_runs : Nat → Int32) (y_revokes : Nat → Int32) (y_from : Nat → Int32) (y_uses : Nat → Int32) (y_revoked : Nat → Int32) (y_had : Nat → Int32) (y_data : Nat → Int32) (r_16 : Int32) (v_27 : Int32) (r_36 : Int32) (b_ar_83 : Nat → Int32) (r_91 : Int32) (hpre : pr_M_forget a_b (y_thrown, y_ring, y_off, y_fuse, y_steps, y_many, y_log, y_before, y_home, y_base, y_now, y_kinds, y_blocks, y_runs, y_revokes, y_from, y_uses, y_revoked, y_had, y_data)) (c_9 : y_off = 0) (w_16 : po_M_noBlock a_b r_16) (c_19 : r_16 = 0) (e_27 : v_27 = (y_revokes (a_b).toNatClampNeg)) (c_28 : v_27 = 0) (w_36 : po_M_size y_revokes r_36) (c_41 : ¬ r_36 = 30) (w_83 : po_M_copy (256 * a_b) (256 * a_b) 256 16384 16384 y_home y_now y_home b_ar_83) (w_91 : po_M_size (upd y_revokes (a_b).toNatClampNeg (vp_nar .boolean 1)) r_91) : po_M_forget a_b (y_thrown, y_ring, y_off, y_fuse, y_steps, y_many, y_log, y_before, y_home, y_base, y_now, y_kinds, y_blocks, y_runs, y_revokes, y_from, y_uses, y_revoked, y_had, y_data) r_91 (0, y_ring, y_off, y_fuse, y_steps, y_many, y_log, y_before, y_home, y_base, b_ar_83, y_kinds, y_blocks, (upd y_runs (a_b).toNatClampNeg (vp_nar .boolean 0)), (upd y_revokes (a_b).toNatClampNeg (vp_nar .boolean 1)), y_from, y_uses, y_revoked, y_had, y_data) := by
  intro σ hr hs
  obtain ⟨ring, run, rev, now, d, g⟩ := σ
  obtain ⟨o, a1, a2, a3, a4, a5, a6, a7, a8, a9, a10, a11, a12, a13, a14⟩ := m_al hr hs c_9
  obtain ⟨q, hq, rfl, hnb⟩ := nb_n w_16 c_19
  have w2 := w_36 rev a2
  have hfull : ¬ (bitt rev q = false ∧ 30 ≤ cnt rev) := fun z => c_41 (by rw [w2, show cnt rev = 30 from Nat.le_antisymm a10 z.2]; rfl)
  have w := w_83 (256 * q) (256 * q) 256 (pk_mul 256 q) (pk_mul 256 q) rfl (by omega) (by omega) (by decide) (by decide)
  have r1 := row_clr a1 hq
  have r2 := row_set a2 hq
  rw [nI_clamp (n := q) (by omega)] at w_91 ⊢
  rw [fF_ok o hnb (by rw [nI_clamp (n := q) (by omega)]; exact hfull), nI_clamp (n := q) (by omega)]
  refine ⟨w_91 _ r2, ?_⟩
  have ew : b_ar_83 = va_cpy d.2.2.2.2.2 now (q * 256) (q * 256) 256 := by rw [w, a4, a3, Nat.mul_comm q 256]
  rw [ew]
  exact RM_upd hr o r1 r2
theorem vc_M_forget_46_1 (a_b : Int32) (y_thrown : Int32) (y_ring : Int32) (y_off : Int32) (y_fuse : Int32) (y_steps : Int32) (y_many : Int32) (y_log : Int32) (y_before : Int32) (y_home : Nat → Int32) (y_base : Nat → Int32) (y_now : Nat → Int32) (y_kinds : Nat → Int32) (y_blocks : Nat → Int32) (y_runs : Nat → Int32) (y_revokes : Nat → Int32) (y_from : Nat → Int32) (y_uses : Nat → Int32) (y_revoked : Nat → Int32) (y_had : Nat → Int32) (y_data : Nat → Int32) (r_16 : Int32) (v_27 : Int32) (r_36 : Int32) (hpre : pr_M_forget a_b (y_thrown, y_ring, y_off, y_fuse, y_steps, y_many, y_log, y_before, y_home, y_base, y_now, y_kinds, y_blocks, y_runs, y_revokes, y_from, y_uses, y_revoked, y_had, y_data)) (c_9 : y_off = 0) (w_16 : po_M_noBlock a_b r_16) (c_19 : r_16 = 0) (e_27 : v_27 = (y_revokes (a_b).toNatClampNeg)) (c_28 : v_27 = 0) (w_36 : po_M_size y_revokes r_36) (c_41 : r_36 = 30) : po_M_forget a_b (y_thrown, y_ring, y_off, y_fuse, y_steps, y_many, y_log, y_before, y_home, y_base, y_now, y_kinds, y_blocks, y_runs, y_revokes, y_from, y_uses, y_revoked, y_had, y_data) (-2) (0, y_ring, y_off, y_fuse, y_steps, y_many, y_log, y_before, y_home, y_base, y_now, y_kinds, y_blocks, y_runs, y_revokes, y_from, y_uses, y_revoked, y_had, y_data) := by
  intro σ hr hs
  obtain ⟨ring, run, rev, now, d, g⟩ := σ
  obtain ⟨o, a1, a2, a3, a4, a5, a6, a7, a8, a9, a10, a11, a12, a13, a14⟩ := m_al hr hs c_9
  obtain ⟨q, hq, rfl, hnb⟩ := nb_n w_16 c_19
  have e := row_at a2 hq e_27
  have w := w_36 rev a2
  have hc : cnt rev = 30 := (nI_eq (by omega) (by decide)).mp (w.symm.trans c_41)
  rw [fF_full o hnb ⟨by rw [nI_clamp (by omega)]; exact b2i_0.mp (e.symm.trans c_28), by omega⟩]
  exact ⟨rfl, hr⟩
theorem vc_M_forget_13_0 (a_b : Int32) (y_thrown : Int32) (y_ring : Int32) (y_off : Int32) (y_fuse : Int32) (y_steps : Int32) (y_many : Int32) (y_log : Int32) (y_before : Int32) (y_home : Nat → Int32) (y_base : Nat → Int32) (y_now : Nat → Int32) (y_kinds : Nat → Int32) (y_blocks : Nat → Int32) (y_runs : Nat → Int32) (y_revokes : Nat → Int32) (y_from : Nat → Int32) (y_uses : Nat → Int32) (y_revoked : Nat → Int32) (y_had : Nat → Int32) (y_data : Nat → Int32) (hpre : pr_M_forget a_b (y_thrown, y_ring, y_off, y_fuse, y_steps, y_many, y_log, y_before, y_home, y_base, y_now, y_kinds, y_blocks, y_runs, y_revokes, y_from, y_uses, y_revoked, y_had, y_data)) (c_9 : ¬ y_off = 0) : po_M_forget a_b (y_thrown, y_ring, y_off, y_fuse, y_steps, y_many, y_log, y_before, y_home, y_base, y_now, y_kinds, y_blocks, y_runs, y_revokes, y_from, y_uses, y_revoked, y_had, y_data) (-1) (0, y_ring, y_off, y_fuse, y_steps, y_many, y_log, y_before, y_home, y_base, y_now, y_kinds, y_blocks, y_runs, y_revokes, y_from, y_uses, y_revoked, y_had, y_data) := by
  intro σ hr hs
  obtain ⟨ring, run, rev, now, d, g⟩ := σ
  rw [fF_off (m_off hr c_9)]
  exact ⟨rfl, hr⟩
theorem vc_M_fuse_27_0 (a_n : Int32) (y_thrown : Int32) (y_ring : Int32) (y_off : Int32) (y_fuse : Int32) (y_steps : Int32) (y_many : Int32) (y_log : Int32) (y_before : Int32) (y_home : Nat → Int32) (y_base : Nat → Int32) (y_now : Nat → Int32) (y_kinds : Nat → Int32) (y_blocks : Nat → Int32) (y_runs : Nat → Int32) (y_revokes : Nat → Int32) (y_from : Nat → Int32) (y_uses : Nat → Int32) (y_revoked : Nat → Int32) (y_had : Nat → Int32) (y_data : Nat → Int32) (hpre : pr_M_fuse a_n (y_thrown, y_ring, y_off, y_fuse, y_steps, y_many, y_log, y_before, y_home, y_base, y_now, y_kinds, y_blocks, y_runs, y_revokes, y_from, y_uses, y_revoked, y_had, y_data)) (c_9 : y_off = 0) (c_16 : a_n < (-1)) : po_M_fuse a_n (y_thrown, y_ring, y_off, y_fuse, y_steps, y_many, y_log, y_before, y_home, y_base, y_now, y_kinds, y_blocks, y_runs, y_revokes, y_from, y_uses, y_revoked, y_had, y_data) (-2) (0, y_ring, y_off, y_fuse, y_steps, y_many, y_log, y_before, y_home, y_base, y_now, y_kinds, y_blocks, y_runs, y_revokes, y_from, y_uses, y_revoked, y_had, y_data) := by
  intro σ hr hs
  obtain ⟨ring, run, rev, now, ⟨u, on, fu, st, ba, ho⟩, g⟩ := σ
  have hon : on = true := m_on hr c_9
  subst hon
  have e : fFuse a_n (ring, run, rev, now, (u, true, fu, st, ba, ho), g) = (-2, (ring, run, rev, now, (u, true, fu, st, ba, ho), g)) := if_pos (Or.inl c_16)
  rw [e]
  exact ⟨rfl, hr⟩
theorem vc_M_fuse_39_0 (a_n : Int32) (y_thrown : Int32) (y_ring : Int32) (y_off : Int32) (y_fuse : Int32) (y_steps : Int32) (y_many : Int32) (y_log : Int32) (y_before : Int32) (y_home : Nat → Int32) (y_base : Nat → Int32) (y_now : Nat → Int32) (y_kinds : Nat → Int32) (y_blocks : Nat → Int32) (y_runs : Nat → Int32) (y_revokes : Nat → Int32) (y_from : Nat → Int32) (y_uses : Nat → Int32) (y_revoked : Nat → Int32) (y_had : Nat → Int32) (y_data : Nat → Int32) (hpre : pr_M_fuse a_n (y_thrown, y_ring, y_off, y_fuse, y_steps, y_many, y_log, y_before, y_home, y_base, y_now, y_kinds, y_blocks, y_runs, y_revokes, y_from, y_uses, y_revoked, y_had, y_data)) (c_9 : y_off = 0) (c_16 : ¬ a_n < (-1)) (c_22 : a_n ≤ 100000) : po_M_fuse a_n (y_thrown, y_ring, y_off, y_fuse, y_steps, y_many, y_log, y_before, y_home, y_base, y_now, y_kinds, y_blocks, y_runs, y_revokes, y_from, y_uses, y_revoked, y_had, y_data) y_fuse (0, y_ring, y_off, a_n, y_steps, y_many, y_log, y_before, y_home, y_base, y_now, y_kinds, y_blocks, y_runs, y_revokes, y_from, y_uses, y_revoked, y_had, y_data) := by
  intro σ hr hs
  obtain ⟨ring, run, rev, now, ⟨u, on, fu, st, ba, ho⟩, g⟩ := σ
  have hon : on = true := m_on hr c_9
  subst hon
  have e : fFuse a_n (ring, run, rev, now, (u, true, fu, st, ba, ho), g) = (fu, (ring, run, rev, now, (u, true, a_n, st, ba, ho), g)) := if_neg (fun z => z.elim c_16 (fun y => absurd c_22 (Int32.not_le.mpr y)))
  rw [e]
  obtain ⟨⟨q1, q2, q3, q4, q5, q6, q7, q8⟩, k2, k3, k4⟩ := hr
  exact ⟨q2, ⟨q1, rfl, q3, q4, q5, q6, q7, q8⟩, k2, k3, k4⟩
theorem vc_M_fuse_27_1 (a_n : Int32) (y_thrown : Int32) (y_ring : Int32) (y_off : Int32) (y_fuse : Int32) (y_steps : Int32) (y_many : Int32) (y_log : Int32) (y_before : Int32) (y_home : Nat → Int32) (y_base : Nat → Int32) (y_now : Nat → Int32) (y_kinds : Nat → Int32) (y_blocks : Nat → Int32) (y_runs : Nat → Int32) (y_revokes : Nat → Int32) (y_from : Nat → Int32) (y_uses : Nat → Int32) (y_revoked : Nat → Int32) (y_had : Nat → Int32) (y_data : Nat → Int32) (hpre : pr_M_fuse a_n (y_thrown, y_ring, y_off, y_fuse, y_steps, y_many, y_log, y_before, y_home, y_base, y_now, y_kinds, y_blocks, y_runs, y_revokes, y_from, y_uses, y_revoked, y_had, y_data)) (c_9 : y_off = 0) (c_16 : ¬ a_n < (-1)) (c_22 : ¬ a_n ≤ 100000) : po_M_fuse a_n (y_thrown, y_ring, y_off, y_fuse, y_steps, y_many, y_log, y_before, y_home, y_base, y_now, y_kinds, y_blocks, y_runs, y_revokes, y_from, y_uses, y_revoked, y_had, y_data) (-2) (0, y_ring, y_off, y_fuse, y_steps, y_many, y_log, y_before, y_home, y_base, y_now, y_kinds, y_blocks, y_runs, y_revokes, y_from, y_uses, y_revoked, y_had, y_data) := by
  intro σ hr hs
  obtain ⟨ring, run, rev, now, ⟨u, on, fu, st, ba, ho⟩, g⟩ := σ
  have hon : on = true := m_on hr c_9
  subst hon
  have e : fFuse a_n (ring, run, rev, now, (u, true, fu, st, ba, ho), g) = (-2, (ring, run, rev, now, (u, true, fu, st, ba, ho), g)) := if_pos (Or.inr (Int32.not_le.mp c_22))
  rw [e]
  exact ⟨rfl, hr⟩
theorem vc_M_fuse_13_0 (a_n : Int32) (y_thrown : Int32) (y_ring : Int32) (y_off : Int32) (y_fuse : Int32) (y_steps : Int32) (y_many : Int32) (y_log : Int32) (y_before : Int32) (y_home : Nat → Int32) (y_base : Nat → Int32) (y_now : Nat → Int32) (y_kinds : Nat → Int32) (y_blocks : Nat → Int32) (y_runs : Nat → Int32) (y_revokes : Nat → Int32) (y_from : Nat → Int32) (y_uses : Nat → Int32) (y_revoked : Nat → Int32) (y_had : Nat → Int32) (y_data : Nat → Int32) (hpre : pr_M_fuse a_n (y_thrown, y_ring, y_off, y_fuse, y_steps, y_many, y_log, y_before, y_home, y_base, y_now, y_kinds, y_blocks, y_runs, y_revokes, y_from, y_uses, y_revoked, y_had, y_data)) (c_9 : ¬ y_off = 0) : po_M_fuse a_n (y_thrown, y_ring, y_off, y_fuse, y_steps, y_many, y_log, y_before, y_home, y_base, y_now, y_kinds, y_blocks, y_runs, y_revokes, y_from, y_uses, y_revoked, y_had, y_data) (-1) (0, y_ring, y_off, y_fuse, y_steps, y_many, y_log, y_before, y_home, y_base, y_now, y_kinds, y_blocks, y_runs, y_revokes, y_from, y_uses, y_revoked, y_had, y_data) := by
  intro σ hr hs
  obtain ⟨ring, run, rev, now, ⟨u, on, fu, st, ba, ho⟩, g⟩ := σ
  have hon : on = false := m_off hr c_9
  subst hon
  exact ⟨rfl, hr⟩
theorem vc_M_fail_15_0 (y_thrown : Int32) (y_ring : Int32) (y_off : Int32) (y_fuse : Int32) (y_steps : Int32) (y_many : Int32) (y_log : Int32) (y_before : Int32) (y_home : Nat → Int32) (y_base : Nat → Int32) (y_now : Nat → Int32) (y_kinds : Nat → Int32) (y_blocks : Nat → Int32) (y_runs : Nat → Int32) (y_revokes : Nat → Int32) (y_from : Nat → Int32) (y_uses : Nat → Int32) (y_revoked : Nat → Int32) (y_had : Nat → Int32) (y_data : Nat → Int32) (hpre : pr_M_fail (y_thrown, y_ring, y_off, y_fuse, y_steps, y_many, y_log, y_before, y_home, y_base, y_now, y_kinds, y_blocks, y_runs, y_revokes, y_from, y_uses, y_revoked, y_had, y_data)) (c_9 : y_off = 0) : pr_M_powerOff (0, y_ring, y_off, y_fuse, y_steps, y_many, y_log, y_before, y_home, y_base, y_now, y_kinds, y_blocks, y_runs, y_revokes, y_from, y_uses, y_revoked, y_had, y_data) := by
  trivial
theorem vc_M_fail_22_0 (y_thrown : Int32) (y_ring : Int32) (y_off : Int32) (y_fuse : Int32) (y_steps : Int32) (y_many : Int32) (y_log : Int32) (y_before : Int32) (y_home : Nat → Int32) (y_base : Nat → Int32) (y_now : Nat → Int32) (y_kinds : Nat → Int32) (y_blocks : Nat → Int32) (y_runs : Nat → Int32) (y_revokes : Nat → Int32) (y_from : Nat → Int32) (y_uses : Nat → Int32) (y_revoked : Nat → Int32) (y_had : Nat → Int32) (y_data : Nat → Int32) (y_off_15 : Int32) (y_runs_15 : Nat → Int32) (y_revokes_15 : Nat → Int32) (hpre : pr_M_fail (y_thrown, y_ring, y_off, y_fuse, y_steps, y_many, y_log, y_before, y_home, y_base, y_now, y_kinds, y_blocks, y_runs, y_revokes, y_from, y_uses, y_revoked, y_had, y_data)) (c_9 : y_off = 0) (w_15 : po_M_powerOff (0, y_ring, y_off, y_fuse, y_steps, y_many, y_log, y_before, y_home, y_base, y_now, y_kinds, y_blocks, y_runs, y_revokes, y_from, y_uses, y_revoked, y_had, y_data) (0, y_ring, y_off_15, y_fuse, y_steps, y_many, y_log, y_before, y_home, y_base, y_now, y_kinds, y_blocks, y_runs_15, y_revokes_15, y_from, y_uses, y_revoked, y_had, y_data)) : po_M_fail (y_thrown, y_ring, y_off, y_fuse, y_steps, y_many, y_log, y_before, y_home, y_base, y_now, y_kinds, y_blocks, y_runs, y_revokes, y_from, y_uses, y_revoked, y_had, y_data) y_many (0, y_ring, y_off_15, y_fuse, y_steps, y_many, y_log, y_before, y_home, y_base, y_now, y_kinds, y_blocks, y_runs_15, y_revokes_15, y_from, y_uses, y_revoked, y_had, y_data) := by
  intro σ hr hs
  obtain ⟨ring, run, rev, now, ⟨u, on, fu, st, ba, ho⟩, g⟩ := σ
  have hon : on = true := m_on hr c_9
  subst hon
  have e : fFail (ring, run, rev, now, (u, true, fu, st, ba, ho), g) = (nI u.length, (ring, run, rev, now, (u, false, fu, st, ba, ho), g)) := rfl
  rw [e]
  obtain ⟨⟨q1, q2, q3, q4, q5, q6, q7, q8⟩, k2, k3, k4⟩ := hr
  obtain ⟨w1, w2, w3⟩ := w_15
  exact ⟨q4.1, ⟨w1, q2, q3, q4, q5, q6, w2, w3⟩, k2, k3, k4.1, fun z => (nomatch z), k4.2.2⟩
theorem vc_M_fail_13_0 (y_thrown : Int32) (y_ring : Int32) (y_off : Int32) (y_fuse : Int32) (y_steps : Int32) (y_many : Int32) (y_log : Int32) (y_before : Int32) (y_home : Nat → Int32) (y_base : Nat → Int32) (y_now : Nat → Int32) (y_kinds : Nat → Int32) (y_blocks : Nat → Int32) (y_runs : Nat → Int32) (y_revokes : Nat → Int32) (y_from : Nat → Int32) (y_uses : Nat → Int32) (y_revoked : Nat → Int32) (y_had : Nat → Int32) (y_data : Nat → Int32) (hpre : pr_M_fail (y_thrown, y_ring, y_off, y_fuse, y_steps, y_many, y_log, y_before, y_home, y_base, y_now, y_kinds, y_blocks, y_runs, y_revokes, y_from, y_uses, y_revoked, y_had, y_data)) (c_9 : ¬ y_off = 0) : po_M_fail (y_thrown, y_ring, y_off, y_fuse, y_steps, y_many, y_log, y_before, y_home, y_base, y_now, y_kinds, y_blocks, y_runs, y_revokes, y_from, y_uses, y_revoked, y_had, y_data) (-1) (0, y_ring, y_off, y_fuse, y_steps, y_many, y_log, y_before, y_home, y_base, y_now, y_kinds, y_blocks, y_runs, y_revokes, y_from, y_uses, y_revoked, y_had, y_data) := by
  intro σ hr hs
  obtain ⟨ring, run, rev, now, ⟨u, on, fu, st, ba, ho⟩, g⟩ := σ
  have hon : on = false := m_off hr c_9
  subst hon
  exact ⟨rfl, hr⟩
def yOff : MDt → Int32
  | (_, _, off, _, _, _, _, _, _, _, _, _, _, _, _, _, _, _, _, _) => off
def iv_M_count_72 (w : Int32) (y : MDt) (x2 x3 : Int32) (_ : MDt) : Prop := yOff y = 0 ∧ w = 2 ∧ ∃ b : Nat, b ≤ 64 ∧ x3 = nI b ∧ ∀ g : Lg, RMl g y → lgN g.1 y → okG g → x2 = nI (rk (sLying g) b)
def mu_M_count_72 (_ : Int32) (_ : MDt) (_ x3 : Int32) (_ : MDt) : Nat := 64 - x3.toNatClampNeg

theorem vc_M_count_101_0 (a_w : Int32) (y_thrown : Int32) (y_ring : Int32) (y_off : Int32) (y_fuse : Int32) (y_steps : Int32) (y_many : Int32) (y_log : Int32) (y_before : Int32) (y_home : Nat → Int32) (y_base : Nat → Int32) (y_now : Nat → Int32) (y_kinds : Nat → Int32) (y_blocks : Nat → Int32) (y_runs : Nat → Int32) (y_revokes : Nat → Int32) (y_from : Nat → Int32) (y_uses : Nat → Int32) (y_revoked : Nat → Int32) (y_had : Nat → Int32) (y_data : Nat → Int32) (x2 : Int32) (x3 : Int32) (y_thrown_i : Int32) (hpre : pr_M_count a_w (y_thrown, y_ring, y_off, y_fuse, y_steps, y_many, y_log, y_before, y_home, y_base, y_now, y_kinds, y_blocks, y_runs, y_revokes, y_from, y_uses, y_revoked, y_had, y_data)) (hinv : iv_M_count_72 a_w (y_thrown, y_ring, y_off, y_fuse, y_steps, y_many, y_log, y_before, y_home, y_base, y_now, y_kinds, y_blocks, y_runs, y_revokes, y_from, y_uses, y_revoked, y_had, y_data) x2 x3 (y_thrown_i, y_ring, y_off, y_fuse, y_steps, y_many, y_log, y_before, y_home, y_base, y_now, y_kinds, y_blocks, y_runs, y_revokes, y_from, y_uses, y_revoked, y_had, y_data)) (c_75 : 64 ≤ x3) : po_M_count a_w (y_thrown, y_ring, y_off, y_fuse, y_steps, y_many, y_log, y_before, y_home, y_base, y_now, y_kinds, y_blocks, y_runs, y_revokes, y_from, y_uses, y_revoked, y_had, y_data) x2 (y_thrown_i, y_ring, y_off, y_fuse, y_steps, y_many, y_log, y_before, y_home, y_base, y_now, y_kinds, y_blocks, y_runs, y_revokes, y_from, y_uses, y_revoked, y_had, y_data) := by
  intro σ hr hs
  obtain ⟨ring, run, rev, now, ⟨u, on, fu, st, ba, ho⟩, g⟩ := σ
  obtain ⟨c_9, c_17, b, hb, rfl, h⟩ := hinv
  obtain ⟨o, a1, a2, a3, a4, a5, a6, a7, a8, a9, a10, a11, a12, a13, a14⟩ := m_al hr hs c_9
  have hon : on = true := m_on hr c_9
  subst hon
  have hb2 : 64 ≤ b := (nI_leI (a := 64) (by decide) (by omega)).mp c_75
  have e : b = 64 := by omega
  subst e
  subst c_17
  have r := h g hr.2.1 a5 a8
  rw [rk_64] at r
  exact ⟨r, hr⟩
theorem vc_M_count_81_0 (a_w : Int32) (y_thrown : Int32) (y_ring : Int32) (y_off : Int32) (y_fuse : Int32) (y_steps : Int32) (y_many : Int32) (y_log : Int32) (y_before : Int32) (y_home : Nat → Int32) (y_base : Nat → Int32) (y_now : Nat → Int32) (y_kinds : Nat → Int32) (y_blocks : Nat → Int32) (y_runs : Nat → Int32) (y_revokes : Nat → Int32) (y_from : Nat → Int32) (y_uses : Nat → Int32) (y_revoked : Nat → Int32) (y_had : Nat → Int32) (y_data : Nat → Int32) (x2 : Int32) (x3 : Int32) (y_thrown_i : Int32) (hpre : pr_M_count a_w (y_thrown, y_ring, y_off, y_fuse, y_steps, y_many, y_log, y_before, y_home, y_base, y_now, y_kinds, y_blocks, y_runs, y_revokes, y_from, y_uses, y_revoked, y_had, y_data)) (hinv : iv_M_count_72 a_w (y_thrown, y_ring, y_off, y_fuse, y_steps, y_many, y_log, y_before, y_home, y_base, y_now, y_kinds, y_blocks, y_runs, y_revokes, y_from, y_uses, y_revoked, y_had, y_data) x2 x3 (y_thrown_i, y_ring, y_off, y_fuse, y_steps, y_many, y_log, y_before, y_home, y_base, y_now, y_kinds, y_blocks, y_runs, y_revokes, y_from, y_uses, y_revoked, y_had, y_data)) (c_75 : ¬ 64 ≤ x3) : pr_M_told x3 (y_thrown_i, y_ring, y_off, y_fuse, y_steps, y_many, y_log, y_before, y_home, y_base, y_now, y_kinds, y_blocks, y_runs, y_revokes, y_from, y_uses, y_revoked, y_had, y_data) := by
  obtain ⟨c_9, c_17, b, hb, rfl, h⟩ := hinv
  obtain ⟨σ, hr, hs⟩ := hpre
  obtain ⟨ring, run, rev, now, d, g⟩ := σ
  obtain ⟨o, a1, a2, a3, a4, a5, a6, a7, a8, a9, a10, a11, a12, a13, a14⟩ := m_al hr hs c_9
  have hb2 : ¬ 64 ≤ b := fun z => c_75 (nI_le (a := 64) z (by omega))
  exact ⟨g, b, hr.2.1, a5, a8, rfl, by omega⟩
theorem vc_M_count_97_0 (a_w : Int32) (y_thrown : Int32) (y_ring : Int32) (y_off : Int32) (y_fuse : Int32) (y_steps : Int32) (y_many : Int32) (y_log : Int32) (y_before : Int32) (y_home : Nat → Int32) (y_base : Nat → Int32) (y_now : Nat → Int32) (y_kinds : Nat → Int32) (y_blocks : Nat → Int32) (y_runs : Nat → Int32) (y_revokes : Nat → Int32) (y_from : Nat → Int32) (y_uses : Nat → Int32) (y_revoked : Nat → Int32) (y_had : Nat → Int32) (y_data : Nat → Int32) (x2 : Int32) (x3 : Int32) (y_thrown_i : Int32) (r_81 : Int32) (v_93 : Int32) (v_94 : Int32) (hpre : pr_M_count a_w (y_thrown, y_ring, y_off, y_fuse, y_steps, y_many, y_log, y_before, y_home, y_base, y_now, y_kinds, y_blocks, y_runs, y_revokes, y_from, y_uses, y_revoked, y_had, y_data)) (hinv : iv_M_count_72 a_w (y_thrown, y_ring, y_off, y_fuse, y_steps, y_many, y_log, y_before, y_home, y_base, y_now, y_kinds, y_blocks, y_runs, y_revokes, y_from, y_uses, y_revoked, y_had, y_data) x2 x3 (y_thrown_i, y_ring, y_off, y_fuse, y_steps, y_many, y_log, y_before, y_home, y_base, y_now, y_kinds, y_blocks, y_runs, y_revokes, y_from, y_uses, y_revoked, y_had, y_data)) (c_75 : ¬ 64 ≤ x3) (w_81 : po_M_told x3 (y_thrown_i, y_ring, y_off, y_fuse, y_steps, y_many, y_log, y_before, y_home, y_base, y_now, y_kinds, y_blocks, y_runs, y_revokes, y_from, y_uses, y_revoked, y_had, y_data) r_81) (c_84 : r_81 < 0) (e_93 : v_93 = (x2 + 0)) (e_94 : v_94 = x3 + 1) : iv_M_count_72 a_w (y_thrown, y_ring, y_off, y_fuse, y_steps, y_many, y_log, y_before, y_home, y_base, y_now, y_kinds, y_blocks, y_runs, y_revokes, y_from, y_uses, y_revoked, y_had, y_data) v_93 v_94 (y_thrown_i, y_ring, y_off, y_fuse, y_steps, y_many, y_log, y_before, y_home, y_base, y_now, y_kinds, y_blocks, y_runs, y_revokes, y_from, y_uses, y_revoked, y_had, y_data) ∧ mu_M_count_72 a_w (y_thrown, y_ring, y_off, y_fuse, y_steps, y_many, y_log, y_before, y_home, y_base, y_now, y_kinds, y_blocks, y_runs, y_revokes, y_from, y_uses, y_revoked, y_had, y_data) v_93 v_94 (y_thrown_i, y_ring, y_off, y_fuse, y_steps, y_many, y_log, y_before, y_home, y_base, y_now, y_kinds, y_blocks, y_runs, y_revokes, y_from, y_uses, y_revoked, y_had, y_data) < mu_M_count_72 a_w (y_thrown, y_ring, y_off, y_fuse, y_steps, y_many, y_log, y_before, y_home, y_base, y_now, y_kinds, y_blocks, y_runs, y_revokes, y_from, y_uses, y_revoked, y_had, y_data) x2 x3 (y_thrown_i, y_ring, y_off, y_fuse, y_steps, y_many, y_log, y_before, y_home, y_base, y_now, y_kinds, y_blocks, y_runs, y_revokes, y_from, y_uses, y_revoked, y_had, y_data) := by
  obtain ⟨c_9, c_17, b, hb, rfl, h⟩ := hinv
  have hb2 : ¬ 64 ≤ b := fun z => c_75 (nI_le (a := 64) z (by omega))
  refine ⟨⟨c_9, c_17, b + 1, by omega, by rw [e_94]; exact nI_1 b, fun g hg hl ho => ?_⟩, ?_⟩
  · have r := h g hg hl ho
    have w := w_81 g b hg hl ho rfl (by omega)
    rw [w] at c_84
    have hf := told_ne ho (by omega) c_84
    rw [e_93, r, rk_s, hf]
    exact nI_add _ 0
  · show 64 - v_94.toNatClampNeg < 64 - (nI b).toNatClampNeg
    rw [e_94, nI_1, nI_clamp (by omega), nI_clamp (by omega)]
    omega
theorem vc_M_count_97_1 (a_w : Int32) (y_thrown : Int32) (y_ring : Int32) (y_off : Int32) (y_fuse : Int32) (y_steps : Int32) (y_many : Int32) (y_log : Int32) (y_before : Int32) (y_home : Nat → Int32) (y_base : Nat → Int32) (y_now : Nat → Int32) (y_kinds : Nat → Int32) (y_blocks : Nat → Int32) (y_runs : Nat → Int32) (y_revokes : Nat → Int32) (y_from : Nat → Int32) (y_uses : Nat → Int32) (y_revoked : Nat → Int32) (y_had : Nat → Int32) (y_data : Nat → Int32) (x2 : Int32) (x3 : Int32) (y_thrown_i : Int32) (r_81 : Int32) (v_93 : Int32) (v_94 : Int32) (hpre : pr_M_count a_w (y_thrown, y_ring, y_off, y_fuse, y_steps, y_many, y_log, y_before, y_home, y_base, y_now, y_kinds, y_blocks, y_runs, y_revokes, y_from, y_uses, y_revoked, y_had, y_data)) (hinv : iv_M_count_72 a_w (y_thrown, y_ring, y_off, y_fuse, y_steps, y_many, y_log, y_before, y_home, y_base, y_now, y_kinds, y_blocks, y_runs, y_revokes, y_from, y_uses, y_revoked, y_had, y_data) x2 x3 (y_thrown_i, y_ring, y_off, y_fuse, y_steps, y_many, y_log, y_before, y_home, y_base, y_now, y_kinds, y_blocks, y_runs, y_revokes, y_from, y_uses, y_revoked, y_had, y_data)) (c_75 : ¬ 64 ≤ x3) (w_81 : po_M_told x3 (y_thrown_i, y_ring, y_off, y_fuse, y_steps, y_many, y_log, y_before, y_home, y_base, y_now, y_kinds, y_blocks, y_runs, y_revokes, y_from, y_uses, y_revoked, y_had, y_data) r_81) (c_84 : ¬ r_81 < 0) (e_93 : v_93 = (x2 + 1)) (e_94 : v_94 = x3 + 1) : iv_M_count_72 a_w (y_thrown, y_ring, y_off, y_fuse, y_steps, y_many, y_log, y_before, y_home, y_base, y_now, y_kinds, y_blocks, y_runs, y_revokes, y_from, y_uses, y_revoked, y_had, y_data) v_93 v_94 (y_thrown_i, y_ring, y_off, y_fuse, y_steps, y_many, y_log, y_before, y_home, y_base, y_now, y_kinds, y_blocks, y_runs, y_revokes, y_from, y_uses, y_revoked, y_had, y_data) ∧ mu_M_count_72 a_w (y_thrown, y_ring, y_off, y_fuse, y_steps, y_many, y_log, y_before, y_home, y_base, y_now, y_kinds, y_blocks, y_runs, y_revokes, y_from, y_uses, y_revoked, y_had, y_data) v_93 v_94 (y_thrown_i, y_ring, y_off, y_fuse, y_steps, y_many, y_log, y_before, y_home, y_base, y_now, y_kinds, y_blocks, y_runs, y_revokes, y_from, y_uses, y_revoked, y_had, y_data) < mu_M_count_72 a_w (y_thrown, y_ring, y_off, y_fuse, y_steps, y_many, y_log, y_before, y_home, y_base, y_now, y_kinds, y_blocks, y_runs, y_revokes, y_from, y_uses, y_revoked, y_had, y_data) x2 x3 (y_thrown_i, y_ring, y_off, y_fuse, y_steps, y_many, y_log, y_before, y_home, y_base, y_now, y_kinds, y_blocks, y_runs, y_revokes, y_from, y_uses, y_revoked, y_had, y_data) := by
  obtain ⟨c_9, c_17, b, hb, rfl, h⟩ := hinv
  have hb2 : ¬ 64 ≤ b := fun z => c_75 (nI_le (a := 64) z (by omega))
  refine ⟨⟨c_9, c_17, b + 1, by omega, by rw [e_94]; exact nI_1 b, fun g hg hl ho => ?_⟩, ?_⟩
  · have r := h g hg hl ho
    have w := w_81 g b hg hl ho rfl (by omega)
    rw [w] at c_84
    have hf := told_po c_84
    rw [e_93, r, rk_s, hf]
    exact nI_1 _
  · show 64 - v_94.toNatClampNeg < 64 - (nI b).toNatClampNeg
    rw [e_94, nI_1, nI_clamp (by omega), nI_clamp (by omega)]
    omega
theorem vc_M_count_132_0 (a_w : Int32) (y_thrown : Int32) (y_ring : Int32) (y_off : Int32) (y_fuse : Int32) (y_steps : Int32) (y_many : Int32) (y_log : Int32) (y_before : Int32) (y_home : Nat → Int32) (y_base : Nat → Int32) (y_now : Nat → Int32) (y_kinds : Nat → Int32) (y_blocks : Nat → Int32) (y_runs : Nat → Int32) (y_revokes : Nat → Int32) (y_from : Nat → Int32) (y_uses : Nat → Int32) (y_revoked : Nat → Int32) (y_had : Nat → Int32) (y_data : Nat → Int32) (hpre : pr_M_count a_w (y_thrown, y_ring, y_off, y_fuse, y_steps, y_many, y_log, y_before, y_home, y_base, y_now, y_kinds, y_blocks, y_runs, y_revokes, y_from, y_uses, y_revoked, y_had, y_data)) (c_9 : y_off = 0) (c_17 : (a_w.toInt < 0 ∨ 6 < a_w.toInt)) : po_M_count a_w (y_thrown, y_ring, y_off, y_fuse, y_steps, y_many, y_log, y_before, y_home, y_base, y_now, y_kinds, y_blocks, y_runs, y_revokes, y_from, y_uses, y_revoked, y_had, y_data) (-2) (0, y_ring, y_off, y_fuse, y_steps, y_many, y_log, y_before, y_home, y_base, y_now, y_kinds, y_blocks, y_runs, y_revokes, y_from, y_uses, y_revoked, y_had, y_data) := by
  intro σ hr hs
  obtain ⟨ring, run, rev, now, ⟨u, on, fu, st, ba, ho⟩, g⟩ := σ
  have hon : on = true := m_on hr c_9
  subst hon
  have hne : ∀ k : Int32, (0 ≤ k.toInt ∧ k.toInt ≤ 6) → ¬ a_w = k := fun k hk z => by subst z; omega
  refine ⟨?_, hr⟩
  show (-2 : Int32) = if true = false then -1 else if a_w = 0 then _ else if a_w = 1 then _ else if a_w = 2 then _ else if a_w = 3 then _ else if a_w = 4 then _ else if a_w = 5 then _ else if a_w = 6 then _ else -2
  rw [if_neg (fun z => by cases z), if_neg (hne 0 (by decide)), if_neg (hne 1 (by decide)), if_neg (hne 2 (by decide)), if_neg (hne 3 (by decide)), if_neg (hne 4 (by decide)), if_neg (hne 5 (by decide)), if_neg (hne 6 (by decide))]
theorem vc_M_count_64_0 (a_w : Int32) (y_thrown : Int32) (y_ring : Int32) (y_off : Int32) (y_fuse : Int32) (y_steps : Int32) (y_many : Int32) (y_log : Int32) (y_before : Int32) (y_home : Nat → Int32) (y_base : Nat → Int32) (y_now : Nat → Int32) (y_kinds : Nat → Int32) (y_blocks : Nat → Int32) (y_runs : Nat → Int32) (y_revokes : Nat → Int32) (y_from : Nat → Int32) (y_uses : Nat → Int32) (y_revoked : Nat → Int32) (y_had : Nat → Int32) (y_data : Nat → Int32) (hpre : pr_M_count a_w (y_thrown, y_ring, y_off, y_fuse, y_steps, y_many, y_log, y_before, y_home, y_base, y_now, y_kinds, y_blocks, y_runs, y_revokes, y_from, y_uses, y_revoked, y_had, y_data)) (c_9 : y_off = 0) (c_17 : a_w = 0) : po_M_count a_w (y_thrown, y_ring, y_off, y_fuse, y_steps, y_many, y_log, y_before, y_home, y_base, y_now, y_kinds, y_blocks, y_runs, y_revokes, y_from, y_uses, y_revoked, y_had, y_data) y_log (0, y_ring, y_off, y_fuse, y_steps, y_many, y_log, y_before, y_home, y_base, y_now, y_kinds, y_blocks, y_runs, y_revokes, y_from, y_uses, y_revoked, y_had, y_data) := by
  intro σ hr hs
  obtain ⟨ring, run, rev, now, ⟨u, on, fu, st, ba, ho⟩, g⟩ := σ
  obtain ⟨o, a1, a2, a3, a4, a5, a6, a7, a8, a9, a10, a11, a12, a13, a14⟩ := m_al hr hs c_9
  have hon : on = true := m_on hr c_9
  subst hon
  subst c_17
  exact ⟨a5, hr⟩
theorem vc_M_count_66_0 (a_w : Int32) (y_thrown : Int32) (y_ring : Int32) (y_off : Int32) (y_fuse : Int32) (y_steps : Int32) (y_many : Int32) (y_log : Int32) (y_before : Int32) (y_home : Nat → Int32) (y_base : Nat → Int32) (y_now : Nat → Int32) (y_kinds : Nat → Int32) (y_blocks : Nat → Int32) (y_runs : Nat → Int32) (y_revokes : Nat → Int32) (y_from : Nat → Int32) (y_uses : Nat → Int32) (y_revoked : Nat → Int32) (y_had : Nat → Int32) (y_data : Nat → Int32) (hpre : pr_M_count a_w (y_thrown, y_ring, y_off, y_fuse, y_steps, y_many, y_log, y_before, y_home, y_base, y_now, y_kinds, y_blocks, y_runs, y_revokes, y_from, y_uses, y_revoked, y_had, y_data)) (c_9 : y_off = 0) (c_17 : a_w = 1) : pr_M_used (0, y_ring, y_off, y_fuse, y_steps, y_many, y_log, y_before, y_home, y_base, y_now, y_kinds, y_blocks, y_runs, y_revokes, y_from, y_uses, y_revoked, y_had, y_data) := by
  obtain ⟨σ, hr, hs⟩ := hpre
  obtain ⟨ring, run, rev, now, d, g⟩ := σ
  obtain ⟨o, a1, a2, a3, a4, a5, a6, a7, a8, a9, a10, a11, a12, a13, a14⟩ := m_al hr hs c_9
  exact ⟨g, hr.2.1, a5, a8⟩
theorem vc_M_count_69_0 (a_w : Int32) (y_thrown : Int32) (y_ring : Int32) (y_off : Int32) (y_fuse : Int32) (y_steps : Int32) (y_many : Int32) (y_log : Int32) (y_before : Int32) (y_home : Nat → Int32) (y_base : Nat → Int32) (y_now : Nat → Int32) (y_kinds : Nat → Int32) (y_blocks : Nat → Int32) (y_runs : Nat → Int32) (y_revokes : Nat → Int32) (y_from : Nat → Int32) (y_uses : Nat → Int32) (y_revoked : Nat → Int32) (y_had : Nat → Int32) (y_data : Nat → Int32) (r_66 : Int32) (hpre : pr_M_count a_w (y_thrown, y_ring, y_off, y_fuse, y_steps, y_many, y_log, y_before, y_home, y_base, y_now, y_kinds, y_blocks, y_runs, y_revokes, y_from, y_uses, y_revoked, y_had, y_data)) (c_9 : y_off = 0) (c_17 : a_w = 1) (w_66 : po_M_used (0, y_ring, y_off, y_fuse, y_steps, y_many, y_log, y_before, y_home, y_base, y_now, y_kinds, y_blocks, y_runs, y_revokes, y_from, y_uses, y_revoked, y_had, y_data) r_66) : po_M_count a_w (y_thrown, y_ring, y_off, y_fuse, y_steps, y_many, y_log, y_before, y_home, y_base, y_now, y_kinds, y_blocks, y_runs, y_revokes, y_from, y_uses, y_revoked, y_had, y_data) r_66 (0, y_ring, y_off, y_fuse, y_steps, y_many, y_log, y_before, y_home, y_base, y_now, y_kinds, y_blocks, y_runs, y_revokes, y_from, y_uses, y_revoked, y_had, y_data) := by
  intro σ hr hs
  obtain ⟨ring, run, rev, now, ⟨u, on, fu, st, ba, ho⟩, g⟩ := σ
  obtain ⟨o, a1, a2, a3, a4, a5, a6, a7, a8, a9, a10, a11, a12, a13, a14⟩ := m_al hr hs c_9
  have hon : on = true := m_on hr c_9
  subst hon
  subst c_17
  exact ⟨w_66 g hr.2.1 a5 a8, hr⟩
theorem vc_M_count_71_0 (a_w : Int32) (y_thrown : Int32) (y_ring : Int32) (y_off : Int32) (y_fuse : Int32) (y_steps : Int32) (y_many : Int32) (y_log : Int32) (y_before : Int32) (y_home : Nat → Int32) (y_base : Nat → Int32) (y_now : Nat → Int32) (y_kinds : Nat → Int32) (y_blocks : Nat → Int32) (y_runs : Nat → Int32) (y_revokes : Nat → Int32) (y_from : Nat → Int32) (y_uses : Nat → Int32) (y_revoked : Nat → Int32) (y_had : Nat → Int32) (y_data : Nat → Int32) (hpre : pr_M_count a_w (y_thrown, y_ring, y_off, y_fuse, y_steps, y_many, y_log, y_before, y_home, y_base, y_now, y_kinds, y_blocks, y_runs, y_revokes, y_from, y_uses, y_revoked, y_had, y_data)) (c_9 : y_off = 0) (c_17 : a_w = 2) : iv_M_count_72 a_w (y_thrown, y_ring, y_off, y_fuse, y_steps, y_many, y_log, y_before, y_home, y_base, y_now, y_kinds, y_blocks, y_runs, y_revokes, y_from, y_uses, y_revoked, y_had, y_data) 0 0 (0, y_ring, y_off, y_fuse, y_steps, y_many, y_log, y_before, y_home, y_base, y_now, y_kinds, y_blocks, y_runs, y_revokes, y_from, y_uses, y_revoked, y_had, y_data) ∧ True := by
  exact ⟨⟨c_9, c_17, 0, by omega, rfl, fun g hg hl ho => rfl⟩, trivial⟩
theorem vc_M_count_107_0 (a_w : Int32) (y_thrown : Int32) (y_ring : Int32) (y_off : Int32) (y_fuse : Int32) (y_steps : Int32) (y_many : Int32) (y_log : Int32) (y_before : Int32) (y_home : Nat → Int32) (y_base : Nat → Int32) (y_now : Nat → Int32) (y_kinds : Nat → Int32) (y_blocks : Nat → Int32) (y_runs : Nat → Int32) (y_revokes : Nat → Int32) (y_from : Nat → Int32) (y_uses : Nat → Int32) (y_revoked : Nat → Int32) (y_had : Nat → Int32) (y_data : Nat → Int32) (hpre : pr_M_count a_w (y_thrown, y_ring, y_off, y_fuse, y_steps, y_many, y_log, y_before, y_home, y_base, y_now, y_kinds, y_blocks, y_runs, y_revokes, y_from, y_uses, y_revoked, y_had, y_data)) (c_9 : y_off = 0) (c_17 : a_w = 3) : pr_M_size y_runs := by
  trivial
theorem vc_M_count_110_0 (a_w : Int32) (y_thrown : Int32) (y_ring : Int32) (y_off : Int32) (y_fuse : Int32) (y_steps : Int32) (y_many : Int32) (y_log : Int32) (y_before : Int32) (y_home : Nat → Int32) (y_base : Nat → Int32) (y_now : Nat → Int32) (y_kinds : Nat → Int32) (y_blocks : Nat → Int32) (y_runs : Nat → Int32) (y_revokes : Nat → Int32) (y_from : Nat → Int32) (y_uses : Nat → Int32) (y_revoked : Nat → Int32) (y_had : Nat → Int32) (y_data : Nat → Int32) (r_107 : Int32) (hpre : pr_M_count a_w (y_thrown, y_ring, y_off, y_fuse, y_steps, y_many, y_log, y_before, y_home, y_base, y_now, y_kinds, y_blocks, y_runs, y_revokes, y_from, y_uses, y_revoked, y_had, y_data)) (c_9 : y_off = 0) (c_17 : a_w = 3) (w_107 : po_M_size y_runs r_107) : po_M_count a_w (y_thrown, y_ring, y_off, y_fuse, y_steps, y_many, y_log, y_before, y_home, y_base, y_now, y_kinds, y_blocks, y_runs, y_revokes, y_from, y_uses, y_revoked, y_had, y_data) r_107 (0, y_ring, y_off, y_fuse, y_steps, y_many, y_log, y_before, y_home, y_base, y_now, y_kinds, y_blocks, y_runs, y_revokes, y_from, y_uses, y_revoked, y_had, y_data) := by
  intro σ hr hs
  obtain ⟨ring, run, rev, now, ⟨u, on, fu, st, ba, ho⟩, g⟩ := σ
  obtain ⟨o, a1, a2, a3, a4, a5, a6, a7, a8, a9, a10, a11, a12, a13, a14⟩ := m_al hr hs c_9
  have hon : on = true := m_on hr c_9
  subst hon
  subst c_17
  exact ⟨w_107 run a1, hr⟩
theorem vc_M_count_116_0 (a_w : Int32) (y_thrown : Int32) (y_ring : Int32) (y_off : Int32) (y_fuse : Int32) (y_steps : Int32) (y_many : Int32) (y_log : Int32) (y_before : Int32) (y_home : Nat → Int32) (y_base : Nat → Int32) (y_now : Nat → Int32) (y_kinds : Nat → Int32) (y_blocks : Nat → Int32) (y_runs : Nat → Int32) (y_revokes : Nat → Int32) (y_from : Nat → Int32) (y_uses : Nat → Int32) (y_revoked : Nat → Int32) (y_had : Nat → Int32) (y_data : Nat → Int32) (hpre : pr_M_count a_w (y_thrown, y_ring, y_off, y_fuse, y_steps, y_many, y_log, y_before, y_home, y_base, y_now, y_kinds, y_blocks, y_runs, y_revokes, y_from, y_uses, y_revoked, y_had, y_data)) (c_9 : y_off = 0) (c_17 : a_w = 4) : pr_M_size y_revokes := by
  trivial
theorem vc_M_count_119_0 (a_w : Int32) (y_thrown : Int32) (y_ring : Int32) (y_off : Int32) (y_fuse : Int32) (y_steps : Int32) (y_many : Int32) (y_log : Int32) (y_before : Int32) (y_home : Nat → Int32) (y_base : Nat → Int32) (y_now : Nat → Int32) (y_kinds : Nat → Int32) (y_blocks : Nat → Int32) (y_runs : Nat → Int32) (y_revokes : Nat → Int32) (y_from : Nat → Int32) (y_uses : Nat → Int32) (y_revoked : Nat → Int32) (y_had : Nat → Int32) (y_data : Nat → Int32) (r_116 : Int32) (hpre : pr_M_count a_w (y_thrown, y_ring, y_off, y_fuse, y_steps, y_many, y_log, y_before, y_home, y_base, y_now, y_kinds, y_blocks, y_runs, y_revokes, y_from, y_uses, y_revoked, y_had, y_data)) (c_9 : y_off = 0) (c_17 : a_w = 4) (w_116 : po_M_size y_revokes r_116) : po_M_count a_w (y_thrown, y_ring, y_off, y_fuse, y_steps, y_many, y_log, y_before, y_home, y_base, y_now, y_kinds, y_blocks, y_runs, y_revokes, y_from, y_uses, y_revoked, y_had, y_data) r_116 (0, y_ring, y_off, y_fuse, y_steps, y_many, y_log, y_before, y_home, y_base, y_now, y_kinds, y_blocks, y_runs, y_revokes, y_from, y_uses, y_revoked, y_had, y_data) := by
  intro σ hr hs
  obtain ⟨ring, run, rev, now, ⟨u, on, fu, st, ba, ho⟩, g⟩ := σ
  obtain ⟨o, a1, a2, a3, a4, a5, a6, a7, a8, a9, a10, a11, a12, a13, a14⟩ := m_al hr hs c_9
  have hon : on = true := m_on hr c_9
  subst hon
  subst c_17
  exact ⟨w_116 rev a2, hr⟩
theorem vc_M_count_124_0 (a_w : Int32) (y_thrown : Int32) (y_ring : Int32) (y_off : Int32) (y_fuse : Int32) (y_steps : Int32) (y_many : Int32) (y_log : Int32) (y_before : Int32) (y_home : Nat → Int32) (y_base : Nat → Int32) (y_now : Nat → Int32) (y_kinds : Nat → Int32) (y_blocks : Nat → Int32) (y_runs : Nat → Int32) (y_revokes : Nat → Int32) (y_from : Nat → Int32) (y_uses : Nat → Int32) (y_revoked : Nat → Int32) (y_had : Nat → Int32) (y_data : Nat → Int32) (hpre : pr_M_count a_w (y_thrown, y_ring, y_off, y_fuse, y_steps, y_many, y_log, y_before, y_home, y_base, y_now, y_kinds, y_blocks, y_runs, y_revokes, y_from, y_uses, y_revoked, y_had, y_data)) (c_9 : y_off = 0) (c_17 : a_w = 5) : po_M_count a_w (y_thrown, y_ring, y_off, y_fuse, y_steps, y_many, y_log, y_before, y_home, y_base, y_now, y_kinds, y_blocks, y_runs, y_revokes, y_from, y_uses, y_revoked, y_had, y_data) y_steps (0, y_ring, y_off, y_fuse, y_steps, y_many, y_log, y_before, y_home, y_base, y_now, y_kinds, y_blocks, y_runs, y_revokes, y_from, y_uses, y_revoked, y_had, y_data) := by
  intro σ hr hs
  obtain ⟨ring, run, rev, now, ⟨u, on, fu, st, ba, ho⟩, g⟩ := σ
  have hon : on = true := m_on hr c_9
  subst hon
  subst c_17
  exact ⟨hr.1.2.2.1, hr⟩
theorem vc_M_count_129_0 (a_w : Int32) (y_thrown : Int32) (y_ring : Int32) (y_off : Int32) (y_fuse : Int32) (y_steps : Int32) (y_many : Int32) (y_log : Int32) (y_before : Int32) (y_home : Nat → Int32) (y_base : Nat → Int32) (y_now : Nat → Int32) (y_kinds : Nat → Int32) (y_blocks : Nat → Int32) (y_runs : Nat → Int32) (y_revokes : Nat → Int32) (y_from : Nat → Int32) (y_uses : Nat → Int32) (y_revoked : Nat → Int32) (y_had : Nat → Int32) (y_data : Nat → Int32) (hpre : pr_M_count a_w (y_thrown, y_ring, y_off, y_fuse, y_steps, y_many, y_log, y_before, y_home, y_base, y_now, y_kinds, y_blocks, y_runs, y_revokes, y_from, y_uses, y_revoked, y_had, y_data)) (c_9 : y_off = 0) (c_17 : a_w = 6) : po_M_count a_w (y_thrown, y_ring, y_off, y_fuse, y_steps, y_many, y_log, y_before, y_home, y_base, y_now, y_kinds, y_blocks, y_runs, y_revokes, y_from, y_uses, y_revoked, y_had, y_data) y_many (0, y_ring, y_off, y_fuse, y_steps, y_many, y_log, y_before, y_home, y_base, y_now, y_kinds, y_blocks, y_runs, y_revokes, y_from, y_uses, y_revoked, y_had, y_data) := by
  intro σ hr hs
  obtain ⟨ring, run, rev, now, ⟨u, on, fu, st, ba, ho⟩, g⟩ := σ
  have hon : on = true := m_on hr c_9
  subst hon
  subst c_17
  exact ⟨hr.1.2.2.2.1.1, hr⟩
theorem vc_M_count_13_0 (a_w : Int32) (y_thrown : Int32) (y_ring : Int32) (y_off : Int32) (y_fuse : Int32) (y_steps : Int32) (y_many : Int32) (y_log : Int32) (y_before : Int32) (y_home : Nat → Int32) (y_base : Nat → Int32) (y_now : Nat → Int32) (y_kinds : Nat → Int32) (y_blocks : Nat → Int32) (y_runs : Nat → Int32) (y_revokes : Nat → Int32) (y_from : Nat → Int32) (y_uses : Nat → Int32) (y_revoked : Nat → Int32) (y_had : Nat → Int32) (y_data : Nat → Int32) (hpre : pr_M_count a_w (y_thrown, y_ring, y_off, y_fuse, y_steps, y_many, y_log, y_before, y_home, y_base, y_now, y_kinds, y_blocks, y_runs, y_revokes, y_from, y_uses, y_revoked, y_had, y_data)) (c_9 : ¬ y_off = 0) : po_M_count a_w (y_thrown, y_ring, y_off, y_fuse, y_steps, y_many, y_log, y_before, y_home, y_base, y_now, y_kinds, y_blocks, y_runs, y_revokes, y_from, y_uses, y_revoked, y_had, y_data) (-1) (0, y_ring, y_off, y_fuse, y_steps, y_many, y_log, y_before, y_home, y_base, y_now, y_kinds, y_blocks, y_runs, y_revokes, y_from, y_uses, y_revoked, y_had, y_data) := by
  intro σ hr hs
  obtain ⟨ring, run, rev, now, ⟨u, on, fu, st, ba, ho⟩, g⟩ := σ
  have hon : on = false := m_off hr c_9
  subst hon
  exact ⟨rfl, hr⟩
