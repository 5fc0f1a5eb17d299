def enS : MDt → MDt → Prop
  | (_, _, _, _, _, _, log, _, _, _, _, _, _, runs, revokes, frm, uses, _, _, _), (_, _, _, _, _, _, log2, _, _, _, _, _, _, runs2, revokes2, frm2, uses2, _, _, _) => log2 = log ∧ runs2 = runs ∧ revokes2 = revokes ∧ frm2 = frm ∧ uses2 = uses
def enI (run rev : Int64) (now : Nat → Int32) (b : Nat) (x2 : Int32) : Lg → MDt → Prop
  | (n, blk, rvk, _, fst, im), (_, _, _, _, _, _, _, _, _, _, _, _, _, _, _, _, _, revoked, had, data) => x2 = nI (fst n + rk run b) ∧ (∀ t, t < n → ∀ c, c < 64 → revoked (64 * t + c) = b2i (bitt (rvk t) c) ∧ (bitt (blk t) c = true → had (fst t + rk (blk t) c) = nI c)) ∧ (∀ c, c < b → revoked (64 * n + c) = b2i (bitt rev c) ∧ (bitt run c = true → had (fst n + rk run c) = nI c)) ∧ imN run now b (64 - b) (fst n + rk run b) data = imN run now 0 64 (fst n) im
def iv_M_enter_12 (_ : Int32) (y : MDt) (x2 x3 : Int32) (y2 : MDt) : Prop := enS y y2 ∧ ∃ b : Nat, b ≤ 64 ∧ x3 = nI b ∧ ∀ (g : Lg) (run rev : Int64), RMl g y → lgN g.1 y → okG g → yRun run rev y → enI run rev (yNow y) b x2 g y2
def mu_M_enter_12 (_ : Int32) (_ : MDt) (_ x3 : Int32) (_ : MDt) : Nat := 64 - x3.toNatClampNeg
theorem had_lt {n : Nat} {blk rvk : Nat → Int64} {use fst : Nat → Nat} {im : Nat → Int32} (o : okG (n, blk, rvk, use, fst, im)) {t c : Nat} (ht : t < n) (hc : c < 64) (hb : bitt (blk t) c = true) : fst t + rk (blk t) c < fst n := by
  obtain ⟨ring, ⟨h1, h2, h3, h4⟩, h5⟩ := o
  have a := fst_mono (fun t ht => (h2 t ht).1) (n - (t + 1)) (t + 1) (by omega)
  rw [show t + 1 + (n - (t + 1)) = n by omega] at a
  have b := (h2 t ht).1
  have k := rk_lt hc hb
  omega
theorem nb_b2i (b : Bool) : vp_nar .boolean (b2i b) = b2i b := by cases b <;> decide
theorem RMn_hs {u : List Nat} {n : Nat} {y : MDt} (h : hs u) (l : lgN n y) : RMn u n y := by
  obtain ⟨a1, a2, a3, a4, a5, a6, a7, a8, r⟩ := y
  show if 66 ∈ u then _ else _
  rw [if_neg (fun z => absurd (h.2 66 z) (by decide))]
  exact l
theorem RMn_not {u : List Nat} {n : Nat} {y : MDt} (h : 66 ∉ u) (l : lgN n y) : RMn u n y := by
  obtain ⟨a1, a2, a3, a4, a5, a6, a7, a8, r⟩ := y
  show if 66 ∈ u then _ else _
  rw [if_neg h]
  exact l
theorem en_miss {run rev : Int64} {now : Nat → Int32} {b : Nat} {x2 : Int32} {g : Lg} {a1 a2 a3 a4 a5 a6 a7 a8 : Int32} {a9 a10 a11 a12 a13 a14 a15 a16 a17 rv had data : Nat → Int32} (hb : b < 64) (hm : bitt run b = false) (hn : g.1 ≤ 99) (h : enI run rev now b x2 g (a1, a2, a3, a4, a5, a6, a7, a8, a9, a10, a11, a12, a13, a14, a15, a16, a17, rv, had, data)) : enI run rev now (b + 1) x2 g (a1, a2, a3, a4, a5, a6, a7, a8, a9, a10, a11, a12, a13, a14, a15, a16, a17, upd rv (64 * g.1 + b) (b2i (bitt rev b)), had, data) := by
  obtain ⟨n, blk, rvk, us, fst, im⟩ := g
  obtain ⟨h1, h2, h3, h4⟩ := h
  have er : rk run (b + 1) = rk run b := by rw [rk_s, hm]; rfl
  refine ⟨by rw [er]; exact h1, fun t ht c hc => ⟨?_, (h2 t ht c hc).2⟩, fun c hc => ?_, ?_⟩
  · have ht2 : t < n := ht
    show upd rv (64 * n + b) _ _ = _
    rw [pk_un (by omega)]; exact (h2 t ht c hc).1
  · show upd rv (64 * n + b) _ _ = _ ∧ _
    by_cases q : c = b
    · subst q; rw [pk_us]; exact ⟨rfl, fun z => by rw [hm] at z; cases z⟩
    · rw [pk_un (by omega)]; exact h3 c (by omega)
  · rw [er, ← h4, show 64 - b = (64 - (b + 1)) + 1 by omega]
    show _ = (if bitt run b = true then _ else _)
    rw [hm]
    rfl
theorem en_hit {run rev : Int64} {now : Nat → Int32} {b : Nat} {x2 : Int32} {g : Lg} {a1 a2 a3 a4 a5 a6 a7 a8 : Int32} {a9 a10 a11 a12 a13 a14 a15 a16 a17 rv had data : Nat → Int32} (hb : b < 64) (hm : bitt run b = true) (o : okG g) (h : enI run rev now b x2 g (a1, a2, a3, a4, a5, a6, a7, a8, a9, a10, a11, a12, a13, a14, a15, a16, a17, rv, had, data)) : x2 = nI (g.2.2.2.2.1 g.1 + rk run b) ∧ enI run rev now (b + 1) (x2 + 1) g (a1, a2, a3, a4, a5, a6, a7, a8, a9, a10, a11, a12, a13, a14, a15, a16, a17, upd rv (64 * g.1 + b) (b2i (bitt rev b)), upd had (g.2.2.2.2.1 g.1 + rk run b) (nI b), va_cpy now data (256 * b) (256 * (g.2.2.2.2.1 g.1 + rk run b)) 256) := by
  obtain ⟨n, blk, rvk, us, fst, im⟩ := g
  obtain ⟨h1, h2, h3, h4⟩ := h
  have er : rk run (b + 1) = rk run b + 1 := by rw [rk_s, hm]; rfl
  refine ⟨h1, by rw [er, h1, nI_1]; rfl, fun t ht c hc => ⟨?_, fun z => ?_⟩, fun c hc => ?_, ?_⟩
  · have ht2 : t < n := ht
    show upd rv (64 * n + b) _ _ = _
    rw [pk_un (by omega)]; exact (h2 t ht c hc).1
  · have k := had_lt o ht hc z
    show upd had (fst n + rk run b) _ _ = _
    rw [pk_un (by omega)]; exact (h2 t ht c hc).2 z
  · show upd rv (64 * n + b) _ _ = _ ∧ (_ → upd had (fst n + rk run b) _ _ = _)
    by_cases q : c = b
    · subst q; rw [pk_us, pk_us]; exact ⟨rfl, fun z => rfl⟩
    · rw [pk_un (by omega)]
      refine ⟨(h3 c (by omega)).1, fun z => ?_⟩
      have k : rk run c < rk run b := cntB_lt (by omega) z
      rw [pk_un (by omega)]; exact (h3 c (by omega)).2 z
  · rw [er, ← h4, show 64 - b = (64 - (b + 1)) + 1 by omega]
    show _ = (if bitt run b = true then imN run now (b + 1) (64 - (b + 1)) (fst n + rk run b + 1) (va_cpy now data (256 * b) (256 * (fst n + rk run b)) 256) else _)
    rw [hm]
    rfl

theorem vc_M_enter_97_0 (a_use : Int32) (y_thrown : Int32) (y_ring : Int32) (y_off : Int32) (y_fuse : Int32) (y_steps : Int32) (y_many : Int32) (y_log : Int32) (y_before : Int32) (y_home : Nat → Int32) (y_base : Nat → Int32) (y_now : Nat → Int32) (y_kinds : Nat → Int32) (y_blocks : Nat → Int32) (y_runs : Nat → Int32) (y_revokes : Nat → Int32) (y_from : Nat → Int32) (y_uses : Nat → Int32) (y_revoked : Nat → Int32) (y_had : Nat → Int32) (y_data : Nat → Int32) (x2 : Int32) (x3 : Int32) (y_log_i : Int32) (y_runs_i : Nat → Int32) (y_revokes_i : Nat → Int32) (y_from_i : Nat → Int32) (y_uses_i : Nat → Int32) (y_revoked_i : Nat → Int32) (y_had_i : Nat → Int32) (y_data_i : Nat → Int32) (hpre : pr_M_enter a_use (y_thrown, y_ring, y_off, y_fuse, y_steps, y_many, y_log, y_before, y_home, y_base, y_now, y_kinds, y_blocks, y_runs, y_revokes, y_from, y_uses, y_revoked, y_had, y_data)) (hinv : iv_M_enter_12 a_use (y_thrown, y_ring, y_off, y_fuse, y_steps, y_many, y_log, y_before, y_home, y_base, y_now, y_kinds, y_blocks, y_runs, y_revokes, y_from, y_uses, y_revoked, y_had, y_data) x2 x3 (y_thrown, y_ring, y_off, y_fuse, y_steps, y_many, y_log_i, y_before, y_home, y_base, y_now, y_kinds, y_blocks, y_runs_i, y_revokes_i, y_from_i, y_uses_i, y_revoked_i, y_had_i, y_data_i)) (c_15 : 64 ≤ x3) : vp_in y_log_i 101 := by
  obtain ⟨g, run, rev, hg, hl, ho, hr, hc, hf, hn⟩ := hpre
  obtain ⟨⟨rfl, rfl, rfl, rfl, rfl⟩, b, hb, rfl, h⟩ := hinv
  have el : y_log_i = nI g.1 := hl
  rw [el]
  exact vp_in_nI (by omega) (by decide)
theorem vc_M_enter_117_0 (a_use : Int32) (y_thrown : Int32) (y_ring : Int32) (y_off : Int32) (y_fuse : Int32) (y_steps : Int32) (y_many : Int32) (y_log : Int32) (y_before : Int32) (y_home : Nat → Int32) (y_base : Nat → Int32) (y_now : Nat → Int32) (y_kinds : Nat → Int32) (y_blocks : Nat → Int32) (y_runs : Nat → Int32) (y_revokes : Nat → Int32) (y_from : Nat → Int32) (y_uses : Nat → Int32) (y_revoked : Nat → Int32) (y_had : Nat → Int32) (y_data : Nat → Int32) (x2 : Int32) (x3 : Int32) (y_log_i : Int32) (y_runs_i : Nat → Int32) (y_revokes_i : Nat → Int32) (y_from_i : Nat → Int32) (y_uses_i : Nat → Int32) (y_revoked_i : Nat → Int32) (y_had_i : Nat → Int32) (y_data_i : Nat → Int32) (v_105 : Int32) (hpre : pr_M_enter a_use (y_thrown, y_ring, y_off, y_fuse, y_steps, y_many, y_log, y_before, y_home, y_base, y_now, y_kinds, y_blocks, y_runs, y_revokes, y_from, y_uses, y_revoked, y_had, y_data)) (hinv : iv_M_enter_12 a_use (y_thrown, y_ring, y_off, y_fuse, y_steps, y_many, y_log, y_before, y_home, y_base, y_now, y_kinds, y_blocks, y_runs, y_revokes, y_from, y_uses, y_revoked, y_had, y_data) x2 x3 (y_thrown, y_ring, y_off, y_fuse, y_steps, y_many, y_log_i, y_before, y_home, y_base, y_now, y_kinds, y_blocks, y_runs_i, y_revokes_i, y_from_i, y_uses_i, y_revoked_i, y_had_i, y_data_i)) (c_15 : 64 ≤ x3) (e_105 : v_105 = (y_log_i + 1)) : vp_in v_105 102 := by
  obtain ⟨g, run, rev, hg, hl, ho, hr, hc, hf, hn⟩ := hpre
  obtain ⟨⟨rfl, rfl, rfl, rfl, rfl⟩, b, hb, rfl, h⟩ := hinv
  have el : y_log_i = nI g.1 := hl
  rw [e_105, el, nI_1]
  exact vp_in_nI (by omega) (by decide)
theorem vc_M_enter_119_0 (a_use : Int32) (y_thrown : Int32) (y_ring : Int32) (y_off : Int32) (y_fuse : Int32) (y_steps : Int32) (y_many : Int32) (y_log : Int32) (y_before : Int32) (y_home : Nat → Int32) (y_base : Nat → Int32) (y_now : Nat → Int32) (y_kinds : Nat → Int32) (y_blocks : Nat → Int32) (y_runs : Nat → Int32) (y_revokes : Nat → Int32) (y_from : Nat → Int32) (y_uses : Nat → Int32) (y_revoked : Nat → Int32) (y_had : Nat → Int32) (y_data : Nat → Int32) (x2 : Int32) (x3 : Int32) (y_log_i : Int32) (y_runs_i : Nat → Int32) (y_revokes_i : Nat → Int32) (y_from_i : Nat → Int32) (y_uses_i : Nat → Int32) (y_revoked_i : Nat → Int32) (y_had_i : Nat → Int32) (y_data_i : Nat → Int32) (v_105 : Int32) (hpre : pr_M_enter a_use (y_thrown, y_ring, y_off, y_fuse, y_steps, y_many, y_log, y_before, y_home, y_base, y_now, y_kinds, y_blocks, y_runs, y_revokes, y_from, y_uses, y_revoked, y_had, y_data)) (hinv : iv_M_enter_12 a_use (y_thrown, y_ring, y_off, y_fuse, y_steps, y_many, y_log, y_before, y_home, y_base, y_now, y_kinds, y_blocks, y_runs, y_revokes, y_from, y_uses, y_revoked, y_had, y_data) x2 x3 (y_thrown, y_ring, y_off, y_fuse, y_steps, y_many, y_log_i, y_before, y_home, y_base, y_now, y_kinds, y_blocks, y_runs_i, y_revokes_i, y_from_i, y_uses_i, y_revoked_i, y_had_i, y_data_i)) (c_15 : 64 ≤ x3) (e_105 : v_105 = (y_log_i + 1)) : pr_M_drop (y_thrown, y_ring, y_off, y_fuse, y_steps, y_many, v_105, y_before, y_home, y_base, y_now, y_kinds, y_blocks, y_runs_i, y_revokes_i, (upd y_from_i (v_105).toNatClampNeg x2), (upd y_uses_i (y_log_i).toNatClampNeg a_use), y_revoked_i, y_had_i, y_data_i) := by
  trivial
theorem vc_M_enter_122_0 (a_use : Int32) (y_thrown : Int32) (y_ring : Int32) (y_off : Int32) (y_fuse : Int32) (y_steps : Int32) (y_many : Int32) (y_log : Int32) (y_before : Int32) (y_home : Nat → Int32) (y_base : Nat → Int32) (y_now : Nat → Int32) (y_kinds : Nat → Int32) (y_blocks : Nat → Int32) (y_runs : Nat → Int32) (y_revokes : Nat → Int32) (y_from : Nat → Int32) (y_uses : Nat → Int32) (y_revoked : Nat → Int32) (y_had : Nat → Int32) (y_data : Nat → Int32) (x2 : Int32) (x3 : Int32) (y_log_i : Int32) (y_runs_i : Nat → Int32) (y_revokes_i : Nat → Int32) (y_from_i : Nat → Int32) (y_uses_i : Nat → Int32) (y_revoked_i : Nat → Int32) (y_had_i : Nat → Int32) (y_data_i : Nat → Int32) (v_105 : Int32) (y_runs_119 : Nat → Int32) (y_revokes_119 : Nat → Int32) (hpre : pr_M_enter a_use (y_thrown, y_ring, y_off, y_fuse, y_steps, y_many, y_log, y_before, y_home, y_base, y_now, y_kinds, y_blocks, y_runs, y_revokes, y_from, y_uses, y_revoked, y_had, y_data)) (hinv : iv_M_enter_12 a_use (y_thrown, y_ring, y_off, y_fuse, y_steps, y_many, y_log, y_before, y_home, y_base, y_now, y_kinds, y_blocks, y_runs, y_revokes, y_from, y_uses, y_revoked, y_had, y_data) x2 x3 (y_thrown, y_ring, y_off, y_fuse, y_steps, y_many, y_log_i, y_before, y_home, y_base, y_now, y_kinds, y_blocks, y_runs_i, y_revokes_i, y_from_i, y_uses_i, y_revoked_i, y_had_i, y_data_i)) (c_15 : 64 ≤ x3) (e_105 : v_105 = (y_log_i + 1)) (w_119 : po_M_drop (y_thrown, y_ring, y_off, y_fuse, y_steps, y_many, v_105, y_before, y_home, y_base, y_now, y_kinds, y_blocks, y_runs_i, y_revokes_i, (upd y_from_i (v_105).toNatClampNeg x2), (upd y_uses_i (y_log_i).toNatClampNeg a_use), y_revoked_i, y_had_i, y_data_i) (y_thrown, y_ring, y_off, y_fuse, y_steps, y_many, v_105, y_before, y_home, y_base, y_now, y_kinds, y_blocks, y_runs_119, y_revokes_119, (upd y_from_i (v_105).toNatClampNeg x2), (upd y_uses_i (y_log_i).toNatClampNeg a_use), y_revoked_i, y_had_i, y_data_i)) : po_M_enter a_use (y_thrown, y_ring, y_off, y_fuse, y_steps, y_many, y_log, y_before, y_home, y_base, y_now, y_kinds, y_blocks, y_runs, y_revokes, y_from, y_uses, y_revoked, y_had, y_data) (y_thrown, y_ring, y_off, y_fuse, y_steps, y_many, v_105, y_before, y_home, y_base, y_now, y_kinds, y_blocks, y_runs_119, y_revokes_119, (upd y_from_i (v_105).toNatClampNeg x2), (upd y_uses_i (y_log_i).toNatClampNeg a_use), y_revoked_i, y_had_i, y_data_i) := by
  intro g run rev u hg hl ho hr eu
  obtain ⟨⟨rfl, rfl, rfl, rfl, rfl⟩, b, hb, rfl, h⟩ := hinv
  have hb2 : 64 ≤ b := (nI_leI (a := 64) (by decide) (by omega)).mp c_15
  have e : b = 64 := by omega
  subst e
  have el : y_log_i = nI g.1 := hl
  have hi := h g run rev hg hl ho hr
  have on := okG_n (n := g.1) ho
  obtain ⟨n, blk, rvk, us, fst, im⟩ := g
  have on1 : n ≤ 99 := on.1
  have el : y_log_i = nI n := el
  obtain ⟨i1, i2, i3, i4⟩ := hi
  obtain ⟨g1, g2, g3⟩ := hg
  rw [el, nI_1] at e_105
  refine ⟨⟨fun t ht => ?_, fun t ht => ?_, i4⟩, e_105, w_119⟩
  · rw [e_105, nI_clamp (by omega)]
    dsimp only
    by_cases q : t = n + 1
    · subst q
      rw [pk_us, if_pos rfl, i1, rk_64]
    · rw [pk_un q, if_neg q]
      have ht : t ≤ n + 1 := ht
      exact g1 t (by omega)
  · rw [el, nI_clamp (by omega)]
    dsimp only
    have ht : t < n + 1 := ht
    by_cases q : t = n
    · subst q
      rw [pk_us, if_pos rfl, pk_uLs, pk_uLs, if_neg (by omega)]
      exact ⟨eu, fun c hc => i3 c hc⟩
    · rw [pk_un q, if_neg q, pk_uLn q, pk_uLn q, if_neg (by omega)]
      exact ⟨(g2 t (by omega)).1, fun c hc => i2 t (by omega) c hc⟩
theorem vc_M_enter_36_0 (a_use : Int32) (y_thrown : Int32) (y_ring : Int32) (y_off : Int32) (y_fuse : Int32) (y_steps : Int32) (y_many : Int32) (y_log : Int32) (y_before : Int32) (y_home : Nat → Int32) (y_base : Nat → Int32) (y_now : Nat → Int32) (y_kinds : Nat → Int32) (y_blocks : Nat → Int32) (y_runs : Nat → Int32) (y_revokes : Nat → Int32) (y_from : Nat → Int32) (y_uses : Nat → Int32) (y_revoked : Nat → Int32) (y_had : Nat → Int32) (y_data : Nat → Int32) (x2 : Int32) (x3 : Int32) (y_log_i : Int32) (y_runs_i : Nat → Int32) (y_revokes_i : Nat → Int32) (y_from_i : Nat → Int32) (y_uses_i : Nat → Int32) (y_revoked_i : Nat → Int32) (y_had_i : Nat → Int32) (y_data_i : Nat → Int32) (hpre : pr_M_enter a_use (y_thrown, y_ring, y_off, y_fuse, y_steps, y_many, y_log, y_before, y_home, y_base, y_now, y_kinds, y_blocks, y_runs, y_revokes, y_from, y_uses, y_revoked, y_had, y_data)) (hinv : iv_M_enter_12 a_use (y_thrown, y_ring, y_off, y_fuse, y_steps, y_many, y_log, y_before, y_home, y_base, y_now, y_kinds, y_blocks, y_runs, y_revokes, y_from, y_uses, y_revoked, y_had, y_data) x2 x3 (y_thrown, y_ring, y_off, y_fuse, y_steps, y_many, y_log_i, y_before, y_home, y_base, y_now, y_kinds, y_blocks, y_runs_i, y_revokes_i, y_from_i, y_uses_i, y_revoked_i, y_had_i, y_data_i)) (c_15 : ¬ 64 ≤ x3) : vp_in x3 64 := by
  obtain ⟨-, b, hb, rfl, h⟩ := hinv
  have hb2 : ¬ 64 ≤ b := fun z => c_15 (nI_le (a := 64) z (by omega))
  exact vp_in_nI (by omega) (by decide)
theorem vc_M_enter_37_0 (a_use : Int32) (y_thrown : Int32) (y_ring : Int32) (y_off : Int32) (y_fuse : Int32) (y_steps : Int32) (y_many : Int32) (y_log : Int32) (y_before : Int32) (y_home : Nat → Int32) (y_base : Nat → Int32) (y_now : Nat → Int32) (y_kinds : Nat → Int32) (y_blocks : Nat → Int32) (y_runs : Nat → Int32) (y_revokes : Nat → Int32) (y_from : Nat → Int32) (y_uses : Nat → Int32) (y_revoked : Nat → Int32) (y_had : Nat → Int32) (y_data : Nat → Int32) (x2 : Int32) (x3 : Int32) (y_log_i : Int32) (y_runs_i : Nat → Int32) (y_revokes_i : Nat → Int32) (y_from_i : Nat → Int32) (y_uses_i : Nat → Int32) (y_revoked_i : Nat → Int32) (y_had_i : Nat → Int32) (y_data_i : Nat → Int32) (v_36 : Int32) (hpre : pr_M_enter a_use (y_thrown, y_ring, y_off, y_fuse, y_steps, y_many, y_log, y_before, y_home, y_base, y_now, y_kinds, y_blocks, y_runs, y_revokes, y_from, y_uses, y_revoked, y_had, y_data)) (hinv : iv_M_enter_12 a_use (y_thrown, y_ring, y_off, y_fuse, y_steps, y_many, y_log, y_before, y_home, y_base, y_now, y_kinds, y_blocks, y_runs, y_revokes, y_from, y_uses, y_revoked, y_had, y_data) x2 x3 (y_thrown, y_ring, y_off, y_fuse, y_steps, y_many, y_log_i, y_before, y_home, y_base, y_now, y_kinds, y_blocks, y_runs_i, y_revokes_i, y_from_i, y_uses_i, y_revoked_i, y_had_i, y_data_i)) (c_15 : ¬ 64 ≤ x3) (e_36 : v_36 = (y_revokes_i (x3).toNatClampNeg)) : vp_in ((64 * y_log_i) + x3) 6464 := by
  obtain ⟨g, run, rev, hg, hl, ho, hr, hc, hf, hn⟩ := hpre
  obtain ⟨⟨rfl, rfl, rfl, rfl, rfl⟩, b, hb, rfl, h⟩ := hinv
  have hb2 : ¬ 64 ≤ b := fun z => c_15 (nI_le (a := 64) z (by omega))
  have el : y_log_i = nI g.1 := hl
  rw [el, show (64 : Int32) * nI g.1 = nI (64 * g.1) from pk_mul 64 g.1, nI_add]
  exact vp_in_nI (by omega) (by decide)
theorem vc_M_enter_43_0 (a_use : Int32) (y_thrown : Int32) (y_ring : Int32) (y_off : Int32) (y_fuse : Int32) (y_steps : Int32) (y_many : Int32) (y_log : Int32) (y_before : Int32) (y_home : Nat → Int32) (y_base : Nat → Int32) (y_now : Nat → Int32) (y_kinds : Nat → Int32) (y_blocks : Nat → Int32) (y_runs : Nat → Int32) (y_revokes : Nat → Int32) (y_from : Nat → Int32) (y_uses : Nat → Int32) (y_revoked : Nat → Int32) (y_had : Nat → Int32) (y_data : Nat → Int32) (x2 : Int32) (x3 : Int32) (y_log_i : Int32) (y_runs_i : Nat → Int32) (y_revokes_i : Nat → Int32) (y_from_i : Nat → Int32) (y_uses_i : Nat → Int32) (y_revoked_i : Nat → Int32) (y_had_i : Nat → Int32) (y_data_i : Nat → Int32) (v_36 : Int32) (hpre : pr_M_enter a_use (y_thrown, y_ring, y_off, y_fuse, y_steps, y_many, y_log, y_before, y_home, y_base, y_now, y_kinds, y_blocks, y_runs, y_revokes, y_from, y_uses, y_revoked, y_had, y_data)) (hinv : iv_M_enter_12 a_use (y_thrown, y_ring, y_off, y_fuse, y_steps, y_many, y_log, y_before, y_home, y_base, y_now, y_kinds, y_blocks, y_runs, y_revokes, y_from, y_uses, y_revoked, y_had, y_data) x2 x3 (y_thrown, y_ring, y_off, y_fuse, y_steps, y_many, y_log_i, y_before, y_home, y_base, y_now, y_kinds, y_blocks, y_runs_i, y_revokes_i, y_from_i, y_uses_i, y_revoked_i, y_had_i, y_data_i)) (c_15 : ¬ 64 ≤ x3) (e_36 : v_36 = (y_revokes_i (x3).toNatClampNeg)) : vp_in x3 64 := by
  obtain ⟨-, b, hb, rfl, h⟩ := hinv
  have hb2 : ¬ 64 ≤ b := fun z => c_15 (nI_le (a := 64) z (by omega))
  exact vp_in_nI (by omega) (by decide)
theorem vc_M_enter_85_0 (a_use : Int32) (y_thrown : Int32) (y_ring : Int32) (y_off : Int32) (y_fuse : Int32) (y_steps : Int32) (y_many : Int32) (y_log : Int32) (y_before : Int32) (y_home : Nat → Int32) (y_base : Nat → Int32) (y_now : Nat → Int32) (y_kinds : Nat → Int32) (y_blocks : Nat → Int32) (y_runs : Nat → Int32) (y_revokes : Nat → Int32) (y_from : Nat → Int32) (y_uses : Nat → Int32) (y_revoked : Nat → Int32) (y_had : Nat → Int32) (y_data : Nat → Int32) (x2 : Int32) (x3 : Int32) (y_log_i : Int32) (y_runs_i : Nat → Int32) (y_revokes_i : Nat → Int32) (y_from_i : Nat → Int32) (y_uses_i : Nat → Int32) (y_revoked_i : Nat → Int32) (y_had_i : Nat → Int32) (y_data_i : Nat → Int32) (v_36 : Int32) (v_43 : Int32) (v_82 : Int32) (hpre : pr_M_enter a_use (y_thrown, y_ring, y_off, y_fuse, y_steps, y_many, y_log, y_before, y_home, y_base, y_now, y_kinds, y_blocks, y_runs, y_revokes, y_from, y_uses, y_revoked, y_had, y_data)) (hinv : iv_M_enter_12 a_use (y_thrown, y_ring, y_off, y_fuse, y_steps, y_many, y_log, y_before, y_home, y_base, y_now, y_kinds, y_blocks, y_runs, y_revokes, y_from, y_uses, y_revoked, y_had, y_data) x2 x3 (y_thrown, y_ring, y_off, y_fuse, y_steps, y_many, y_log_i, y_before, y_home, y_base, y_now, y_kinds, y_blocks, y_runs_i, y_revokes_i, y_from_i, y_uses_i, y_revoked_i, y_had_i, y_data_i)) (c_15 : ¬ 64 ≤ x3) (e_36 : v_36 = (y_revokes_i (x3).toNatClampNeg)) (e_43 : v_43 = (y_runs_i (x3).toNatClampNeg)) (c_44 : v_43 = 0) (e_82 : v_82 = x3 + 1) : iv_M_enter_12 a_use (y_thrown, y_ring, y_off, y_fuse, y_steps, y_many, y_log, y_before, y_home, y_base, y_now, y_kinds, y_blocks, y_runs, y_revokes, y_from, y_uses, y_revoked, y_had, y_data) x2 v_82 (y_thrown, y_ring, y_off, y_fuse, y_steps, y_many, y_log_i, y_before, y_home, y_base, y_now, y_kinds, y_blocks, y_runs_i, y_revokes_i, y_from_i, y_uses_i, (upd y_revoked_i (((64 * y_log_i) + x3)).toNatClampNeg (vp_nar .boolean v_36)), y_had_i, y_data_i) ∧ mu_M_enter_12 a_use (y_thrown, y_ring, y_off, y_fuse, y_steps, y_many, y_log, y_before, y_home, y_base, y_now, y_kinds, y_blocks, y_runs, y_revokes, y_from, y_uses, y_revoked, y_had, y_data) x2 v_82 (y_thrown, y_ring, y_off, y_fuse, y_steps, y_many, y_log_i, y_before, y_home, y_base, y_now, y_kinds, y_blocks, y_runs_i, y_revokes_i, y_from_i, y_uses_i, (upd y_revoked_i (((64 * y_log_i) + x3)).toNatClampNeg (vp_nar .boolean v_36)), y_had_i, y_data_i) < mu_M_enter_12 a_use (y_thrown, y_ring, y_off, y_fuse, y_steps, y_many, y_log, y_before, y_home, y_base, y_now, y_kinds, y_blocks, y_runs, y_revokes, y_from, y_uses, y_revoked, y_had, y_data) x2 x3 (y_thrown, y_ring, y_off, y_fuse, y_steps, y_many, y_log_i, y_before, y_home, y_base, y_now, y_kinds, y_blocks, y_runs_i, y_revokes_i, y_from_i, y_uses_i, y_revoked_i, y_had_i, y_data_i) := by
  obtain ⟨⟨rfl, rfl, rfl, rfl, rfl⟩, b, hb, rfl, h⟩ := hinv
  have hb2 : ¬ 64 ≤ b := fun z => c_15 (nI_le (a := 64) z (by omega))
  rw [nI_clamp (n := b) (by omega)] at e_36 e_43
  refine ⟨⟨⟨rfl, rfl, rfl, rfl, rfl⟩, b + 1, by omega, by rw [e_82]; exact nI_1 b, fun g run rev hg hl ho hr => ?_⟩, ?_⟩
  · have hi := h g run rev hg hl ho hr
    have on1 := (okG_n (n := g.1) ho).1
    have el : y_log_i = nI g.1 := hl
    rw [hr.2 b (by omega)] at e_36
    rw [hr.1 b (by omega)] at e_43
    have hm : bitt run b = false := b2i_0.mp (e_43.symm.trans c_44)
    rw [e_36, nb_b2i, el, show (64 : Int32) * nI g.1 = nI (64 * g.1) from pk_mul 64 g.1, nI_add, nI_clamp (n := 64 * g.1 + b) (by omega)]
    have r := en_miss (by omega) hm on1 hi
    rw [el] at r
    exact r
  · show 64 - v_82.toNatClampNeg < 64 - (nI b).toNatClampNeg
    rw [e_82, nI_1, nI_clamp (by omega), nI_clamp (by omega)]
    omega
theorem vc_M_enter_53_0 (a_use : Int32) (y_thrown : Int32) (y_ring : Int32) (y_off : Int32) (y_fuse : Int32) (y_steps : Int32) (y_many : Int32) (y_log : Int32) (y_before : Int32) (y_home : Nat → Int32) (y_base : Nat → Int32) (y_now : Nat → Int32) (y_kinds : Nat → Int32) (y_blocks : Nat → Int32) (y_runs : Nat → Int32) (y_revokes : Nat → Int32) (y_from : Nat → Int32) (y_uses : Nat → Int32) (y_revoked : Nat → Int32) (y_had : Nat → Int32) (y_data : Nat → Int32) (x2 : Int32) (x3 : Int32) (y_log_i : Int32) (y_runs_i : Nat → Int32) (y_revokes_i : Nat → Int32) (y_from_i : Nat → Int32) (y_uses_i : Nat → Int32) (y_revoked_i : Nat → Int32) (y_had_i : Nat → Int32) (y_data_i : Nat → Int32) (v_36 : Int32) (v_43 : Int32) (hpre : pr_M_enter a_use (y_thrown, y_ring, y_off, y_fuse, y_steps, y_many, y_log, y_before, y_home, y_base, y_now, y_kinds, y_blocks, y_runs, y_revokes, y_from, y_uses, y_revoked, y_had, y_data)) (hinv : iv_M_enter_12 a_use (y_thrown, y_ring, y_off, y_fuse, y_steps, y_many, y_log, y_before, y_home, y_base, y_now, y_kinds, y_blocks, y_runs, y_revokes, y_from, y_uses, y_revoked, y_had, y_data) x2 x3 (y_thrown, y_ring, y_off, y_fuse, y_steps, y_many, y_log_i, y_before, y_home, y_base, y_now, y_kinds, y_blocks, y_runs_i, y_revokes_i, y_from_i, y_uses_i, y_revoked_i, y_had_i, y_data_i)) (c_15 : ¬ 64 ≤ x3) (e_36 : v_36 = (y_revokes_i (x3).toNatClampNeg)) (e_43 : v_43 = (y_runs_i (x3).toNatClampNeg)) (c_44 : ¬ v_43 = 0) : vp_in x2 200 := by
  obtain ⟨g, run, rev, hg, hl, ho, hr, hc, hf, hn⟩ := hpre
  obtain ⟨⟨rfl, rfl, rfl, rfl, rfl⟩, b, hb, rfl, h⟩ := hinv
  have hb2 : ¬ 64 ≤ b := fun z => c_15 (nI_le (a := 64) z (by omega))
  rw [nI_clamp (n := b) (by omega)] at e_43
  rw [hr.1 b (by omega)] at e_43
  have hm : bitt run b = true := b2i_n0.mp (fun z => c_44 (e_43.trans z))
  have hk := rk_lt (by omega) hm
  rw [(en_hit (by omega) hm ho (h g run rev hg hl ho hr)).1]
  exact vp_in_nI (by omega) (by decide)
theorem vc_M_enter_76_0 (a_use : Int32) (y_thrown : Int32) (y_ring : Int32) (y_off : Int32) (y_fuse : Int32) (y_steps : Int32) (y_many : Int32) (y_log : Int32) (y_before : Int32) (y_home : Nat → Int32) (y_base : Nat → Int32) (y_now : Nat → Int32) (y_kinds : Nat → Int32) (y_blocks : Nat → Int32) (y_runs : Nat → Int32) (y_revokes : Nat → Int32) (y_from : Nat → Int32) (y_uses : Nat → Int32) (y_revoked : Nat → Int32) (y_had : Nat → Int32) (y_data : Nat → Int32) (x2 : Int32) (x3 : Int32) (y_log_i : Int32) (y_runs_i : Nat → Int32) (y_revokes_i : Nat → Int32) (y_from_i : Nat → Int32) (y_uses_i : Nat → Int32) (y_revoked_i : Nat → Int32) (y_had_i : Nat → Int32) (y_data_i : Nat → Int32) (v_36 : Int32) (v_43 : Int32) (hpre : pr_M_enter a_use (y_thrown, y_ring, y_off, y_fuse, y_steps, y_many, y_log, y_before, y_home, y_base, y_now, y_kinds, y_blocks, y_runs, y_revokes, y_from, y_uses, y_revoked, y_had, y_data)) (hinv : iv_M_enter_12 a_use (y_thrown, y_ring, y_off, y_fuse, y_steps, y_many, y_log, y_before, y_home, y_base, y_now, y_kinds, y_blocks, y_runs, y_revokes, y_from, y_uses, y_revoked, y_had, y_data) x2 x3 (y_thrown, y_ring, y_off, y_fuse, y_steps, y_many, y_log_i, y_before, y_home, y_base, y_now, y_kinds, y_blocks, y_runs_i, y_revokes_i, y_from_i, y_uses_i, y_revoked_i, y_had_i, y_data_i)) (c_15 : ¬ 64 ≤ x3) (e_36 : v_36 = (y_revokes_i (x3).toNatClampNeg)) (e_43 : v_43 = (y_runs_i (x3).toNatClampNeg)) (c_44 : ¬ v_43 = 0) : pr_M_copy (256 * x3) (256 * x2) 256 16384 51200 y_now y_data_i := by
  obtain ⟨g, run, rev, hg, hl, ho, hr, hc, hf, hn⟩ := hpre
  obtain ⟨⟨rfl, rfl, rfl, rfl, rfl⟩, b, hb, rfl, h⟩ := hinv
  have hb2 : ¬ 64 ≤ b := fun z => c_15 (nI_le (a := 64) z (by omega))
  rw [nI_clamp (n := b) (by omega)] at e_43
  rw [hr.1 b (by omega)] at e_43
  have hm : bitt run b = true := b2i_n0.mp (fun z => c_44 (e_43.trans z))
  have hk := rk_lt (by omega) hm
  have e2 := (en_hit (by omega) hm ho (h g run rev hg hl ho hr)).1
  exact ⟨256 * b, 256 * (g.2.2.2.2.1 g.1 + rk run b), 256, pk_mul 256 b, by rw [e2]; exact pk_mul 256 _, rfl, by omega, by omega, by decide, by decide, hf⟩
theorem vc_M_enter_85_1 (a_use : Int32) (y_thrown : Int32) (y_ring : Int32) (y_off : Int32) (y_fuse : Int32) (y_steps : Int32) (y_many : Int32) (y_log : Int32) (y_before : Int32) (y_home : Nat → Int32) (y_base : Nat → Int32) (y_now : Nat → Int32) (y_kinds : Nat → Int32) (y_blocks : Nat → Int32) (y_runs : Nat → Int32) (y_revokes : Nat → Int32) (y_from : Nat → Int32) (y_uses : Nat → Int32) (y_revoked : Nat → Int32) (y_had : Nat → Int32) (y_data : Nat → Int32) (x2 : Int32) (x3 : Int32) (y_log_i : Int32) (y_runs_i : Nat → Int32) (y_revokes_i : Nat → Int32) (y_from_i : Nat → Int32) (y_uses_i : Nat → Int32) (y_revoked_i : Nat → Int32) (y_had_i : Nat → Int32) (y_data_i : Nat → Int32) (v_36 : Int32) (v_43 : Int32) (b_ar_76 : Nat → Int32) (v_79 : Int32) (v_82 : Int32) (hpre : pr_M_enter a_use (y_thrown, y_ring, y_off, y_fuse, y_steps, y_many, y_log, y_before, y_home, y_base, y_now, y_kinds, y_blocks, y_runs, y_revokes, y_from, y_uses, y_revoked, y_had, y_data)) (hinv : iv_M_enter_12 a_use (y_thrown, y_ring, y_off, y_fuse, y_steps, y_many, y_log, y_before, y_home, y_base, y_now, y_kinds, y_blocks, y_runs, y_revokes, y_from, y_uses, y_revoked, y_had, y_data) x2 x3 (y_thrown, y_ring, y_off, y_fuse, y_steps, y_many, y_log_i, y_before, y_home, y_base, y_now, y_kinds, y_blocks, y_runs_i, y_revokes_i, y_from_i, y_uses_i, y_revoked_i, y_had_i, y_data_i)) (c_15 : ¬ 64 ≤ x3) (e_36 : v_36 = (y_revokes_i (x3).toNatClampNeg)) (e_43 : v_43 = (y_runs_i (x3).toNatClampNeg)) (c_44 : ¬ v_43 = 0) (w_76 : po_M_copy (256 * x3) (256 * x2) 256 16384 51200 y_now y_data_i y_now b_ar_76) (e_79 : v_79 = x2 + 1) (e_82 : v_82 = x3 + 1) : iv_M_enter_12 a_use (y_thrown, y_ring, y_off, y_fuse, y_steps, y_many, y_log, y_before, y_home, y_base, y_now, y_kinds, y_blocks, y_runs, y_revokes, y_from, y_uses, y_revoked, y_had, y_data) v_79 v_82 (y_thrown, y_ring, y_off, y_fuse, y_steps, y_many, y_log_i, y_before, y_home, y_base, y_now, y_kinds, y_blocks, y_runs_i, y_revokes_i, y_from_i, y_uses_i, (upd y_revoked_i (((64 * y_log_i) + x3)).toNatClampNeg (vp_nar .boolean v_36)), (upd y_had_i (x2).toNatClampNeg x3), b_ar_76) ∧ mu_M_enter_12 a_use (y_thrown, y_ring, y_off, y_fuse, y_steps, y_many, y_log, y_before, y_home, y_base, y_now, y_kinds, y_blocks, y_runs, y_revokes, y_from, y_uses, y_revoked, y_had, y_data) v_79 v_82 (y_thrown, y_ring, y_off, y_fuse, y_steps, y_many, y_log_i, y_before, y_home, y_base, y_now, y_kinds, y_blocks, y_runs_i, y_revokes_i, y_from_i, y_uses_i, (upd y_revoked_i (((64 * y_log_i) + x3)).toNatClampNeg (vp_nar .boolean v_36)), (upd y_had_i (x2).toNatClampNeg x3), b_ar_76) < mu_M_enter_12 a_use (y_thrown, y_ring, y_off, y_fuse, y_steps, y_many, y_log, y_before, y_home, y_base, y_now, y_kinds, y_blocks, y_runs, y_revokes, y_from, y_uses, y_revoked, y_had, y_data) x2 x3 (y_thrown, y_ring, y_off, y_fuse, y_steps, y_many, y_log_i, y_before, y_home, y_base, y_now, y_kinds, y_blocks, y_runs_i, y_revokes_i, y_from_i, y_uses_i, y_revoked_i, y_had_i, y_data_i) := by
  obtain ⟨g0, run0, rev0, hg0, hl0, ho0, hr0, hc0, hf0, hn0⟩ := hpre
  obtain ⟨⟨rfl, rfl, rfl, rfl, rfl⟩, b, hb, rfl, h⟩ := hinv
  have hb2 : ¬ 64 ≤ b := fun z => c_15 (nI_le (a := 64) z (by omega))
  rw [nI_clamp (n := b) (by omega)] at e_36 e_43
  have hm0 : bitt run0 b = true := by
    have e := e_43
    rw [hr0.1 b (by omega)] at e
    exact b2i_n0.mp (fun z => c_44 (e.trans z))
  have hk0 := rk_lt (by omega) hm0
  have e20 := (en_hit (by omega) hm0 ho0 (h g0 run0 rev0 hg0 hl0 ho0 hr0)).1
  have w := w_76 (256 * b) (256 * (g0.2.2.2.2.1 g0.1 + rk run0 b)) 256 (pk_mul 256 b) (by rw [e20]; exact pk_mul 256 _) rfl (by omega) (by omega) (by decide) (by decide)
  refine ⟨⟨⟨rfl, rfl, rfl, rfl, rfl⟩, b + 1, by omega, by rw [e_82]; exact nI_1 b, fun g run rev hg hl ho hr => ?_⟩, ?_⟩
  · have hi := h g run rev hg hl ho hr
    have on := okG_n (n := g.1) ho
    have on1 := on.1
    have on2 : g.2.2.2.2.1 g.1 + g.1 ≤ 199 := on.2.1
    have el : y_log_i = nI g.1 := hl
    rw [hr.2 b (by omega)] at e_36
    rw [hr.1 b (by omega)] at e_43
    have hm : bitt run b = true := b2i_n0.mp (fun z => c_44 (e_43.trans z))
    have hk := rk_lt (by omega) hm
    have hcn := cnt_le run
    obtain ⟨e2, r⟩ := en_hit (by omega) hm ho hi
    have ee : g0.2.2.2.2.1 g0.1 + rk run0 b = g.2.2.2.2.1 g.1 + rk run b := (nI_eq (by omega) (by omega)).mp (e20.symm.trans e2)
    rw [ee] at w
    rw [e_36, nb_b2i, e_79, w, e2, el, show (64 : Int32) * nI g.1 = nI (64 * g.1) from pk_mul 64 g.1, nI_add, nI_clamp (n := 64 * g.1 + b) (by omega), nI_clamp (n := g.2.2.2.2.1 g.1 + rk run b) (by omega)]
    rw [e2, el] at r
    exact r
  · show 64 - v_82.toNatClampNeg < 64 - (nI b).toNatClampNeg
    rw [e_82, nI_1, nI_clamp (by omega), nI_clamp (by omega)]
    omega
theorem vc_M_enter_8_0 (a_use : Int32) (y_thrown : Int32) (y_ring : Int32) (y_off : Int32) (y_fuse : Int32) (y_steps : Int32) (y_many : Int32) (y_log : Int32) (y_before : Int32) (y_home : Nat → Int32) (y_base : Nat → Int32) (y_now : Nat → Int32) (y_kinds : Nat → Int32) (y_blocks : Nat → Int32) (y_runs : Nat → Int32) (y_revokes : Nat → Int32) (y_from : Nat → Int32) (y_uses : Nat → Int32) (y_revoked : Nat → Int32) (y_had : Nat → Int32) (y_data : Nat → Int32) (hpre : pr_M_enter a_use (y_thrown, y_ring, y_off, y_fuse, y_steps, y_many, y_log, y_before, y_home, y_base, y_now, y_kinds, y_blocks, y_runs, y_revokes, y_from, y_uses, y_revoked, y_had, y_data)) : vp_in y_log 102 := by
  obtain ⟨g, run, rev, hg, hl, ho, hr, hc, hf, hn⟩ := hpre
  have el : y_log = nI g.1 := hl
  rw [el]
  exact vp_in_nI (by omega) (by decide)
theorem vc_M_enter_11_0 (a_use : Int32) (y_thrown : Int32) (y_ring : Int32) (y_off : Int32) (y_fuse : Int32) (y_steps : Int32) (y_many : Int32) (y_log : Int32) (y_before : Int32) (y_home : Nat → Int32) (y_base : Nat → Int32) (y_now : Nat → Int32) (y_kinds : Nat → Int32) (y_blocks : Nat → Int32) (y_runs : Nat → Int32) (y_revokes : Nat → Int32) (y_from : Nat → Int32) (y_uses : Nat → Int32) (y_revoked : Nat → Int32) (y_had : Nat → Int32) (y_data : Nat → Int32) (v_8 : Int32) (hpre : pr_M_enter a_use (y_thrown, y_ring, y_off, y_fuse, y_steps, y_many, y_log, y_before, y_home, y_base, y_now, y_kinds, y_blocks, y_runs, y_revokes, y_from, y_uses, y_revoked, y_had, y_data)) (e_8 : v_8 = (y_from (y_log).toNatClampNeg)) : iv_M_enter_12 a_use (y_thrown, y_ring, y_off, y_fuse, y_steps, y_many, y_log, y_before, y_home, y_base, y_now, y_kinds, y_blocks, y_runs, y_revokes, y_from, y_uses, y_revoked, y_had, y_data) v_8 0 (y_thrown, y_ring, y_off, y_fuse, y_steps, y_many, y_log, y_before, y_home, y_base, y_now, y_kinds, y_blocks, y_runs, y_revokes, y_from, y_uses, y_revoked, y_had, y_data) ∧ True := by
  refine ⟨⟨⟨rfl, rfl, rfl, rfl, rfl⟩, 0, by omega, rfl, fun g run rev hg hl ho hr => ?_⟩, trivial⟩
  have on1 := (okG_n (n := g.1) ho).1
  have el : y_log = nI g.1 := hl
  obtain ⟨n, blk, rvk, us, fst, im⟩ := g
  have el : y_log = nI n := el
  have on1 : n ≤ 99 := on1
  obtain ⟨g1, g2, g3⟩ := hg
  rw [el, nI_clamp (by omega), g1 n (Nat.le_refl _)] at e_8
  refine ⟨e_8, fun t ht c hc => (g2 t ht).2 c hc, fun c hc => absurd hc (Nat.not_lt_zero _), ?_⟩
  rw [g3]
  rfl
theorem bar_fu {d : Dk} (h : (sBar d).1 = false) : (sBar d).2.1 = d.1 := by
  obtain ⟨u, on, f, st, ba, ho⟩ := d
  cases z : (sStep (u, on, f, st, ba, ho)).1
  · rw [bar_f z, (st_f z).2]
  · rw [bar_t z] at h; cases h
theorem ring_fu {k : Nat} {d : Dk} (h : (sRing k d).1 = false) : (sRing k d).2.1 = d.1 := by
  obtain ⟨u, on, f, st, ba, ho⟩ := d
  cases z : (sStep (u, on, f, st, ba, ho)).1
  · rw [rg_f z, (st_f z).2]
  · rw [rg_t z] at h; cases h
theorem bar_hs {d : Dk} (h : hs d.1) : hs (sBar d).2.1 := by
  cases z : (sBar d).1
  · rw [bar_fu z]; exact h
  · rw [bar_nil z]; exact hs_nil

theorem vc_M_empty_3_0 (y_thrown : Int32) (y_ring : Int32) (y_off : Int32) (y_fuse : Int32) (y_steps : Int32) (y_many : Int32) (y_log : Int32) (y_before : Int32) (y_home : Nat → Int32) (y_base : Nat → Int32) (y_now : Nat → Int32) (y_kinds : Nat → Int32) (y_blocks : Nat → Int32) (y_runs : Nat → Int32) (y_revokes : Nat → Int32) (y_from : Nat → Int32) (y_uses : Nat → Int32) (y_revoked : Nat → Int32) (y_had : Nat → Int32) (y_data : Nat → Int32) (hpre : pr_M_empty (y_thrown, y_ring, y_off, y_fuse, y_steps, y_many, y_log, y_before, y_home, y_base, y_now, y_kinds, y_blocks, y_runs, y_revokes, y_from, y_uses, y_revoked, y_had, y_data)) : pr_M_step 4 0 (y_thrown, y_ring, y_off, y_fuse, y_steps, y_many, y_log, y_before, y_home, y_base, y_now, y_kinds, y_blocks, y_runs, y_revokes, y_from, y_uses, y_revoked, y_had, y_data) := by
  obtain ⟨d, run, rev, hd, hw, hl⟩ := hpre
  exact ⟨d, run, rev, 4, 0, hd, hw, hl, rfl, by decide, rfl, fun z => (nomatch z)⟩
theorem vc_M_empty_19_0 (y_thrown : Int32) (y_ring : Int32) (y_off : Int32) (y_fuse : Int32) (y_steps : Int32) (y_many : Int32) (y_log : Int32) (y_before : Int32) (y_home : Nat → Int32) (y_base : Nat → Int32) (y_now : Nat → Int32) (y_kinds : Nat → Int32) (y_blocks : Nat → Int32) (y_runs : Nat → Int32) (y_revokes : Nat → Int32) (y_from : Nat → Int32) (y_uses : Nat → Int32) (y_revoked : Nat → Int32) (y_had : Nat → Int32) (y_data : Nat → Int32) (r_3 : Int32) (y_off_3 : Int32) (y_fuse_3 : Int32) (y_steps_3 : Int32) (y_many_3 : Int32) (y_base_3 : Nat → Int32) (y_kinds_3 : Nat → Int32) (y_blocks_3 : Nat → Int32) (y_runs_3 : Nat → Int32) (y_revokes_3 : Nat → Int32) (hpre : pr_M_empty (y_thrown, y_ring, y_off, y_fuse, y_steps, y_many, y_log, y_before, y_home, y_base, y_now, y_kinds, y_blocks, y_runs, y_revokes, y_from, y_uses, y_revoked, y_had, y_data)) (w_3 : po_M_step 4 0 (y_thrown, y_ring, y_off, y_fuse, y_steps, y_many, y_log, y_before, y_home, y_base, y_now, y_kinds, y_blocks, y_runs, y_revokes, y_from, y_uses, y_revoked, y_had, y_data) r_3 (y_thrown, y_ring, y_off_3, y_fuse_3, y_steps_3, y_many_3, y_log, y_before, y_home, y_base_3, y_now, y_kinds_3, y_blocks_3, y_runs_3, y_revokes_3, y_from, y_uses, y_revoked, y_had, y_data)) (c_6 : r_3 = 0) : po_M_empty (y_thrown, y_ring, y_off, y_fuse, y_steps, y_many, y_log, y_before, y_home, y_base, y_now, y_kinds, y_blocks, y_runs, y_revokes, y_from, y_uses, y_revoked, y_had, y_data) 0 (y_thrown, y_ring, y_off_3, y_fuse_3, y_steps_3, y_many_3, y_log, y_before, y_home, y_base_3, y_now, y_kinds_3, y_blocks_3, y_runs_3, y_revokes_3, y_from, y_uses, y_revoked, y_had, y_data) := by
  intro d run rev g hd hw hh hl
  have hl64 := hs_len64 hh
  obtain ⟨a, b⟩ := w_3 d run rev 4 0 hd hw (by omega) rfl (by decide) rfl (fun z => (nomatch z))
  have h := b2i_0.mp (a.symm.trans c_6)
  have h : (sBar d).1 = false := h
  rw [end_f1 h]
  exact ⟨rfl, b, RMn_hs (bar_hs hh) hl⟩
theorem vc_M_empty_12_0 (y_thrown : Int32) (y_ring : Int32) (y_off : Int32) (y_fuse : Int32) (y_steps : Int32) (y_many : Int32) (y_log : Int32) (y_before : Int32) (y_home : Nat → Int32) (y_base : Nat → Int32) (y_now : Nat → Int32) (y_kinds : Nat → Int32) (y_blocks : Nat → Int32) (y_runs : Nat → Int32) (y_revokes : Nat → Int32) (y_from : Nat → Int32) (y_uses : Nat → Int32) (y_revoked : Nat → Int32) (y_had : Nat → Int32) (y_data : Nat → Int32) (r_3 : Int32) (y_off_3 : Int32) (y_fuse_3 : Int32) (y_steps_3 : Int32) (y_many_3 : Int32) (y_base_3 : Nat → Int32) (y_kinds_3 : Nat → Int32) (y_blocks_3 : Nat → Int32) (y_runs_3 : Nat → Int32) (y_revokes_3 : Nat → Int32) (hpre : pr_M_empty (y_thrown, y_ring, y_off, y_fuse, y_steps, y_many, y_log, y_before, y_home, y_base, y_now, y_kinds, y_blocks, y_runs, y_revokes, y_from, y_uses, y_revoked, y_had, y_data)) (w_3 : po_M_step 4 0 (y_thrown, y_ring, y_off, y_fuse, y_steps, y_many, y_log, y_before, y_home, y_base, y_now, y_kinds, y_blocks, y_runs, y_revokes, y_from, y_uses, y_revoked, y_had, y_data) r_3 (y_thrown, y_ring, y_off_3, y_fuse_3, y_steps_3, y_many_3, y_log, y_before, y_home, y_base_3, y_now, y_kinds_3, y_blocks_3, y_runs_3, y_revokes_3, y_from, y_uses, y_revoked, y_had, y_data)) (c_6 : ¬ r_3 = 0) : pr_M_step 3 0 (y_thrown, y_ring, y_off_3, y_fuse_3, y_steps_3, y_many_3, y_log, y_before, y_home, y_base_3, y_now, y_kinds_3, y_blocks_3, y_runs_3, y_revokes_3, y_from, y_uses, y_revoked, y_had, y_data) := by
  obtain ⟨d, run, rev, hd, hw, hl⟩ := hpre
  obtain ⟨a, b⟩ := w_3 d run rev 4 0 hd hw hl rfl (by decide) rfl (fun z => (nomatch z))
  have h : (sBar d).1 = true := b2i_n0.mp (fun z => c_6 (a.trans z))
  exact ⟨(sBar d).2, run, rev, 3, 0, b, DW_bar hw, by rw [bar_nil h]; decide, rfl, by decide, rfl, fun z => (nomatch z)⟩
theorem vc_M_empty_36_0 (y_thrown : Int32) (y_ring : Int32) (y_off : Int32) (y_fuse : Int32) (y_steps : Int32) (y_many : Int32) (y_log : Int32) (y_before : Int32) (y_home : Nat → Int32) (y_base : Nat → Int32) (y_now : Nat → Int32) (y_kinds : Nat → Int32) (y_blocks : Nat → Int32) (y_runs : Nat → Int32) (y_revokes : Nat → Int32) (y_from : Nat → Int32) (y_uses : Nat → Int32) (y_revoked : Nat → Int32) (y_had : Nat → Int32) (y_data : Nat → Int32) (r_3 : Int32) (y_off_3 : Int32) (y_fuse_3 : Int32) (y_steps_3 : Int32) (y_many_3 : Int32) (y_base_3 : Nat → Int32) (y_kinds_3 : Nat → Int32) (y_blocks_3 : Nat → Int32) (y_runs_3 : Nat → Int32) (y_revokes_3 : Nat → Int32) (r_12 : Int32) (y_off_12 : Int32) (y_fuse_12 : Int32) (y_steps_12 : Int32) (y_many_12 : Int32) (y_base_12 : Nat → Int32) (y_kinds_12 : Nat → Int32) (y_blocks_12 : Nat → Int32) (y_runs_12 : Nat → Int32) (y_revokes_12 : Nat → Int32) (hpre : pr_M_empty (y_thrown, y_ring, y_off, y_fuse, y_steps, y_many, y_log, y_before, y_home, y_base, y_now, y_kinds, y_blocks, y_runs, y_revokes, y_from, y_uses, y_revoked, y_had, y_data)) (w_3 : po_M_step 4 0 (y_thrown, y_ring, y_off, y_fuse, y_steps, y_many, y_log, y_before, y_home, y_base, y_now, y_kinds, y_blocks, y_runs, y_revokes, y_from, y_uses, y_revoked, y_had, y_data) r_3 (y_thrown, y_ring, y_off_3, y_fuse_3, y_steps_3, y_many_3, y_log, y_before, y_home, y_base_3, y_now, y_kinds_3, y_blocks_3, y_runs_3, y_revokes_3, y_from, y_uses, y_revoked, y_had, y_data)) (c_6 : ¬ r_3 = 0) (w_12 : po_M_step 3 0 (y_thrown, y_ring, y_off_3, y_fuse_3, y_steps_3, y_many_3, y_log, y_before, y_home, y_base_3, y_now, y_kinds_3, y_blocks_3, y_runs_3, y_revokes_3, y_from, y_uses, y_revoked, y_had, y_data) r_12 (y_thrown, y_ring, y_off_12, y_fuse_12, y_steps_12, y_many_12, y_log, y_before, y_home, y_base_12, y_now, y_kinds_12, y_blocks_12, y_runs_12, y_revokes_12, y_from, y_uses, y_revoked, y_had, y_data)) (c_15 : ¬ r_12 = 0) : pr_M_step 4 0 (y_thrown, y_ring, y_off_12, y_fuse_12, y_steps_12, y_many_12, 0, y_log, y_home, y_base_12, y_now, y_kinds_12, y_blocks_12, y_runs_12, y_revokes_12, y_from, y_uses, y_revoked, y_had, y_data) := by
  obtain ⟨d, run, rev, hd, hw, hl⟩ := hpre
  obtain ⟨a, b⟩ := w_3 d run rev 4 0 hd hw hl rfl (by decide) rfl (fun z => (nomatch z))
  have h : (sBar d).1 = true := b2i_n0.mp (fun z => c_6 (a.trans z))
  obtain ⟨a2, b2⟩ := w_12 (sBar d).2 run rev 3 0 b (DW_bar hw) (by rw [bar_nil h]; decide) rfl (by decide) rfl (fun z => (nomatch z))
  have h2 : (sRing 66 (sBar d).2).1 = true := b2i_n0.mp (fun z => c_15 (a2.trans z))
  exact ⟨(sRing 66 (sBar d).2).2, run, rev, 4, 0, b2, DW_ring (DW_bar hw) (by rw [bar_nil h]; decide) (by decide), by rw [ring_u h2, bar_nil h]; decide, rfl, by decide, rfl, fun z => (nomatch z)⟩
theorem vc_M_empty_39_0 (y_thrown : Int32) (y_ring : Int32) (y_off : Int32) (y_fuse : Int32) (y_steps : Int32) (y_many : Int32) (y_log : Int32) (y_before : Int32) (y_home : Nat → Int32) (y_base : Nat → Int32) (y_now : Nat → Int32) (y_kinds : Nat → Int32) (y_blocks : Nat → Int32) (y_runs : Nat → Int32) (y_revokes : Nat → Int32) (y_from : Nat → Int32) (y_uses : Nat → Int32) (y_revoked : Nat → Int32) (y_had : Nat → Int32) (y_data : Nat → Int32) (r_3 : Int32) (y_off_3 : Int32) (y_fuse_3 : Int32) (y_steps_3 : Int32) (y_many_3 : Int32) (y_base_3 : Nat → Int32) (y_kinds_3 : Nat → Int32) (y_blocks_3 : Nat → Int32) (y_runs_3 : Nat → Int32) (y_revokes_3 : Nat → Int32) (r_12 : Int32) (y_off_12 : Int32) (y_fuse_12 : Int32) (y_steps_12 : Int32) (y_many_12 : Int32) (y_base_12 : Nat → Int32) (y_kinds_12 : Nat → Int32) (y_blocks_12 : Nat → Int32) (y_runs_12 : Nat → Int32) (y_revokes_12 : Nat → Int32) (r_36 : Int32) (y_off_36 : Int32) (y_fuse_36 : Int32) (y_steps_36 : Int32) (y_many_36 : Int32) (y_base_36 : Nat → Int32) (y_kinds_36 : Nat → Int32) (y_blocks_36 : Nat → Int32) (y_runs_36 : Nat → Int32) (y_revokes_36 : Nat → Int32) (hpre : pr_M_empty (y_thrown, y_ring, y_off, y_fuse, y_steps, y_many, y_log, y_before, y_home, y_base, y_now, y_kinds, y_blocks, y_runs, y_revokes, y_from, y_uses, y_revoked, y_had, y_data)) (w_3 : po_M_step 4 0 (y_thrown, y_ring, y_off, y_fuse, y_steps, y_many, y_log, y_before, y_home, y_base, y_now, y_kinds, y_blocks, y_runs, y_revokes, y_from, y_uses, y_revoked, y_had, y_data) r_3 (y_thrown, y_ring, y_off_3, y_fuse_3, y_steps_3, y_many_3, y_log, y_before, y_home, y_base_3, y_now, y_kinds_3, y_blocks_3, y_runs_3, y_revokes_3, y_from, y_uses, y_revoked, y_had, y_data)) (c_6 : ¬ r_3 = 0) (w_12 : po_M_step 3 0 (y_thrown, y_ring, y_off_3, y_fuse_3, y_steps_3, y_many_3, y_log, y_before, y_home, y_base_3, y_now, y_kinds_3, y_blocks_3, y_runs_3, y_revokes_3, y_from, y_uses, y_revoked, y_had, y_data) r_12 (y_thrown, y_ring, y_off_12, y_fuse_12, y_steps_12, y_many_12, y_log, y_before, y_home, y_base_12, y_now, y_kinds_12, y_blocks_12, y_runs_12, y_revokes_12, y_from, y_uses, y_revoked, y_had, y_data)) (c_15 : ¬ r_12 = 0) (w_36 : po_M_step 4 0 (y_thrown, y_ring, y_off_12, y_fuse_12, y_steps_12, y_many_12, 0, y_log, y_home, y_base_12, y_now, y_kinds_12, y_blocks_12, y_runs_12, y_revokes_12, y_from, y_uses, y_revoked, y_had, y_data) r_36 (y_thrown, y_ring, y_off_36, y_fuse_36, y_steps_36, y_many_36, 0, y_log, y_home, y_base_36, y_now, y_kinds_36, y_blocks_36, y_runs_36, y_revokes_36, y_from, y_uses, y_revoked, y_had, y_data)) : po_M_empty (y_thrown, y_ring, y_off, y_fuse, y_steps, y_many, y_log, y_before, y_home, y_base, y_now, y_kinds, y_blocks, y_runs, y_revokes, y_from, y_uses, y_revoked, y_had, y_data) r_36 (y_thrown, y_ring, y_off_36, y_fuse_36, y_steps_36, y_many_36, 0, y_log, y_home, y_base_36, y_now, y_kinds_36, y_blocks_36, y_runs_36, y_revokes_36, y_from, y_uses, y_revoked, y_had, y_data) := by
  intro d run rev g hd hw hh hl
  have hl64 := hs_len64 hh
  obtain ⟨a, b⟩ := w_3 d run rev 4 0 hd hw (by omega) rfl (by decide) rfl (fun z => (nomatch z))
  have h : (sBar d).1 = true := b2i_n0.mp (fun z => c_6 (a.trans z))
  obtain ⟨a2, b2⟩ := w_12 (sBar d).2 run rev 3 0 b (DW_bar hw) (by rw [bar_nil h]; decide) rfl (by decide) rfl (fun z => (nomatch z))
  have h2 : (sRing 66 (sBar d).2).1 = true := b2i_n0.mp (fun z => c_15 (a2.trans z))
  obtain ⟨a3, b3⟩ := w_36 (sRing 66 (sBar d).2).2 run rev 4 0 b2 (DW_ring (DW_bar hw) (by rw [bar_nil h]; decide) (by decide)) (by rw [ring_u h2, bar_nil h]; decide) rfl (by decide) rfl (fun z => (nomatch z))
  have a3 : r_36 = b2i (sBar (sRing 66 (sBar d).2).2).1 := a3
  have b3 : RMs (sBar (sRing 66 (sBar d).2).2).2 run rev _ := b3
  rw [end_3 h h2]
  refine ⟨a3, b3, ?_⟩
  cases z3 : (sBar (sRing 66 (sBar d).2).2).1
  · have e : (sBar (sRing 66 (sBar d).2).2).2.1 = [66] := by
      rw [bar_fu z3, ring_u h2, bar_nil h]; rfl
    show if 66 ∈ (sBar (sRing 66 (sBar d).2).2).2.1 then _ else _
    rw [e, if_pos (by decide)]
    exact ⟨rfl, hl⟩
  · refine RMn_not ?_ rfl
    show ¬ 66 ∈ (sBar (sRing 66 (sBar d).2).2).2.1
    rw [bar_nil z3]
    decide
theorem vc_M_empty_39_1 (y_thrown : Int32) (y_ring : Int32) (y_off : Int32) (y_fuse : Int32) (y_steps : Int32) (y_many : Int32) (y_log : Int32) (y_before : Int32) (y_home : Nat → Int32) (y_base : Nat → Int32) (y_now : Nat → Int32) (y_kinds : Nat → Int32) (y_blocks : Nat → Int32) (y_runs : Nat → Int32) (y_revokes : Nat → Int32) (y_from : Nat → Int32) (y_uses : Nat → Int32) (y_revoked : Nat → Int32) (y_had : Nat → Int32) (y_data : Nat → Int32) (r_3 : Int32) (y_off_3 : Int32) (y_fuse_3 : Int32) (y_steps_3 : Int32) (y_many_3 : Int32) (y_base_3 : Nat → Int32) (y_kinds_3 : Nat → Int32) (y_blocks_3 : Nat → Int32) (y_runs_3 : Nat → Int32) (y_revokes_3 : Nat → Int32) (r_12 : Int32) (y_off_12 : Int32) (y_fuse_12 : Int32) (y_steps_12 : Int32) (y_many_12 : Int32) (y_base_12 : Nat → Int32) (y_kinds_12 : Nat → Int32) (y_blocks_12 : Nat → Int32) (y_runs_12 : Nat → Int32) (y_revokes_12 : Nat → Int32) (r_36 : Int32) (y_off_36 : Int32) (y_fuse_36 : Int32) (y_steps_36 : Int32) (y_many_36 : Int32) (y_base_36 : Nat → Int32) (y_kinds_36 : Nat → Int32) (y_blocks_36 : Nat → Int32) (y_runs_36 : Nat → Int32) (y_revokes_36 : Nat → Int32) (hpre : pr_M_empty (y_thrown, y_ring, y_off, y_fuse, y_steps, y_many, y_log, y_before, y_home, y_base, y_now, y_kinds, y_blocks, y_runs, y_revokes, y_from, y_uses, y_revoked, y_had, y_data)) (w_3 : po_M_step 4 0 (y_thrown, y_ring, y_off, y_fuse, y_steps, y_many, y_log, y_before, y_home, y_base, y_now, y_kinds, y_blocks, y_runs, y_revokes, y_from, y_uses, y_revoked, y_had, y_data) r_3 (y_thrown, y_ring, y_off_3, y_fuse_3, y_steps_3, y_many_3, y_log, y_before, y_home, y_base_3, y_now, y_kinds_3, y_blocks_3, y_runs_3, y_revokes_3, y_from, y_uses, y_revoked, y_had, y_data)) (c_6 : ¬ r_3 = 0) (w_12 : po_M_step 3 0 (y_thrown, y_ring, y_off_3, y_fuse_3, y_steps_3, y_many_3, y_log, y_before, y_home, y_base_3, y_now, y_kinds_3, y_blocks_3, y_runs_3, y_revokes_3, y_from, y_uses, y_revoked, y_had, y_data) r_12 (y_thrown, y_ring, y_off_12, y_fuse_12, y_steps_12, y_many_12, y_log, y_before, y_home, y_base_12, y_now, y_kinds_12, y_blocks_12, y_runs_12, y_revokes_12, y_from, y_uses, y_revoked, y_had, y_data)) (c_15 : ¬ r_12 = 0) (w_36 : po_M_step 4 0 (y_thrown, y_ring, y_off_12, y_fuse_12, y_steps_12, y_many_12, 0, y_log, y_home, y_base_12, y_now, y_kinds_12, y_blocks_12, y_runs_12, y_revokes_12, y_from, y_uses, y_revoked, y_had, y_data) r_36 (y_thrown, y_ring, y_off_36, y_fuse_36, y_steps_36, y_many_36, 0, y_log, y_home, y_base_36, y_now, y_kinds_36, y_blocks_36, y_runs_36, y_revokes_36, y_from, y_uses, y_revoked, y_had, y_data)) : narrow .boolean (.int r_36) = .int r_36 := by
  obtain ⟨d, run, rev, hd, hw, hl⟩ := hpre
  obtain ⟨a, b⟩ := w_3 d run rev 4 0 hd hw hl rfl (by decide) rfl (fun z => (nomatch z))
  have h : (sBar d).1 = true := b2i_n0.mp (fun z => c_6 (a.trans z))
  obtain ⟨a2, b2⟩ := w_12 (sBar d).2 run rev 3 0 b (DW_bar hw) (by rw [bar_nil h]; decide) rfl (by decide) rfl (fun z => (nomatch z))
  have h2 : (sRing 66 (sBar d).2).1 = true := b2i_n0.mp (fun z => c_15 (a2.trans z))
  obtain ⟨a3, b3⟩ := w_36 (sRing 66 (sBar d).2).2 run rev 4 0 b2 (DW_ring (DW_bar hw) (by rw [bar_nil h]; decide) (by decide)) (by rw [ring_u h2, bar_nil h]; decide) rfl (by decide) rfl (fun z => (nomatch z))
  rw [a3]
  exact nar_b2i _
theorem vc_M_empty_19_1 (y_thrown : Int32) (y_ring : Int32) (y_off : Int32) (y_fuse : Int32) (y_steps : Int32) (y_many : Int32) (y_log : Int32) (y_before : Int32) (y_home : Nat → Int32) (y_base : Nat → Int32) (y_now : Nat → Int32) (y_kinds : Nat → Int32) (y_blocks : Nat → Int32) (y_runs : Nat → Int32) (y_revokes : Nat → Int32) (y_from : Nat → Int32) (y_uses : Nat → Int32) (y_revoked : Nat → Int32) (y_had : Nat → Int32) (y_data : Nat → Int32) (r_3 : Int32) (y_off_3 : Int32) (y_fuse_3 : Int32) (y_steps_3 : Int32) (y_many_3 : Int32) (y_base_3 : Nat → Int32) (y_kinds_3 : Nat → Int32) (y_blocks_3 : Nat → Int32) (y_runs_3 : Nat → Int32) (y_revokes_3 : Nat → Int32) (r_12 : Int32) (y_off_12 : Int32) (y_fuse_12 : Int32) (y_steps_12 : Int32) (y_many_12 : Int32) (y_base_12 : Nat → Int32) (y_kinds_12 : Nat → Int32) (y_blocks_12 : Nat → Int32) (y_runs_12 : Nat → Int32) (y_revokes_12 : Nat → Int32) (hpre : pr_M_empty (y_thrown, y_ring, y_off, y_fuse, y_steps, y_many, y_log, y_before, y_home, y_base, y_now, y_kinds, y_blocks, y_runs, y_revokes, y_from, y_uses, y_revoked, y_had, y_data)) (w_3 : po_M_step 4 0 (y_thrown, y_ring, y_off, y_fuse, y_steps, y_many, y_log, y_before, y_home, y_base, y_now, y_kinds, y_blocks, y_runs, y_revokes, y_from, y_uses, y_revoked, y_had, y_data) r_3 (y_thrown, y_ring, y_off_3, y_fuse_3, y_steps_3, y_many_3, y_log, y_before, y_home, y_base_3, y_now, y_kinds_3, y_blocks_3, y_runs_3, y_revokes_3, y_from, y_uses, y_revoked, y_had, y_data)) (c_6 : ¬ r_3 = 0) (w_12 : po_M_step 3 0 (y_thrown, y_ring, y_off_3, y_fuse_3, y_steps_3, y_many_3, y_log, y_before, y_home, y_base_3, y_now, y_kinds_3, y_blocks_3, y_runs_3, y_revokes_3, y_from, y_uses, y_revoked, y_had, y_data) r_12 (y_thrown, y_ring, y_off_12, y_fuse_12, y_steps_12, y_many_12, y_log, y_before, y_home, y_base_12, y_now, y_kinds_12, y_blocks_12, y_runs_12, y_revokes_12, y_from, y_uses, y_revoked, y_had, y_data)) (c_15 : r_12 = 0) : po_M_empty (y_thrown, y_ring, y_off, y_fuse, y_steps, y_many, y_log, y_before, y_home, y_base, y_now, y_kinds, y_blocks, y_runs, y_revokes, y_from, y_uses, y_revoked, y_had, y_data) 0 (y_thrown, y_ring, y_off_12, y_fuse_12, y_steps_12, y_many_12, y_log, y_before, y_home, y_base_12, y_now, y_kinds_12, y_blocks_12, y_runs_12, y_revokes_12, y_from, y_uses, y_revoked, y_had, y_data) := by
  intro d run rev g hd hw hh hl
  have hl64 := hs_len64 hh
  obtain ⟨a, b⟩ := w_3 d run rev 4 0 hd hw (by omega) rfl (by decide) rfl (fun z => (nomatch z))
  have h : (sBar d).1 = true := b2i_n0.mp (fun z => c_6 (a.trans z))
  obtain ⟨a2, b2⟩ := w_12 (sBar d).2 run rev 3 0 b (DW_bar hw) (by rw [bar_nil h]; decide) rfl (by decide) rfl (fun z => (nomatch z))
  have h2 : (sRing 66 (sBar d).2).1 = false := b2i_0.mp (a2.symm.trans c_15)
  rw [end_f2 h h2]
  exact ⟨rfl, b2, RMn_not (by rw [ring_fu h2, bar_nil h]; decide) hl⟩
def enL : MDt → MDt → Prop
  | (_, _, _, _, _, _, log, before, _, _, _, _, _, _, _, _, _, _, _, _), (_, _, _, _, _, _, log2, before2, _, _, _, _, _, _, _, _, _, _, _, _) => log2 = log ∧ before2 = before
def iv_M_clearing_4 (y : MDt) (x1 x2 : Int32) (y2 : MDt) : Prop := enL y y2 ∧ ∃ b : Nat, b ≤ 64 ∧ x2 = nI b ∧ ∀ (d : Dk) (run rev : Int64) (g : Lg), RMs d run rev y → DW d → d.1 = [] → RMl g y → lgN g.1 y → okG g → x1 = nI (rk (sLying g) b) ∧ ∃ d2 : Dk, sClrN g (sLying g) 0 64 d = sClrN g (sLying g) b (64 - b) d2 ∧ RMs d2 run rev y2 ∧ DW d2 ∧ hs d2.1
def mu_M_clearing_4 (_ : MDt) (_ x2 : Int32) (_ : MDt) : Nat := 64 - x2.toNatClampNeg
theorem late_idx (g : Lg) (q : Nat) : sLate g q = 256 * tIdx g q := by
  obtain ⟨n, blk, rvk, use, fst, im⟩ := g
  cases z : laN blk q n with
  | none => simp [sLate, tIdx, z]
  | some t => simp only [sLate, tIdx, z, sImg]; exact Nat.mul_comm _ _
theorem told_t {g : Lg} {q : Nat} (o : okG g) (hq : q < 64) (h : bitt (sLying g) q = true) : sTold g q = nI (tIdx g q) ∧ tIdx g q < 200 := by
  obtain ⟨t, t1, t2, t3⟩ := ly_la (blk := g.2.1) (rvk := g.2.2.1) hq g.1 h
  have l := late_le o hq t2 t1 t3
  rw [late_idx] at l
  exact ⟨if_pos h, by omega⟩
theorem told_ne {g : Lg} {q : Nat} (o : okG g) (hq : q < 64) (h : sTold g q < 0) : bitt (sLying g) q = false := by
  cases z : bitt (sLying g) q
  · rfl
  · obtain ⟨a, b⟩ := told_t o hq z
    rw [a] at h
    exact absurd h (nI_pos (by omega))
theorem told_po {g : Lg} {q : Nat} (h : ¬ sTold g q < 0) : bitt (sLying g) q = true := by
  cases z : bitt (sLying g) q
  · have e : sTold g q = -1 := if_neg (by rw [z]; decide)
    rw [e] at h
    exact absurd (by decide) h
  · rfl
theorem mark_home {b sp : Nat} {f : Nat → Int32} {d : Dk} : (sHome b f sp d).1 = (sMark b d).1 ∧ ((sMark b d).1 = false → (sHome b f sp d).2 = (sMark b d).2) ∧ ((sMark b d).1 = true → (sHome b f sp d).2 = ((sMark b d).2.1, (sMark b d).2.2.1, (sMark b d).2.2.2.1, (sMark b d).2.2.2.2.1, (sMark b d).2.2.2.2.2.1, va_cpy f (sMark b d).2.2.2.2.2.2 sp (256 * b) 256)) := by
  obtain ⟨u, on, fu, st, ba, ho⟩ := d
  cases z : (sStep (u, on, fu, st, ba, ho)).1
  · rw [hm_f z, mk_f z]
    exact ⟨rfl, fun _ => rfl, fun y => (nomatch y)⟩
  · rw [hm_t z, mk_t z]
    exact ⟨rfl, fun y => (nomatch y), fun _ => rfl⟩
theorem RMs_home {z : Dk} {run rev : Int64} {h2 : Nat → Int32} {th rg off fuse steps many log before : Int32} {home base nw kinds blocks runs revokes frm uses revoked had data : Nat → Int32} (h : RMs z run rev (th, rg, off, fuse, steps, many, log, before, home, base, nw, kinds, blocks, runs, revokes, frm, uses, revoked, had, data)) : home = z.2.2.2.2.2 ∧ RMs (z.1, z.2.1, z.2.2.1, z.2.2.2.1, z.2.2.2.2.1, h2) run rev (th, rg, off, fuse, steps, many, log, before, h2, base, nw, kinds, blocks, runs, revokes, frm, uses, revoked, had, data) := by
  obtain ⟨u, on, f, st, ba, ho⟩ := z
  obtain ⟨q1, q2, q3, q4, q5, q6, q7, q8⟩ := h
  exact ⟨q5, q1, q2, q3, q4, rfl, q6, q7, q8⟩

theorem vc_M_clearing_66_0 (y_thrown : Int32) (y_ring : Int32) (y_off : Int32) (y_fuse : Int32) (y_steps : Int32) (y_many : Int32) (y_log : Int32) (y_before : Int32) (y_home : Nat → Int32) (y_base : Nat → Int32) (y_now : Nat → Int32) (y_kinds : Nat → Int32) (y_blocks : Nat → Int32) (y_runs : Nat → Int32) (y_revokes : Nat → Int32) (y_from : Nat → Int32) (y_uses : Nat → Int32) (y_revoked : Nat → Int32) (y_had : Nat → Int32) (y_data : Nat → Int32) (x1 : Int32) (x2 : Int32) (y_off_i : Int32) (y_fuse_i : Int32) (y_steps_i : Int32) (y_many_i : Int32) (y_log_i : Int32) (y_before_i : Int32) (y_home_i : Nat → Int32) (y_base_i : Nat → Int32) (y_kinds_i : Nat → Int32) (y_blocks_i : Nat → Int32) (y_runs_i : Nat → Int32) (y_revokes_i : Nat → Int32) (hpre : pr_M_clearing (y_thrown, y_ring, y_off, y_fuse, y_steps, y_many, y_log, y_before, y_home, y_base, y_now, y_kinds, y_blocks, y_runs, y_revokes, y_from, y_uses, y_revoked, y_had, y_data)) (hinv : iv_M_clearing_4 (y_thrown, y_ring, y_off, y_fuse, y_steps, y_many, y_log, y_before, y_home, y_base, y_now, y_kinds, y_blocks, y_runs, y_revokes, y_from, y_uses, y_revoked, y_had, y_data) x1 x2 (y_thrown, y_ring, y_off_i, y_fuse_i, y_steps_i, y_many_i, y_log_i, y_before_i, y_home_i, y_base_i, y_now, y_kinds_i, y_blocks_i, y_runs_i, y_revokes_i, y_from, y_uses, y_revoked, y_had, y_data)) (c_7 : 64 ≤ x2) : pr_M_empty (y_thrown, y_ring, y_off_i, y_fuse_i, y_steps_i, y_many_i, y_log_i, y_before_i, y_home_i, y_base_i, y_now, y_kinds_i, y_blocks_i, y_runs_i, y_revokes_i, y_from, y_uses, y_revoked, y_had, y_data) := by
  obtain ⟨d, run, rev, g, hd, hw, hn, hg, hl, ho⟩ := hpre
  obtain ⟨-, b, hb, rfl, h⟩ := hinv
  obtain ⟨-, d2, -, h3, h4, h5⟩ := h d run rev g hd hw hn hg hl ho
  have hl := hs_len64 h5
  exact ⟨d2, run, rev, h3, h4, by omega⟩
theorem vc_M_clearing_77_0 (y_thrown : Int32) (y_ring : Int32) (y_off : Int32) (y_fuse : Int32) (y_steps : Int32) (y_many : Int32) (y_log : Int32) (y_before : Int32) (y_home : Nat → Int32) (y_base : Nat → Int32) (y_now : Nat → Int32) (y_kinds : Nat → Int32) (y_blocks : Nat → Int32) (y_runs : Nat → Int32) (y_revokes : Nat → Int32) (y_from : Nat → Int32) (y_uses : Nat → Int32) (y_revoked : Nat → Int32) (y_had : Nat → Int32) (y_data : Nat → Int32) (x1 : Int32) (x2 : Int32) (y_off_i : Int32) (y_fuse_i : Int32) (y_steps_i : Int32) (y_many_i : Int32) (y_log_i : Int32) (y_before_i : Int32) (y_home_i : Nat → Int32) (y_base_i : Nat → Int32) (y_kinds_i : Nat → Int32) (y_blocks_i : Nat → Int32) (y_runs_i : Nat → Int32) (y_revokes_i : Nat → Int32) (r_66 : Int32) (y_off_66 : Int32) (y_fuse_66 : Int32) (y_steps_66 : Int32) (y_many_66 : Int32) (y_log_66 : Int32) (y_before_66 : Int32) (y_base_66 : Nat → Int32) (y_kinds_66 : Nat → Int32) (y_blocks_66 : Nat → Int32) (y_runs_66 : Nat → Int32) (y_revokes_66 : Nat → Int32) (hpre : pr_M_clearing (y_thrown, y_ring, y_off, y_fuse, y_steps, y_many, y_log, y_before, y_home, y_base, y_now, y_kinds, y_blocks, y_runs, y_revokes, y_from, y_uses, y_revoked, y_had, y_data)) (hinv : iv_M_clearing_4 (y_thrown, y_ring, y_off, y_fuse, y_steps, y_many, y_log, y_before, y_home, y_base, y_now, y_kinds, y_blocks, y_runs, y_revokes, y_from, y_uses, y_revoked, y_had, y_data) x1 x2 (y_thrown, y_ring, y_off_i, y_fuse_i, y_steps_i, y_many_i, y_log_i, y_before_i, y_home_i, y_base_i, y_now, y_kinds_i, y_blocks_i, y_runs_i, y_revokes_i, y_from, y_uses, y_revoked, y_had, y_data)) (c_7 : 64 ≤ x2) (w_66 : po_M_empty (y_thrown, y_ring, y_off_i, y_fuse_i, y_steps_i, y_many_i, y_log_i, y_before_i, y_home_i, y_base_i, y_now, y_kinds_i, y_blocks_i, y_runs_i, y_revokes_i, y_from, y_uses, y_revoked, y_had, y_data) r_66 (y_thrown, y_ring, y_off_66, y_fuse_66, y_steps_66, y_many_66, y_log_66, y_before_66, y_home_i, y_base_66, y_now, y_kinds_66, y_blocks_66, y_runs_66, y_revokes_66, y_from, y_uses, y_revoked, y_had, y_data)) (c_69 : r_66 = 0) : po_M_clearing (y_thrown, y_ring, y_off, y_fuse, y_steps, y_many, y_log, y_before, y_home, y_base, y_now, y_kinds, y_blocks, y_runs, y_revokes, y_from, y_uses, y_revoked, y_had, y_data) (-1) (y_thrown, y_ring, y_off_66, y_fuse_66, y_steps_66, y_many_66, y_log_66, y_before_66, y_home_i, y_base_66, y_now, y_kinds_66, y_blocks_66, y_runs_66, y_revokes_66, y_from, y_uses, y_revoked, y_had, y_data) := by
  intro d run rev g hd hw hn hg hl ho
  obtain ⟨⟨rfl, rfl⟩, b, hb, rfl, h⟩ := hinv
  have hb2 : 64 ≤ b := (nI_leI (a := 64) (by decide) (by omega)).mp c_7
  have e : b = 64 := by omega
  subst e
  obtain ⟨-, d2, h2, h3, h4, h5⟩ := h d run rev g hd hw hn hg hl ho
  obtain ⟨a, q1, q2⟩ := w_66 d2 run rev g h3 h4 h5 hl
  have z := b2i_0.mp (a.symm.trans c_69)
  rw [clear_t (h2.trans rfl), z]
  exact ⟨rfl, q1, q2⟩
theorem vc_M_clearing_77_1 (y_thrown : Int32) (y_ring : Int32) (y_off : Int32) (y_fuse : Int32) (y_steps : Int32) (y_many : Int32) (y_log : Int32) (y_before : Int32) (y_home : Nat → Int32) (y_base : Nat → Int32) (y_now : Nat → Int32) (y_kinds : Nat → Int32) (y_blocks : Nat → Int32) (y_runs : Nat → Int32) (y_revokes : Nat → Int32) (y_from : Nat → Int32) (y_uses : Nat → Int32) (y_revoked : Nat → Int32) (y_had : Nat → Int32) (y_data : Nat → Int32) (x1 : Int32) (x2 : Int32) (y_off_i : Int32) (y_fuse_i : Int32) (y_steps_i : Int32) (y_many_i : Int32) (y_log_i : Int32) (y_before_i : Int32) (y_home_i : Nat → Int32) (y_base_i : Nat → Int32) (y_kinds_i : Nat → Int32) (y_blocks_i : Nat → Int32) (y_runs_i : Nat → Int32) (y_revokes_i : Nat → Int32) (r_66 : Int32) (y_off_66 : Int32) (y_fuse_66 : Int32) (y_steps_66 : Int32) (y_many_66 : Int32) (y_log_66 : Int32) (y_before_66 : Int32) (y_base_66 : Nat → Int32) (y_kinds_66 : Nat → Int32) (y_blocks_66 : Nat → Int32) (y_runs_66 : Nat → Int32) (y_revokes_66 : Nat → Int32) (hpre : pr_M_clearing (y_thrown, y_ring, y_off, y_fuse, y_steps, y_many, y_log, y_before, y_home, y_base, y_now, y_kinds, y_blocks, y_runs, y_revokes, y_from, y_uses, y_revoked, y_had, y_data)) (hinv : iv_M_clearing_4 (y_thrown, y_ring, y_off, y_fuse, y_steps, y_many, y_log, y_before, y_home, y_base, y_now, y_kinds, y_blocks, y_runs, y_revokes, y_from, y_uses, y_revoked, y_had, y_data) x1 x2 (y_thrown, y_ring, y_off_i, y_fuse_i, y_steps_i, y_many_i, y_log_i, y_before_i, y_home_i, y_base_i, y_now, y_kinds_i, y_blocks_i, y_runs_i, y_revokes_i, y_from, y_uses, y_revoked, y_had, y_data)) (c_7 : 64 ≤ x2) (w_66 : po_M_empty (y_thrown, y_ring, y_off_i, y_fuse_i, y_steps_i, y_many_i, y_log_i, y_before_i, y_home_i, y_base_i, y_now, y_kinds_i, y_blocks_i, y_runs_i, y_revokes_i, y_from, y_uses, y_revoked, y_had, y_data) r_66 (y_thrown, y_ring, y_off_66, y_fuse_66, y_steps_66, y_many_66, y_log_66, y_before_66, y_home_i, y_base_66, y_now, y_kinds_66, y_blocks_66, y_runs_66, y_revokes_66, y_from, y_uses, y_revoked, y_had, y_data)) (c_69 : ¬ r_66 = 0) : po_M_clearing (y_thrown, y_ring, y_off, y_fuse, y_steps, y_many, y_log, y_before, y_home, y_base, y_now, y_kinds, y_blocks, y_runs, y_revokes, y_from, y_uses, y_revoked, y_had, y_data) x1 (y_thrown, y_ring, y_off_66, y_fuse_66, y_steps_66, y_many_66, y_log_66, y_before_66, y_home_i, y_base_66, y_now, y_kinds_66, y_blocks_66, y_runs_66, y_revokes_66, y_from, y_uses, y_revoked, y_had, y_data) := by
  intro d run rev g hd hw hn hg hl ho
  obtain ⟨⟨rfl, rfl⟩, b, hb, rfl, h⟩ := hinv
  have hb2 : 64 ≤ b := (nI_leI (a := 64) (by decide) (by omega)).mp c_7
  have e : b = 64 := by omega
  subst e
  obtain ⟨e1, d2, h2, h3, h4, h5⟩ := h d run rev g hd hw hn hg hl ho
  obtain ⟨a, q1, q2⟩ := w_66 d2 run rev g h3 h4 h5 hl
  have z := b2i_n0.mp (fun y => c_69 (a.trans y))
  rw [clear_t (h2.trans rfl), z, e1, rk_64]
  exact ⟨rfl, q1, q2⟩
theorem vc_M_clearing_12_0 (y_thrown : Int32) (y_ring : Int32) (y_off : Int32) (y_fuse : Int32) (y_steps : Int32) (y_many : Int32) (y_log : Int32) (y_before : Int32) (y_home : Nat → Int32) (y_base : Nat → Int32) (y_now : Nat → Int32) (y_kinds : Nat → Int32) (y_blocks : Nat → Int32) (y_runs : Nat → Int32) (y_revokes : Nat → Int32) (y_from : Nat → Int32) (y_uses : Nat → Int32) (y_revoked : Nat → Int32) (y_had : Nat → Int32) (y_data : Nat → Int32) (x1 : Int32) (x2 : Int32) (y_off_i : Int32) (y_fuse_i : Int32) (y_steps_i : Int32) (y_many_i : Int32) (y_log_i : Int32) (y_before_i : Int32) (y_home_i : Nat → Int32) (y_base_i : Nat → Int32) (y_kinds_i : Nat → Int32) (y_blocks_i : Nat → Int32) (y_runs_i : Nat → Int32) (y_revokes_i : Nat → Int32) (hpre : pr_M_clearing (y_thrown, y_ring, y_off, y_fuse, y_steps, y_many, y_log, y_before, y_home, y_base, y_now, y_kinds, y_blocks, y_runs, y_revokes, y_from, y_uses, y_revoked, y_had, y_data)) (hinv : iv_M_clearing_4 (y_thrown, y_ring, y_off, y_fuse, y_steps, y_many, y_log, y_before, y_home, y_base, y_now, y_kinds, y_blocks, y_runs, y_revokes, y_from, y_uses, y_revoked, y_had, y_data) x1 x2 (y_thrown, y_ring, y_off_i, y_fuse_i, y_steps_i, y_many_i, y_log_i, y_before_i, y_home_i, y_base_i, y_now, y_kinds_i, y_blocks_i, y_runs_i, y_revokes_i, y_from, y_uses, y_revoked, y_had, y_data)) (c_7 : ¬ 64 ≤ x2) : pr_M_told x2 (y_thrown, y_ring, y_off_i, y_fuse_i, y_steps_i, y_many_i, y_log_i, y_before_i, y_home_i, y_base_i, y_now, y_kinds_i, y_blocks_i, y_runs_i, y_revokes_i, y_from, y_uses, y_revoked, y_had, y_data) := by
  obtain ⟨d, run, rev, g, hd, hw, hn, hg, hl, ho⟩ := hpre
  obtain ⟨⟨rfl, rfl⟩, b, hb, rfl, h⟩ := hinv
  have hb2 : ¬ 64 ≤ b := fun z => c_7 (nI_le (a := 64) z (by omega))
  exact ⟨g, b, hg, hl, ho, rfl, by omega⟩
theorem vc_M_clearing_62_0 (y_thrown : Int32) (y_ring : Int32) (y_off : Int32) (y_fuse : Int32) (y_steps : Int32) (y_many : Int32) (y_log : Int32) (y_before : Int32) (y_home : Nat → Int32) (y_base : Nat → Int32) (y_now : Nat → Int32) (y_kinds : Nat → Int32) (y_blocks : Nat → Int32) (y_runs : Nat → Int32) (y_revokes : Nat → Int32) (y_from : Nat → Int32) (y_uses : Nat → Int32) (y_revoked : Nat → Int32) (y_had : Nat → Int32) (y_data : Nat → Int32) (x1 : Int32) (x2 : Int32) (y_off_i : Int32) (y_fuse_i : Int32) (y_steps_i : Int32) (y_many_i : Int32) (y_log_i : Int32) (y_before_i : Int32) (y_home_i : Nat → Int32) (y_base_i : Nat → Int32) (y_kinds_i : Nat → Int32) (y_blocks_i : Nat → Int32) (y_runs_i : Nat → Int32) (y_revokes_i : Nat → Int32) (r_12 : Int32) (v_59 : Int32) (hpre : pr_M_clearing (y_thrown, y_ring, y_off, y_fuse, y_steps, y_many, y_log, y_before, y_home, y_base, y_now, y_kinds, y_blocks, y_runs, y_revokes, y_from, y_uses, y_revoked, y_had, y_data)) (hinv : iv_M_clearing_4 (y_thrown, y_ring, y_off, y_fuse, y_steps, y_many, y_log, y_before, y_home, y_base, y_now, y_kinds, y_blocks, y_runs, y_revokes, y_from, y_uses, y_revoked, y_had, y_data) x1 x2 (y_thrown, y_ring, y_off_i, y_fuse_i, y_steps_i, y_many_i, y_log_i, y_before_i, y_home_i, y_base_i, y_now, y_kinds_i, y_blocks_i, y_runs_i, y_revokes_i, y_from, y_uses, y_revoked, y_had, y_data)) (c_7 : ¬ 64 ≤ x2) (w_12 : po_M_told x2 (y_thrown, y_ring, y_off_i, y_fuse_i, y_steps_i, y_many_i, y_log_i, y_before_i, y_home_i, y_base_i, y_now, y_kinds_i, y_blocks_i, y_runs_i, y_revokes_i, y_from, y_uses, y_revoked, y_had, y_data) r_12) (c_17 : r_12 < 0) (e_59 : v_59 = x2 + 1) : iv_M_clearing_4 (y_thrown, y_ring, y_off, y_fuse, y_steps, y_many, y_log, y_before, y_home, y_base, y_now, y_kinds, y_blocks, y_runs, y_revokes, y_from, y_uses, y_revoked, y_had, y_data) x1 v_59 (y_thrown, y_ring, y_off_i, y_fuse_i, y_steps_i, y_many_i, y_log_i, y_before_i, y_home_i, y_base_i, y_now, y_kinds_i, y_blocks_i, y_runs_i, y_revokes_i, y_from, y_uses, y_revoked, y_had, y_data) ∧ mu_M_clearing_4 (y_thrown, y_ring, y_off, y_fuse, y_steps, y_many, y_log, y_before, y_home, y_base, y_now, y_kinds, y_blocks, y_runs, y_revokes, y_from, y_uses, y_revoked, y_had, y_data) x1 v_59 (y_thrown, y_ring, y_off_i, y_fuse_i, y_steps_i, y_many_i, y_log_i, y_before_i, y_home_i, y_base_i, y_now, y_kinds_i, y_blocks_i, y_runs_i, y_revokes_i, y_from, y_uses, y_revoked, y_had, y_data) < mu_M_clearing_4 (y_thrown, y_ring, y_off, y_fuse, y_steps, y_many, y_log, y_before, y_home, y_base, y_now, y_kinds, y_blocks, y_runs, y_revokes, y_from, y_uses, y_revoked, y_had, y_data) x1 x2 (y_thrown, y_ring, y_off_i, y_fuse_i, y_steps_i, y_many_i, y_log_i, y_before_i, y_home_i, y_base_i, y_now, y_kinds_i, y_blocks_i, y_runs_i, y_revokes_i, y_from, y_uses, y_revoked, y_had, y_data) := by
  obtain ⟨⟨rfl, rfl⟩, b, hb, rfl, h⟩ := hinv
  have hb2 : ¬ 64 ≤ b := fun z => c_7 (nI_le (a := 64) z (by omega))
  refine ⟨⟨⟨rfl, rfl⟩, b + 1, by omega, by rw [e_59]; exact nI_1 b, fun d run rev g hd hw hn hg hl ho => ?_⟩, ?_⟩
  · obtain ⟨e1, d2, h2, h3, h4, h5⟩ := h d run rev g hd hw hn hg hl ho
    have w := w_12 g b hg hl ho rfl (by omega)
    rw [w] at c_17
    have hf := told_ne ho (by omega) c_17
    have er : rk (sLying g) (b + 1) = rk (sLying g) b := by rw [rk_s, hf]; rfl
    refine ⟨by rw [er]; exact e1, d2, ?_, h3, h4, h5⟩
    rw [h2, show 64 - b = (64 - (b + 1)) + 1 by omega, clr_s hf]
  · show 64 - v_59.toNatClampNeg < 64 - (nI b).toNatClampNeg
    rw [e_59, nI_1, nI_clamp (by omega), nI_clamp (by omega)]
    omega
theorem vc_M_clearing_23_0 (y_thrown : Int32) (y_ring : Int32) (y_off : Int32) (y_fuse : Int32) (y_steps : Int32) (y_many : Int32) (y_log : Int32) (y_before : Int32) (y_home : Nat → Int32) (y_base : Nat → Int32) (y_now : Nat → Int32) (y_kinds : Nat → Int32) (y_blocks : Nat → Int32) (y_runs : Nat → Int32) (y_revokes : Nat → Int32) (y_from : Nat → Int32) (y_uses : Nat → Int32) (y_revoked : Nat → Int32) (y_had : Nat → Int32) (y_data : Nat → Int32) (x1 : Int32) (x2 : Int32) (y_off_i : Int32) (y_fuse_i : Int32) (y_steps_i : Int32) (y_many_i : Int32) (y_log_i : Int32) (y_before_i : Int32) (y_home_i : Nat → Int32) (y_base_i : Nat → Int32) (y_kinds_i : Nat → Int32) (y_blocks_i : Nat → Int32) (y_runs_i : Nat → Int32) (y_revokes_i : Nat → Int32) (r_12 : Int32) (hpre : pr_M_clearing (y_thrown, y_ring, y_off, y_fuse, y_steps, y_many, y_log, y_before, y_home, y_base, y_now, y_kinds, y_blocks, y_runs, y_revokes, y_from, y_uses, y_revoked, y_had, y_data)) (hinv : iv_M_clearing_4 (y_thrown, y_ring, y_off, y_fuse, y_steps, y_many, y_log, y_before, y_home, y_base, y_now, y_kinds, y_blocks, y_runs, y_revokes, y_from, y_uses, y_revoked, y_had, y_data) x1 x2 (y_thrown, y_ring, y_off_i, y_fuse_i, y_steps_i, y_many_i, y_log_i, y_before_i, y_home_i, y_base_i, y_now, y_kinds_i, y_blocks_i, y_runs_i, y_revokes_i, y_from, y_uses, y_revoked, y_had, y_data)) (c_7 : ¬ 64 ≤ x2) (w_12 : po_M_told x2 (y_thrown, y_ring, y_off_i, y_fuse_i, y_steps_i, y_many_i, y_log_i, y_before_i, y_home_i, y_base_i, y_now, y_kinds_i, y_blocks_i, y_runs_i, y_revokes_i, y_from, y_uses, y_revoked, y_had, y_data) r_12) (c_17 : ¬ r_12 < 0) : pr_M_step 0 x2 (y_thrown, y_ring, y_off_i, y_fuse_i, y_steps_i, y_many_i, y_log_i, y_before_i, y_home_i, y_base_i, y_now, y_kinds_i, y_blocks_i, y_runs_i, y_revokes_i, y_from, y_uses, y_revoked, y_had, y_data) := by
  obtain ⟨d, run, rev, g, hd, hw, hn, hg, hl, ho⟩ := hpre
  obtain ⟨⟨rfl, rfl⟩, b, hb, rfl, h⟩ := hinv
  have hb2 : ¬ 64 ≤ b := fun z => c_7 (nI_le (a := 64) z (by omega))
  obtain ⟨e1, d2, h2, h3, h4, h5⟩ := h d run rev g hd hw hn hg hl ho
  have hl5 := hs_len64 h5
  exact ⟨d2, run, rev, 0, b, h3, h4, by omega, rfl, by decide, rfl, fun _ => by omega⟩
theorem vc_M_clearing_53_0 (y_thrown : Int32) (y_ring : Int32) (y_off : Int32) (y_fuse : Int32) (y_steps : Int32) (y_many : Int32) (y_log : Int32) (y_before : Int32) (y_home : Nat → Int32) (y_base : Nat → Int32) (y_now : Nat → Int32) (y_kinds : Nat → Int32) (y_blocks : Nat → Int32) (y_runs : Nat → Int32) (y_revokes : Nat → Int32) (y_from : Nat → Int32) (y_uses : Nat → Int32) (y_revoked : Nat → Int32) (y_had : Nat → Int32) (y_data : Nat → Int32) (x1 : Int32) (x2 : Int32) (y_off_i : Int32) (y_fuse_i : Int32) (y_steps_i : Int32) (y_many_i : Int32) (y_log_i : Int32) (y_before_i : Int32) (y_home_i : Nat → Int32) (y_base_i : Nat → Int32) (y_kinds_i : Nat → Int32) (y_blocks_i : Nat → Int32) (y_runs_i : Nat → Int32) (y_revokes_i : Nat → Int32) (r_12 : Int32) (r_23 : Int32) (y_off_23 : Int32) (y_fuse_23 : Int32) (y_steps_23 : Int32) (y_many_23 : Int32) (y_base_23 : Nat → Int32) (y_kinds_23 : Nat → Int32) (y_blocks_23 : Nat → Int32) (y_runs_23 : Nat → Int32) (y_revokes_23 : Nat → Int32) (hpre : pr_M_clearing (y_thrown, y_ring, y_off, y_fuse, y_steps, y_many, y_log, y_before, y_home, y_base, y_now, y_kinds, y_blocks, y_runs, y_revokes, y_from, y_uses, y_revoked, y_had, y_data)) (hinv : iv_M_clearing_4 (y_thrown, y_ring, y_off, y_fuse, y_steps, y_many, y_log, y_before, y_home, y_base, y_now, y_kinds, y_blocks, y_runs, y_revokes, y_from, y_uses, y_revoked, y_had, y_data) x1 x2 (y_thrown, y_ring, y_off_i, y_fuse_i, y_steps_i, y_many_i, y_log_i, y_before_i, y_home_i, y_base_i, y_now, y_kinds_i, y_blocks_i, y_runs_i, y_revokes_i, y_from, y_uses, y_revoked, y_had, y_data)) (c_7 : ¬ 64 ≤ x2) (w_12 : po_M_told x2 (y_thrown, y_ring, y_off_i, y_fuse_i, y_steps_i, y_many_i, y_log_i, y_before_i, y_home_i, y_base_i, y_now, y_kinds_i, y_blocks_i, y_runs_i, y_revokes_i, y_from, y_uses, y_revoked, y_had, y_data) r_12) (c_17 : ¬ r_12 < 0) (w_23 : po_M_step 0 x2 (y_thrown, y_ring, y_off_i, y_fuse_i, y_steps_i, y_many_i, y_log_i, y_before_i, y_home_i, y_base_i, y_now, y_kinds_i, y_blocks_i, y_runs_i, y_revokes_i, y_from, y_uses, y_revoked, y_had, y_data) r_23 (y_thrown, y_ring, y_off_23, y_fuse_23, y_steps_23, y_many_23, y_log_i, y_before_i, y_home_i, y_base_23, y_now, y_kinds_23, y_blocks_23, y_runs_23, y_revokes_23, y_from, y_uses, y_revoked, y_had, y_data)) (c_26 : ¬ r_23 = 0) : pr_M_copy (256 * r_12) (256 * x2) 256 51200 16384 y_data y_home_i := by
  obtain ⟨d, run, rev, g, hd, hw, hn, hg, hl, ho⟩ := hpre
  obtain ⟨⟨rfl, rfl⟩, b, hb, rfl, h⟩ := hinv
  have hb2 : ¬ 64 ≤ b := fun z => c_7 (nI_le (a := 64) z (by omega))
  have w := w_12 g b hg hl ho rfl (by omega)
  rw [w] at c_17
  have ht := told_po c_17
  obtain ⟨t1, t2⟩ := told_t ho (by omega) ht
  have ei : y_data = g.2.2.2.2.2 := hg.2.2
  exact ⟨256 * tIdx g b, 256 * b, 256, by rw [w, t1]; exact pk_mul 256 _, pk_mul 256 _, rfl, by omega, by omega, by decide, by decide, by rw [ei]; exact (okG_n (n := g.1) ho).2.2.2⟩
theorem vc_M_clearing_62_1 (y_thrown : Int32) (y_ring : Int32) (y_off : Int32) (y_fuse : Int32) (y_steps : Int32) (y_many : Int32) (y_log : Int32) (y_before : Int32) (y_home : Nat → Int32) (y_base : Nat → Int32) (y_now : Nat → Int32) (y_kinds : Nat → Int32) (y_blocks : Nat → Int32) (y_runs : Nat → Int32) (y_revokes : Nat → Int32) (y_from : Nat → Int32) (y_uses : Nat → Int32) (y_revoked : Nat → Int32) (y_had : Nat → Int32) (y_data : Nat → Int32) (x1 : Int32) (x2 : Int32) (y_off_i : Int32) (y_fuse_i : Int32) (y_steps_i : Int32) (y_many_i : Int32) (y_log_i : Int32) (y_before_i : Int32) (y_home_i : Nat → Int32) (y_base_i : Nat → Int32) (y_kinds_i : Nat → Int32) (y_blocks_i : Nat → Int32) (y_runs_i : Nat → Int32) (y_revokes_i : Nat → Int32) (r_12 : Int32) (r_23 : Int32) (y_off_23 : Int32) (y_fuse_23 : Int32) (y_steps_23 : Int32) (y_many_23 : Int32) (y_base_23 : Nat → Int32) (y_kinds_23 : Nat → Int32) (y_blocks_23 : Nat → Int32) (y_runs_23 : Nat → Int32) (y_revokes_23 : Nat → Int32) (b_ar_53 : Nat → Int32) (v_56 : Int32) (v_59 : Int32) (hpre : pr_M_clearing (y_thrown, y_ring, y_off, y_fuse, y_steps, y_many, y_log, y_before, y_home, y_base, y_now, y_kinds, y_blocks, y_runs, y_revokes, y_from, y_uses, y_revoked, y_had, y_data)) (hinv : iv_M_clearing_4 (y_thrown, y_ring, y_off, y_fuse, y_steps, y_many, y_log, y_before, y_home, y_base, y_now, y_kinds, y_blocks, y_runs, y_revokes, y_from, y_uses, y_revoked, y_had, y_data) x1 x2 (y_thrown, y_ring, y_off_i, y_fuse_i, y_steps_i, y_many_i, y_log_i, y_before_i, y_home_i, y_base_i, y_now, y_kinds_i, y_blocks_i, y_runs_i, y_revokes_i, y_from, y_uses, y_revoked, y_had, y_data)) (c_7 : ¬ 64 ≤ x2) (w_12 : po_M_told x2 (y_thrown, y_ring, y_off_i, y_fuse_i, y_steps_i, y_many_i, y_log_i, y_before_i, y_home_i, y_base_i, y_now, y_kinds_i, y_blocks_i, y_runs_i, y_revokes_i, y_from, y_uses, y_revoked, y_had, y_data) r_12) (c_17 : ¬ r_12 < 0) (w_23 : po_M_step 0 x2 (y_thrown, y_ring, y_off_i, y_fuse_i, y_steps_i, y_many_i, y_log_i, y_before_i, y_home_i, y_base_i, y_now, y_kinds_i, y_blocks_i, y_runs_i, y_revokes_i, y_from, y_uses, y_revoked, y_had, y_data) r_23 (y_thrown, y_ring, y_off_23, y_fuse_23, y_steps_23, y_many_23, y_log_i, y_before_i, y_home_i, y_base_23, y_now, y_kinds_23, y_blocks_23, y_runs_23, y_revokes_23, y_from, y_uses, y_revoked, y_had, y_data)) (c_26 : ¬ r_23 = 0) (w_53 : po_M_copy (256 * r_12) (256 * x2) 256 51200 16384 y_data y_home_i y_data b_ar_53) (e_56 : v_56 = x1 + 1) (e_59 : v_59 = x2 + 1) : iv_M_clearing_4 (y_thrown, y_ring, y_off, y_fuse, y_steps, y_many, y_log, y_before, y_home, y_base, y_now, y_kinds, y_blocks, y_runs, y_revokes, y_from, y_uses, y_revoked, y_had, y_data) v_56 v_59 (y_thrown, y_ring, y_off_23, y_fuse_23, y_steps_23, y_many_23, y_log_i, y_before_i, b_ar_53, y_base_23, y_now, y_kinds_23, y_blocks_23, y_runs_23, y_revokes_23, y_from, y_uses, y_revoked, y_had, y_data) ∧ mu_M_clearing_4 (y_thrown, y_ring, y_off, y_fuse, y_steps, y_many, y_log, y_before, y_home, y_base, y_now, y_kinds, y_blocks, y_runs, y_revokes, y_from, y_uses, y_revoked, y_had, y_data) v_56 v_59 (y_thrown, y_ring, y_off_23, y_fuse_23, y_steps_23, y_many_23, y_log_i, y_before_i, b_ar_53, y_base_23, y_now, y_kinds_23, y_blocks_23, y_runs_23, y_revokes_23, y_from, y_uses, y_revoked, y_had, y_data) < mu_M_clearing_4 (y_thrown, y_ring, y_off, y_fuse, y_steps, y_many, y_log, y_before, y_home, y_base, y_now, y_kinds, y_blocks, y_runs, y_revokes, y_from, y_uses, y_revoked, y_had, y_data) x1 x2 (y_thrown, y_ring, y_off_i, y_fuse_i, y_steps_i, y_many_i, y_log_i, y_before_i, y_home_i, y_base_i, y_now, y_kinds_i, y_blocks_i, y_runs_i, y_revokes_i, y_from, y_uses, y_revoked, y_had, y_data) := by
  obtain ⟨⟨rfl, rfl⟩, b, hb, rfl, h⟩ := hinv
  have hb2 : ¬ 64 ≤ b := fun z => c_7 (nI_le (a := 64) z (by omega))
  refine ⟨⟨⟨rfl, rfl⟩, b + 1, by omega, by rw [e_59]; exact nI_1 b, fun d run rev g hd hw hn hg hl ho => ?_⟩, ?_⟩
  · obtain ⟨e1, d2, h2, h3, h4, h5⟩ := h d run rev g hd hw hn hg hl ho
    have w := w_12 g b hg hl ho rfl (by omega)
    rw [w] at c_17
    have ht := told_po c_17
    obtain ⟨t1, t2⟩ := told_t ho (by omega) ht
    have ei : y_data = g.2.2.2.2.2 := hg.2.2
    have hl5 := hs_len64 h5
    obtain ⟨a, q⟩ := w_23 d2 run rev 0 b h3 h4 (by omega) rfl (by decide) rfl (fun _ => by omega)
    have a : r_23 = b2i (sMark b d2).1 := a
    have q : RMs (sMark b d2).2 run rev _ := q
    have z := b2i_n0.mp (fun y => c_26 (a.trans y))
    have wc := w_53 (256 * tIdx g b) (256 * b) 256 (by rw [w, t1]; exact pk_mul 256 _) (pk_mul 256 _) rfl (by omega) (by omega) (by decide) (by decide)
    obtain ⟨m1, m2, m3⟩ := mark_home (b := b) (sp := sLate g b) (f := g.2.2.2.2.2) (d := d2)
    have m3 := m3 z
    have er : rk (sLying g) (b + 1) = rk (sLying g) b + 1 := by rw [rk_s, ht]; rfl
    obtain ⟨k1, k2⟩ := DW_home (b := b) (sp := sLate g b) h4 h5 (by omega) (okG_n (n := g.1) ho).2.2.2
    obtain ⟨r1, r2⟩ := RMs_home (h2 := b_ar_53) q
    refine ⟨by rw [e_56, e1, er, nI_1], _, by rw [h2, show 64 - b = (64 - (b + 1)) + 1 by omega, clr_t ht (m1.trans z)], ?_, k1, k2⟩
    rw [m3, late_idx, ← r1, ← ei, ← wc]
    exact r2
  · show 64 - v_59.toNatClampNeg < 64 - (nI b).toNatClampNeg
    rw [e_59, nI_1, nI_clamp (by omega), nI_clamp (by omega)]
    omega
theorem vc_M_clearing_30_0 (y_thrown : Int32) (y_ring : Int32) (y_off : Int32) (y_fuse : Int32) (y_steps : Int32) (y_many : Int32) (y_log : Int32) (y_before : Int32) (y_home : Nat → Int32) (y_base : Nat → Int32) (y_now : Nat → Int32) (y_kinds : Nat → Int32) (y_blocks : Nat → Int32) (y_runs : Nat → Int32) (y_revokes : Nat → Int32) (y_from : Nat → Int32) (y_uses : Nat → Int32) (y_revoked : Nat → Int32) (y_had : Nat → Int32) (y_data : Nat → Int32) (x1 : Int32) (x2 : Int32) (y_off_i : Int32) (y_fuse_i : Int32) (y_steps_i : Int32) (y_many_i : Int32) (y_log_i : Int32) (y_before_i : Int32) (y_home_i : Nat → Int32) (y_base_i : Nat → Int32) (y_kinds_i : Nat → Int32) (y_blocks_i : Nat → Int32) (y_runs_i : Nat → Int32) (y_revokes_i : Nat → Int32) (r_12 : Int32) (r_23 : Int32) (y_off_23 : Int32) (y_fuse_23 : Int32) (y_steps_23 : Int32) (y_many_23 : Int32) (y_base_23 : Nat → Int32) (y_kinds_23 : Nat → Int32) (y_blocks_23 : Nat → Int32) (y_runs_23 : Nat → Int32) (y_revokes_23 : Nat → Int32) (hpre : pr_M_clearing (y_thrown, y_ring, y_off, y_fuse, y_steps, y_many, y_log, y_before, y_home, y_base, y_now, y_kinds, y_blocks, y_runs, y_revokes, y_from, y_uses, y_revoked, y_had, y_data)) (hinv : iv_M_clearing_4 (y_thrown, y_ring, y_off, y_fuse, y_steps, y_many, y_log, y_before, y_home, y_base, y_now, y_kinds, y_blocks, y_runs, y_revokes, y_from, y_uses, y_revoked, y_had, y_data) x1 x2 (y_thrown, y_ring, y_off_i, y_fuse_i, y_steps_i, y_many_i, y_log_i, y_before_i, y_home_i, y_base_i, y_now, y_kinds_i, y_blocks_i, y_runs_i, y_revokes_i, y_from, y_uses, y_revoked, y_had, y_data)) (c_7 : ¬ 64 ≤ x2) (w_12 : po_M_told x2 (y_thrown, y_ring, y_off_i, y_fuse_i, y_steps_i, y_many_i, y_log_i, y_before_i, y_home_i, y_base_i, y_now, y_kinds_i, y_blocks_i, y_runs_i, y_revokes_i, y_from, y_uses, y_revoked, y_had, y_data) r_12) (c_17 : ¬ r_12 < 0) (w_23 : po_M_step 0 x2 (y_thrown, y_ring, y_off_i, y_fuse_i, y_steps_i, y_many_i, y_log_i, y_before_i, y_home_i, y_base_i, y_now, y_kinds_i, y_blocks_i, y_runs_i, y_revokes_i, y_from, y_uses, y_revoked, y_had, y_data) r_23 (y_thrown, y_ring, y_off_23, y_fuse_23, y_steps_23, y_many_23, y_log_i, y_before_i, y_home_i, y_base_23, y_now, y_kinds_23, y_blocks_23, y_runs_23, y_revokes_23, y_from, y_uses, y_revoked, y_had, y_data)) (c_26 : r_23 = 0) : po_M_clearing (y_thrown, y_ring, y_off, y_fuse, y_steps, y_many, y_log, y_before, y_home, y_base, y_now, y_kinds, y_blocks, y_runs, y_revokes, y_from, y_uses, y_revoked, y_had, y_data) (-1) (y_thrown, y_ring, y_off_23, y_fuse_23, y_steps_23, y_many_23, y_log_i, y_before_i, y_home_i, y_base_23, y_now, y_kinds_23, y_blocks_23, y_runs_23, y_revokes_23, y_from, y_uses, y_revoked, y_had, y_data) := by
  intro d run rev g hd hw hn hg hl ho
  obtain ⟨⟨rfl, rfl⟩, b, hb, rfl, h⟩ := hinv
  have hb2 : ¬ 64 ≤ b := fun z => c_7 (nI_le (a := 64) z (by omega))
  obtain ⟨e1, d2, h2, h3, h4, h5⟩ := h d run rev g hd hw hn hg hl ho
  have w := w_12 g b hg hl ho rfl (by omega)
  rw [w] at c_17
  have ht := told_po c_17
  have hl5 := hs_len64 h5
  obtain ⟨a, q⟩ := w_23 d2 run rev 0 b h3 h4 (by omega) rfl (by decide) rfl (fun _ => by omega)
  have a : r_23 = b2i (sMark b d2).1 := a
  have q : RMs (sMark b d2).2 run rev _ := q
  have z := b2i_0.mp (a.symm.trans c_26)
  obtain ⟨m1, m2, m3⟩ := mark_home (b := b) (sp := sLate g b) (f := g.2.2.2.2.2) (d := d2)
  have m2 := m2 z
  obtain ⟨k1, k2⟩ := DW_home (b := b) (sp := sLate g b) h4 h5 (by omega) (okG_n (n := g.1) ho).2.2.2
  rw [show 64 - b = (64 - (b + 1)) + 1 by omega, clr_f ht (m1.trans z)] at h2
  rw [clear_f h2]
  exact ⟨rfl, by rw [m2]; exact q, RMn_hs k2 hl⟩
theorem vc_M_clearing_3_0 (y_thrown : Int32) (y_ring : Int32) (y_off : Int32) (y_fuse : Int32) (y_steps : Int32) (y_many : Int32) (y_log : Int32) (y_before : Int32) (y_home : Nat → Int32) (y_base : Nat → Int32) (y_now : Nat → Int32) (y_kinds : Nat → Int32) (y_blocks : Nat → Int32) (y_runs : Nat → Int32) (y_revokes : Nat → Int32) (y_from : Nat → Int32) (y_uses : Nat → Int32) (y_revoked : Nat → Int32) (y_had : Nat → Int32) (y_data : Nat → Int32) (hpre : pr_M_clearing (y_thrown, y_ring, y_off, y_fuse, y_steps, y_many, y_log, y_before, y_home, y_base, y_now, y_kinds, y_blocks, y_runs, y_revokes, y_from, y_uses, y_revoked, y_had, y_data)) : iv_M_clearing_4 (y_thrown, y_ring, y_off, y_fuse, y_steps, y_many, y_log, y_before, y_home, y_base, y_now, y_kinds, y_blocks, y_runs, y_revokes, y_from, y_uses, y_revoked, y_had, y_data) 0 0 (y_thrown, y_ring, y_off, y_fuse, y_steps, y_many, y_log, y_before, y_home, y_base, y_now, y_kinds, y_blocks, y_runs, y_revokes, y_from, y_uses, y_revoked, y_had, y_data) ∧ True := by
  exact ⟨⟨⟨rfl, rfl⟩, 0, by omega, rfl, fun d run rev g hd hw hn hg hl ho => ⟨rfl, d, rfl, hd, hw, by rw [hn]; exact hs_nil⟩⟩, trivial⟩
