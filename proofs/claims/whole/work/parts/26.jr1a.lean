/-! RedoJournal: what each method asks and gives -/
def pr_dropRunning (_ : JRt) : Prop := True
def po_dropRunning : JRt → JRt → Prop
  | (rb, _, _, nw), j => j = (rb, 0, 0, nw)
def pr_useOfRunning (_ : JRt) : Prop := True
def po_useOfRunning : JRt → Int32 → Prop
  | (_, ru, rv, _), r => r = nI (sUse ru rv)
def pr_endLog (_ : JRt) (k : DKt) (_ : LGt) : Prop := ∃ d : Dk, RD d k ∧ DW d
def po_endLog (_ : JRt) (k : DKt) (x : LGt) (r : Int32) (_ : JRt) (k2 : DKt) (x2 : LGt) : Prop := ∀ (d : Dk) (g : Lg), RD d k → DW d → RL g x → okG g → r = b2i (sEnd d g).1 ∧ RD (sEnd d g).2.1 k2 ∧ RL (sEnd d g).2.2 x2
def pr_bringLogHome (_ : JRt) (k : DKt) (x : LGt) : Prop := ∃ (d : Dk) (g : Lg), RD d k ∧ DW d ∧ d.1 = [] ∧ RL g x ∧ okG g
def po_bringLogHome (_ : JRt) (k : DKt) (x : LGt) (r : Int32) (_ : JRt) (k2 : DKt) (x2 : LGt) : Prop := ∀ (d : Dk) (g : Lg), RD d k → DW d → d.1 = [] → RL g x → okG g → r = (if (sClear d g).1 then nI (cnt (sLying g)) else -1) ∧ RD (sClear d g).2.1 k2 ∧ RL (sClear d g).2.2 x2
def pr_replay (_ : JRt) (k : DKt) (x : LGt) : Prop := ∃ (d : Dk) (g : Lg), RD d k ∧ DW d ∧ d.1 = [] ∧ RL g x ∧ okG g
def po_replay (_ : JRt) (k : DKt) (x : LGt) (r : Int32) (_ : JRt) (k2 : DKt) (x2 : LGt) : Prop := ∀ (d : Dk) (g : Lg), RD d k → DW d → d.1 = [] → RL g x → okG g → r = (sReplay d g).1 ∧ RD (sReplay d g).2.1 k2 ∧ RL (sReplay d g).2.2 x2
/-- a transaction that has its room -/
def fitT (run : Int64) (u : Nat) (now : Nat → Int32) (g : Lg) : Prop := okG g ∧ 1 ≤ u ∧ u ≤ 40 ∧ sb_Fit now ∧ g.2.2.2.2.1 g.1 + cnt run ≤ 200
def pr_writeTransaction (use : Int32) : JRt → DKt → LGt → Prop
  | (_, ru, _, nw), k, x => ∃ (d : Dk) (g : Lg) (u : Nat), RD d k ∧ DW d ∧ d.1 = [] ∧ RL g x ∧ fitT ru u nw g ∧ use = nI u
def po_writeTransaction (use : Int32) : JRt → DKt → LGt → Int32 → JRt → DKt → LGt → Prop
  | (rb, ru, rv, nw), k, x, r, j2, k2, x2 => ∀ (d : Dk) (g : Lg) (u : Nat), RD d k → DW d → d.1 = [] → RL g x → fitT ru u nw g → use = nI u → r = b2i (sTrans u ru rv nw d g).1 ∧ RD (sTrans u ru rv nw d g).2.1 k2 ∧ RL (sTrans u ru rv nw d g).2.2.1 x2 ∧ j2 = (rb, (sTrans u ru rv nw d g).2.2.2.1, (sTrans u ru rv nw d g).2.2.2.2, nw)
def pr_settleLog (_ : Int64) (_ : JRt) (k : DKt) (x : LGt) : Prop := ∃ d : Dk, RD d k ∧ DW d ∧ okL x
def po_settleLog (bits : Int64) (_ : JRt) (k : DKt) (x : LGt) (_ : JRt) (_ : DKt) (x2 : LGt) : Prop := ∀ (d : Dk) (g : Lg), RD d k → DW d → RL g x → okG g → RL (sLogMount bits d.1 g) x2
/-! the calls -/
def okS (j : JRt) (k : DKt) (x : LGt) : Prop := ∃ σ : Sp, RA σ j k x ∧ SW σ
def po_S (f : Sp → Int32 × Sp) (j : JRt) (k : DKt) (x : LGt) (r : Int32) (j2 : JRt) (k2 : DKt) (x2 : LGt) : Prop := ∀ σ : Sp, RA σ j k x → SW σ → r = (f σ).1 ∧ RA (f σ).2 j2 k2 x2
def pr_lay (_ : Int32) (j : JRt) (k : DKt) (x : LGt) : Prop := okS j k x
def po_lay (a : Int32) := po_S (fLay a)
def pr_write (_ _ _ _ : Int32) (j : JRt) (k : DKt) (x : LGt) : Prop := okS j k x
def po_write (b a n v : Int32) := po_S (fWrite b a n v)
def pr_read (_ _ : Int32) (j : JRt) (k : DKt) (x : LGt) : Prop := okS j k x
def po_read (b a : Int32) (j : JRt) (k : DKt) (x : LGt) (r : Int32) : Prop := ∀ σ : Sp, RA σ j k x → SW σ → r = fRead b a σ
def pr_forget (_ : Int32) (j : JRt) (k : DKt) (x : LGt) : Prop := okS j k x
def po_forget (b : Int32) := po_S (fForget b)
def pr_direct (_ _ : Int32) (j : JRt) (k : DKt) (x : LGt) : Prop := okS j k x
def po_direct (b v : Int32) := po_S (fDirect b v)
def pr_commit (j : JRt) (k : DKt) (x : LGt) : Prop := okS j k x
def po_commit := po_S fCommit
def pr_clear (j : JRt) (k : DKt) (x : LGt) : Prop := okS j k x
def po_clear := po_S fClear
def pr_fuse (_ : Int32) (j : JRt) (k : DKt) (x : LGt) : Prop := okS j k x
def po_fuse (n : Int32) := po_S (fFuse n)
def pr_fail (j : JRt) (k : DKt) (x : LGt) : Prop := okS j k x
def po_fail := po_S fFail
def pr_mount (_ : Int64) (j : JRt) (k : DKt) (x : LGt) : Prop := okS j k x
def po_mount (bits : Int64) := po_S (fMount bits)
def pr_count (_ : Int32) (j : JRt) (k : DKt) (x : LGt) : Prop := okS j k x
def po_count (w : Int32) (j : JRt) (k : DKt) (x : LGt) (r : Int32) : Prop := ∀ σ : Sp, RA σ j k x → SW σ → r = fCount w σ

/-! what the steps keep; the cases of the spec's programs -/
theorem DW_step {d : Dk} (h : DW d) : DW (sStep d).2 := by
  cases hs : (sStep d).1
  · obtain ⟨u, on, f, st, ba, ho⟩ := d
    rw [(st_f hs).2]; exact h
  · obtain ⟨u, on, f, st, ba, ho⟩ := d
    rw [(st_t hs).2]; exact h
theorem DW_bar {d : Dk} (h : DW d) : DW (sBar d).2 := by
  cases hs : (sStep d).1
  · rw [bar_f hs]; exact DW_step h
  · obtain ⟨u, on, f, st, ba, ho⟩ := d
    rw [bar_t hs]
    exact ⟨Nat.zero_le _, fun k hk => (nomatch hk), fit_dAll h.2.2.2 _ _ h.2.2.1, h.2.2.2⟩
theorem bar_nil {d : Dk} (h : (sBar d).1 = true) : (sBar d).2.1 = [] := by
  cases hs : (sStep d).1
  · rw [bar_f hs] at h; cases h
  · obtain ⟨u, on, f, st, ba, ho⟩ := d
    rw [bar_t hs]
theorem DW_ring {d : Dk} {k : Nat} (h : DW d) (hl : d.1.length < 200) (hk : k < 67) : DW (sRing k d).2 := by
  cases hs : (sStep d).1
  · rw [rg_f hs]; exact DW_step h
  · obtain ⟨u, on, f, st, ba, ho⟩ := d
    rw [rg_t hs]
    have hl : u.length < 200 := hl
    refine ⟨by show (u ++ [k]).length ≤ 200; simp; omega, fun x hx => ?_, h.2.2⟩
    rcases List.mem_append.mp hx with z | z
    · exact h.2.1 x z
    · rw [List.mem_singleton] at z; omega
theorem ring_u {d : Dk} {k : Nat} (h : (sRing k d).1 = true) : (sRing k d).2.1 = d.1 ++ [k] := by
  cases hs : (sStep d).1
  · rw [rg_f hs] at h; cases h
  · obtain ⟨u, on, f, st, ba, ho⟩ := d
    rw [rg_t hs]
theorem hs_len64 {u : List Nat} (h : hs u) : u.length ≤ 64 := hs_len 64 u h.1 h.2
theorem hs_put {u : List Nat} {b : Nat} (h : hs u) (hb : b < 64) : hs (if b ∈ u then u else u ++ [b]) := by
  split
  · exact h
  · rename_i q
    refine ⟨List.nodup_append.mpr ⟨h.1, (by simp), fun x hx y hy e => ?_⟩, fun k hk => ?_⟩
    · rw [List.mem_singleton] at hy
      subst hy; subst e
      exact q hx
    · rcases List.mem_append.mp hk with z | z
      · exact h.2 k z
      · rw [List.mem_singleton] at z; rw [z]; exact hb
theorem hs_nil : hs [] := ⟨List.nodup_nil, fun k h => by cases h⟩
theorem DW_home {d : Dk} {b sp : Nat} {f : Nat → Int32} (h : DW d) (hh : hs d.1) (hb : b < 64) (hf : sb_Fit f) : DW (sHome b f sp d).2 ∧ hs (sHome b f sp d).2.1 := by
  cases hs' : (sStep d).1
  · rw [hm_f hs']
    refine ⟨DW_step h, ?_⟩
    obtain ⟨u, on, fu, st, ba, ho⟩ := d
    rw [(st_f hs').2]; exact hh
  · obtain ⟨u, on, fu, st, ba, ho⟩ := d
    rw [hm_t hs']
    have h2 := hs_put (u := u) (b := b) hh hb
    have h3 := hs_len64 h2
    exact ⟨⟨by show List.length (if b ∈ u then u else u ++ [b]) ≤ 200; omega, fun k hk => by have := h2.2 k hk; omega, h.2.2.1, fit_cpy hf h.2.2.2⟩, h2⟩
theorem end_f1 {d : Dk} {g : Lg} (h : (sBar d).1 = false) : sEnd d g = (false, (sBar d).2, g) := by
  unfold sEnd
  generalize sBar d = p at h ⊢
  obtain ⟨b, z⟩ := p
  have h : b = false := h
  subst h; rfl
theorem end_f2 {d : Dk} {g : Lg} (h : (sBar d).1 = true) (h2 : (sRing 66 (sBar d).2).1 = false) : sEnd d g = (false, (sRing 66 (sBar d).2).2, g) := by
  unfold sEnd
  generalize sBar d = p at h h2 ⊢
  obtain ⟨b, z⟩ := p
  have h : b = true := h
  subst h
  show (match sRing 66 z with
    | (false, d) => (false, d, g)
    | (true, d) => match sBar d with
      | (false, d) => (false, d, g)
      | (true, d) => (true, d, (0, g.2))) = (false, (sRing 66 z).2, g)
  have h2 : (sRing 66 z).1 = false := h2
  generalize sRing 66 z = p at h2 ⊢
  obtain ⟨b, z⟩ := p
  have h2 : b = false := h2
  subst h2; rfl
theorem end_3 {d : Dk} {g : Lg} (h : (sBar d).1 = true) (h2 : (sRing 66 (sBar d).2).1 = true) : sEnd d g = ((sBar (sRing 66 (sBar d).2).2).1, (sBar (sRing 66 (sBar d).2).2).2, if (sBar (sRing 66 (sBar d).2).2).1 then (0, g.2) else g) := by
  unfold sEnd
  generalize sBar d = p at h h2 ⊢
  obtain ⟨b, z⟩ := p
  have h : b = true := h
  subst h
  show (match sRing 66 z with
    | (false, d) => (false, d, g)
    | (true, d) => match sBar d with
      | (false, d) => (false, d, g)
      | (true, d) => (true, d, (0, g.2))) = ((sBar (sRing 66 z).2).1, (sBar (sRing 66 z).2).2, if (sBar (sRing 66 z).2).1 then (0, g.2) else g)
  have h2 : (sRing 66 z).1 = true := h2
  generalize sRing 66 z = p at h2 ⊢
  obtain ⟨b, z⟩ := p
  have h2 : b = true := h2
  subst h2
  show (match sBar z with
      | (false, d) => (false, d, g)
      | (true, d) => (true, d, (0, g.2))) = ((sBar z).1, (sBar z).2, if (sBar z).1 then (0, g.2) else g)
  generalize sBar z = p
  obtain ⟨b, z⟩ := p
  cases b <;> rfl
theorem RL_empty {g : Lg} {x0 : LGt} (h : RL g x0) (o : okG g) {x : LGt} (w : po_Log_makeEmpty x0 x) : RL (0, g.2) x := by
  obtain ⟨n, blk, rvk, use, fst, im⟩ := g
  obtain ⟨sz, iu, bl, rv, us, fi, img⟩ := x0
  have w : x = (0, 0, bl, rv, us, fi, img) := w
  subst w
  have h0 := (okG_n o).2.2.1
  exact ⟨rfl, by rw [h0]; rfl, fun t ht => absurd ht (Nat.not_lt_zero _), h.2.2.2⟩
theorem clr_s {g : Lg} {ly : Int64} {b k : Nat} {d : Dk} (h : bitt ly b = false) : sClrN g ly b (k + 1) d = sClrN g ly (b + 1) k d := by
  show (if bitt ly b = true then _ else _) = _
  rw [h]; rfl
theorem clr_f {g : Lg} {ly : Int64} {b k : Nat} {d : Dk} (h : bitt ly b = true) (h2 : (sHome b g.2.2.2.2.2 (sLate g b) d).1 = false) : sClrN g ly b (k + 1) d = (false, (sHome b g.2.2.2.2.2 (sLate g b) d).2) := by
  show (if bitt ly b = true then (match sHome b g.2.2.2.2.2 (sLate g b) d with
      | (false, d) => (false, d)
      | (true, d) => sClrN g ly (b + 1) k d) else _) = _
  rw [if_pos h]
  generalize sHome b g.2.2.2.2.2 (sLate g b) d = p at h2 ⊢
  obtain ⟨c, z⟩ := p
  have h2 : c = false := h2
  subst h2; rfl
theorem clr_t {g : Lg} {ly : Int64} {b k : Nat} {d : Dk} (h : bitt ly b = true) (h2 : (sHome b g.2.2.2.2.2 (sLate g b) d).1 = true) : sClrN g ly b (k + 1) d = sClrN g ly (b + 1) k (sHome b g.2.2.2.2.2 (sLate g b) d).2 := by
  show (if bitt ly b = true then (match sHome b g.2.2.2.2.2 (sLate g b) d with
      | (false, d) => (false, d)
      | (true, d) => sClrN g ly (b + 1) k d) else _) = _
  rw [if_pos h]
  generalize sHome b g.2.2.2.2.2 (sLate g b) d = p at h2 ⊢
  obtain ⟨c, z⟩ := p
  have h2 : c = true := h2
  subst h2; rfl
theorem clear_f {d d2 : Dk} {g : Lg} (h : sClrN g (sLying g) 0 64 d = (false, d2)) : sClear d g = (false, d2, g) := by
  unfold sClear; rw [h]
theorem clear_t {d d2 : Dk} {g : Lg} (h : sClrN g (sLying g) 0 64 d = (true, d2)) : sClear d g = sEnd d2 g := by
  unfold sClear; rw [h]
theorem ly_la {blk rvk : Nat → Int64} {b : Nat} (hb : b < 64) : ∀ n, bitt (lyN blk rvk n) b = true → ∃ t, t < n ∧ laN blk b n = some t ∧ bitt (blk t) b = true := by
  intro n
  induction n with
  | zero => intro h; rw [show lyN blk rvk 0 = 0 from rfl, bt_zero] at h; cases h
  | succ n ih =>
    intro h
    cases e : bitt (blk n) b
    · rw [show lyN blk rvk (n + 1) = (lyN blk rvk n &&& (rvk n ^^^ (-1))) ||| blk n from rfl, bt_or, e, bt_and] at h
      have h2 : bitt (lyN blk rvk n) b = true := by
        cases z : bitt (lyN blk rvk n) b
        · rw [z] at h; simp at h
        · rfl
      obtain ⟨t, a1, a2, a3⟩ := ih h2
      refine ⟨t, by omega, ?_, a3⟩
      show (if bitt (blk n) b = true then _ else _) = _
      rw [e]; exact a2
    · exact ⟨n, by omega, if_pos e, e⟩
theorem fst_mono {n : Nat} {blk : Nat → Int64} {fst : Nat → Nat} (h : ∀ t, t < n → fst (t + 1) = fst t + cnt (blk t)) : ∀ k i, i + k ≤ n → fst i ≤ fst (i + k) := by
  intro k
  induction k with
  | zero => intro i _; exact Nat.le_refl _
  | succ k ih =>
    intro i hi
    have h1 := ih i (by omega)
    have h2 := h (i + k) (by omega)
    show fst i ≤ fst (i + k + 1)
    omega
theorem img_le {n : Nat} {blk rvk : Nat → Int64} {use fst : Nat → Nat} {im : Nat → Int32} (o : okG (n, blk, rvk, use, fst, im)) {i q : Nat} (hi : i < n) (hq : q < 64) (hb : bitt (blk i) q = true) : sImg (n, blk, rvk, use, fst, im) i q + 256 ≤ 51200 := by
  have on := okG_n o
  obtain ⟨ring, ⟨h1, h2, h3, h4⟩, h5⟩ := o
  have a := fst_mono (fun t ht => (h2 t ht).1) (n - (i + 1)) (i + 1) (by omega)
  rw [show i + 1 + (n - (i + 1)) = n by omega] at a
  have b := (h2 i hi).1
  have c := rk_lt (x := blk i) hq hb
  show (fst i + rk (blk i) q) * 256 + 256 ≤ 51200
  omega

theorem vc_dropRunning_10_0 (j_ringBlocks : Int32) (j_running : Int64) (j_revoked : Int64) (j_now : Nat → Int32) (hpre : pr_dropRunning (j_ringBlocks, j_running, j_revoked, j_now)) : po_dropRunning (j_ringBlocks, j_running, j_revoked, j_now) (j_ringBlocks, 0, 0, j_now) := by
  rfl
theorem vc_useOfRunning_4_0 (j_ringBlocks : Int32) (j_running : Int64) (j_revoked : Int64) (j_now : Nat → Int32) (hpre : pr_useOfRunning (j_ringBlocks, j_running, j_revoked, j_now)) : pr_bitCount j_running := by
  trivial
theorem vc_useOfRunning_40_0 (j_ringBlocks : Int32) (j_running : Int64) (j_revoked : Int64) (j_now : Nat → Int32) (r_4 : Int32) (v_17 : Int32) (hpre : pr_useOfRunning (j_ringBlocks, j_running, j_revoked, j_now)) (w_4 : po_bitCount j_running r_4) (e_17 : v_17 = (((r_4 + 28) - 1) / 28)) (c_24 : ¬ (lg_cmp j_revoked 0) = 0) : po_useOfRunning (j_ringBlocks, j_running, j_revoked, j_now) (((r_4 + v_17) + 1) + 1) := by
  have w : r_4 = nI (cnt j_running) := w_4
  have hc := cnt_le j_running
  have e1 : nI (cnt j_running) + 28 = nI (cnt j_running + 28) := nI_add _ 28
  have e2 : nI (cnt j_running + 28) - 1 = nI (cnt j_running + 27) := pk_sub (b := 1) (by omega)
  have e3 : nI (cnt j_running + 27) / 28 = nI ((cnt j_running + 27) / 28) := pk_div (d := 28) (by omega) (by decide) (by decide)
  rw [w, e1, e2, e3] at e_17
  show _ = nI (sUse j_running j_revoked)
  unfold sUse
  rw [if_neg (fun z => c_24 (lgc0.mpr z)), e_17, w, nI_add, nI_1, nI_1]
theorem vc_useOfRunning_40_1 (j_ringBlocks : Int32) (j_running : Int64) (j_revoked : Int64) (j_now : Nat → Int32) (r_4 : Int32) (v_17 : Int32) (hpre : pr_useOfRunning (j_ringBlocks, j_running, j_revoked, j_now)) (w_4 : po_bitCount j_running r_4) (e_17 : v_17 = (((r_4 + 28) - 1) / 28)) (c_24 : (lg_cmp j_revoked 0) = 0) : po_useOfRunning (j_ringBlocks, j_running, j_revoked, j_now) (((r_4 + v_17) + 0) + 1) := by
  have w : r_4 = nI (cnt j_running) := w_4
  have hc := cnt_le j_running
  have e1 : nI (cnt j_running) + 28 = nI (cnt j_running + 28) := nI_add _ 28
  have e2 : nI (cnt j_running + 28) - 1 = nI (cnt j_running + 27) := pk_sub (b := 1) (by omega)
  have e3 : nI (cnt j_running + 27) / 28 = nI ((cnt j_running + 27) / 28) := pk_div (d := 28) (by omega) (by decide) (by decide)
  have e4 : ∀ a : Nat, nI a + 0 = nI (a + 0) := fun a => nI_add a 0
  rw [w, e1, e2, e3] at e_17
  show _ = nI (sUse j_running j_revoked)
  unfold sUse
  rw [if_pos (lgc0.mp c_24), e_17, w, nI_add, e4, nI_1]
theorem vc_endLog_4_0 (j_ringBlocks : Int32) (j_running : Int64) (j_revoked : Int64) (j_now : Nat → Int32) (k_underWay : Int32) (k_homesUnderWay : Int64) (k_on : Int32) (k_stepsLeft : Int32) (k_steps : Int32) (k_down : Nat → Int32) (k_written : Nat → Int32) (k_order : Nat → Int32) (g_size : Int32) (g_imagesUsed : Int32) (g_blocks : Nat → Int64) (g_revokes : Nat → Int64) (g_uses : Nat → Int32) (g_firstImages : Nat → Int32) (g_images : Nat → Int32) (hpre : pr_endLog (j_ringBlocks, j_running, j_revoked, j_now) (k_underWay, k_homesUnderWay, k_on, k_stepsLeft, k_steps, k_down, k_written, k_order) (g_size, g_imagesUsed, g_blocks, g_revokes, g_uses, g_firstImages, g_images)) : pr_Disk_barrier (k_underWay, k_homesUnderWay, k_on, k_stepsLeft, k_steps, k_down, k_written, k_order) := by
  exact hpre
theorem vc_endLog_33_0 (j_ringBlocks : Int32) (j_running : Int64) (j_revoked : Int64) (j_now : Nat → Int32) (k_underWay : Int32) (k_homesUnderWay : Int64) (k_on : Int32) (k_stepsLeft : Int32) (k_steps : Int32) (k_down : Nat → Int32) (k_written : Nat → Int32) (k_order : Nat → Int32) (g_size : Int32) (g_imagesUsed : Int32) (g_blocks : Nat → Int64) (g_revokes : Nat → Int64) (g_uses : Nat → Int32) (g_firstImages : Nat → Int32) (g_images : Nat → Int32) (r_4 : Int32) (k_underWay_4 : Int32) (k_homesUnderWay_4 : Int64) (k_on_4 : Int32) (k_stepsLeft_4 : Int32) (k_steps_4 : Int32) (k_down_4 : Nat → Int32) (hpre : pr_endLog (j_ringBlocks, j_running, j_revoked, j_now) (k_underWay, k_homesUnderWay, k_on, k_stepsLeft, k_steps, k_down, k_written, k_order) (g_size, g_imagesUsed, g_blocks, g_revokes, g_uses, g_firstImages, g_images)) (w_4 : po_Disk_barrier (k_underWay, k_homesUnderWay, k_on, k_stepsLeft, k_steps, k_down, k_written, k_order) r_4 (k_underWay_4, k_homesUnderWay_4, k_on_4, k_stepsLeft_4, k_steps_4, k_down_4, k_written, k_order)) (c_7 : r_4 = 0) : po_endLog (j_ringBlocks, j_running, j_revoked, j_now) (k_underWay, k_homesUnderWay, k_on, k_stepsLeft, k_steps, k_down, k_written, k_order) (g_size, g_imagesUsed, g_blocks, g_revokes, g_uses, g_firstImages, g_images) 0 (j_ringBlocks, j_running, j_revoked, j_now) (k_underWay_4, k_homesUnderWay_4, k_on_4, k_stepsLeft_4, k_steps_4, k_down_4, k_written, k_order) (g_size, g_imagesUsed, g_blocks, g_revokes, g_uses, g_firstImages, g_images) := by
  intro d g hd hw hg ho
  obtain ⟨a, b⟩ := w_4 d hd hw
  have h := b2i_0.mp (a.symm.trans c_7)
  rw [end_f1 h]
  exact ⟨rfl, b, hg⟩
theorem vc_endLog_16_0 (j_ringBlocks : Int32) (j_running : Int64) (j_revoked : Int64) (j_now : Nat → Int32) (k_underWay : Int32) (k_homesUnderWay : Int64) (k_on : Int32) (k_stepsLeft : Int32) (k_steps : Int32) (k_down : Nat → Int32) (k_written : Nat → Int32) (k_order : Nat → Int32) (g_size : Int32) (g_imagesUsed : Int32) (g_blocks : Nat → Int64) (g_revokes : Nat → Int64) (g_uses : Nat → Int32) (g_firstImages : Nat → Int32) (g_images : Nat → Int32) (r_4 : Int32) (k_underWay_4 : Int32) (k_homesUnderWay_4 : Int64) (k_on_4 : Int32) (k_stepsLeft_4 : Int32) (k_steps_4 : Int32) (k_down_4 : Nat → Int32) (hpre : pr_endLog (j_ringBlocks, j_running, j_revoked, j_now) (k_underWay, k_homesUnderWay, k_on, k_stepsLeft, k_steps, k_down, k_written, k_order) (g_size, g_imagesUsed, g_blocks, g_revokes, g_uses, g_firstImages, g_images)) (w_4 : po_Disk_barrier (k_underWay, k_homesUnderWay, k_on, k_stepsLeft, k_steps, k_down, k_written, k_order) r_4 (k_underWay_4, k_homesUnderWay_4, k_on_4, k_stepsLeft_4, k_steps_4, k_down_4, k_written, k_order)) (c_7 : ¬ r_4 = 0) : pr_Disk_writeRing 66 (k_underWay_4, k_homesUnderWay_4, k_on_4, k_stepsLeft_4, k_steps_4, k_down_4, k_written, k_order) := by
  obtain ⟨d, hd, hw⟩ := hpre
  obtain ⟨a, b⟩ := w_4 d hd hw
  have h := b2i_n0.mp (fun z => c_7 (a.trans z))
  exact ⟨(sBar d).2, 66, b, by rw [bar_nil h]; decide, rfl, by decide, by decide⟩
theorem vc_endLog_33_1 (j_ringBlocks : Int32) (j_running : Int64) (j_revoked : Int64) (j_now : Nat → Int32) (k_underWay : Int32) (k_homesUnderWay : Int64) (k_on : Int32) (k_stepsLeft : Int32) (k_steps : Int32) (k_down : Nat → Int32) (k_written : Nat → Int32) (k_order : Nat → Int32) (g_size : Int32) (g_imagesUsed : Int32) (g_blocks : Nat → Int64) (g_revokes : Nat → Int64) (g_uses : Nat → Int32) (g_firstImages : Nat → Int32) (g_images : Nat → Int32) (r_4 : Int32) (k_underWay_4 : Int32) (k_homesUnderWay_4 : Int64) (k_on_4 : Int32) (k_stepsLeft_4 : Int32) (k_steps_4 : Int32) (k_down_4 : Nat → Int32) (r_16 : Int32) (k_underWay_16 : Int32) (k_on_16 : Int32) (k_stepsLeft_16 : Int32) (k_steps_16 : Int32) (k_order_16 : Nat → Int32) (hpre : pr_endLog (j_ringBlocks, j_running, j_revoked, j_now) (k_underWay, k_homesUnderWay, k_on, k_stepsLeft, k_steps, k_down, k_written, k_order) (g_size, g_imagesUsed, g_blocks, g_revokes, g_uses, g_firstImages, g_images)) (w_4 : po_Disk_barrier (k_underWay, k_homesUnderWay, k_on, k_stepsLeft, k_steps, k_down, k_written, k_order) r_4 (k_underWay_4, k_homesUnderWay_4, k_on_4, k_stepsLeft_4, k_steps_4, k_down_4, k_written, k_order)) (c_7 : ¬ r_4 = 0) (w_16 : po_Disk_writeRing 66 (k_underWay_4, k_homesUnderWay_4, k_on_4, k_stepsLeft_4, k_steps_4, k_down_4, k_written, k_order) r_16 (k_underWay_16, k_homesUnderWay_4, k_on_16, k_stepsLeft_16, k_steps_16, k_down_4, k_written, k_order_16)) (c_19 : r_16 = 0) : po_endLog (j_ringBlocks, j_running, j_revoked, j_now) (k_underWay, k_homesUnderWay, k_on, k_stepsLeft, k_steps, k_down, k_written, k_order) (g_size, g_imagesUsed, g_blocks, g_revokes, g_uses, g_firstImages, g_images) 0 (j_ringBlocks, j_running, j_revoked, j_now) (k_underWay_16, k_homesUnderWay_4, k_on_16, k_stepsLeft_16, k_steps_16, k_down_4, k_written, k_order_16) (g_size, g_imagesUsed, g_blocks, g_revokes, g_uses, g_firstImages, g_images) := by
  intro d g hd hw hg ho
  obtain ⟨a, b⟩ := w_4 d hd hw
  have h := b2i_n0.mp (fun z => c_7 (a.trans z))
  obtain ⟨a2, b2⟩ := w_16 (sBar d).2 66 b (by rw [bar_nil h]; decide) rfl (by decide) (by decide)
  have h2 := b2i_0.mp (a2.symm.trans c_19)
  rw [end_f2 h h2]
  exact ⟨rfl, b2, hg⟩
theorem vc_endLog_26_0 (j_ringBlocks : Int32) (j_running : Int64) (j_revoked : Int64) (j_now : Nat → Int32) (k_underWay : Int32) (k_homesUnderWay : Int64) (k_on : Int32) (k_stepsLeft : Int32) (k_steps : Int32) (k_down : Nat → Int32) (k_written : Nat → Int32) (k_order : Nat → Int32) (g_size : Int32) (g_imagesUsed : Int32) (g_blocks : Nat → Int64) (g_revokes : Nat → Int64) (g_uses : Nat → Int32) (g_firstImages : Nat → Int32) (g_images : Nat → Int32) (r_4 : Int32) (k_underWay_4 : Int32) (k_homesUnderWay_4 : Int64) (k_on_4 : Int32) (k_stepsLeft_4 : Int32) (k_steps_4 : Int32) (k_down_4 : Nat → Int32) (r_16 : Int32) (k_underWay_16 : Int32) (k_on_16 : Int32) (k_stepsLeft_16 : Int32) (k_steps_16 : Int32) (k_order_16 : Nat → Int32) (hpre : pr_endLog (j_ringBlocks, j_running, j_revoked, j_now) (k_underWay, k_homesUnderWay, k_on, k_stepsLeft, k_steps, k_down, k_written, k_order) (g_size, g_imagesUsed, g_blocks, g_revokes, g_uses, g_firstImages, g_images)) (w_4 : po_Disk_barrier (k_underWay, k_homesUnderWay, k_on, k_stepsLeft, k_steps, k_down, k_written, k_order) r_4 (k_underWay_4, k_homesUnderWay_4, k_on_4, k_stepsLeft_4, k_steps_4, k_down_4, k_written, k_order)) (c_7 : ¬ r_4 = 0) (w_16 : po_Disk_writeRing 66 (k_underWay_4, k_homesUnderWay_4, k_on_4, k_stepsLeft_4, k_steps_4, k_down_4, k_written, k_order) r_16 (k_underWay_16, k_homesUnderWay_4, k_on_16, k_stepsLeft_16, k_steps_16, k_down_4, k_written, k_order_16)) (c_19 : ¬ r_16 = 0) : pr_Disk_barrier (k_underWay_16, k_homesUnderWay_4, k_on_16, k_stepsLeft_16, k_steps_16, k_down_4, k_written, k_order_16) := by
  obtain ⟨d, hd, hw⟩ := hpre
  obtain ⟨a, b⟩ := w_4 d hd hw
  have h := b2i_n0.mp (fun z => c_7 (a.trans z))
  obtain ⟨a2, b2⟩ := w_16 (sBar d).2 66 b (by rw [bar_nil h]; decide) rfl (by decide) (by decide)
  exact ⟨_, b2, DW_ring (DW_bar hw) (by rw [bar_nil h]; decide) (by decide)⟩
theorem vc_endLog_38_0 (j_ringBlocks : Int32) (j_running : Int64) (j_revoked : Int64) (j_now : Nat → Int32) (k_underWay : Int32) (k_homesUnderWay : Int64) (k_on : Int32) (k_stepsLeft : Int32) (k_steps : Int32) (k_down : Nat → Int32) (k_written : Nat → Int32) (k_order : Nat → Int32) (g_size : Int32) (g_imagesUsed : Int32) (g_blocks : Nat → Int64) (g_revokes : Nat → Int64) (g_uses : Nat → Int32) (g_firstImages : Nat → Int32) (g_images : Nat → Int32) (r_4 : Int32) (k_underWay_4 : Int32) (k_homesUnderWay_4 : Int64) (k_on_4 : Int32) (k_stepsLeft_4 : Int32) (k_steps_4 : Int32) (k_down_4 : Nat → Int32) (r_16 : Int32) (k_underWay_16 : Int32) (k_on_16 : Int32) (k_stepsLeft_16 : Int32) (k_steps_16 : Int32) (k_order_16 : Nat → Int32) (r_26 : Int32) (k_underWay_26 : Int32) (k_homesUnderWay_26 : Int64) (k_on_26 : Int32) (k_stepsLeft_26 : Int32) (k_steps_26 : Int32) (k_down_26 : Nat → Int32) (hpre : pr_endLog (j_ringBlocks, j_running, j_revoked, j_now) (k_underWay, k_homesUnderWay, k_on, k_stepsLeft, k_steps, k_down, k_written, k_order) (g_size, g_imagesUsed, g_blocks, g_revokes, g_uses, g_firstImages, g_images)) (w_4 : po_Disk_barrier (k_underWay, k_homesUnderWay, k_on, k_stepsLeft, k_steps, k_down, k_written, k_order) r_4 (k_underWay_4, k_homesUnderWay_4, k_on_4, k_stepsLeft_4, k_steps_4, k_down_4, k_written, k_order)) (c_7 : ¬ r_4 = 0) (w_16 : po_Disk_writeRing 66 (k_underWay_4, k_homesUnderWay_4, k_on_4, k_stepsLeft_4, k_steps_4, k_down_4, k_written, k_order) r_16 (k_underWay_16, k_homesUnderWay_4, k_on_16, k_stepsLeft_16, k_steps_16, k_down_4, k_written, k_order_16)) (c_19 : ¬ r_16 = 0) (w_26 : po_Disk_barrier (k_underWay_16, k_homesUnderWay_4, k_on_16, k_stepsLeft_16, k_steps_16, k_down_4, k_written, k_order_16) r_26 (k_underWay_26, k_homesUnderWay_26, k_on_26, k_stepsLeft_26, k_steps_26, k_down_26, k_written, k_order_16)) (c_29 : ¬ r_26 = 0) : pr_Log_makeEmpty (g_size, g_imagesUsed, g_blocks, g_revokes, g_uses, g_firstImages, g_images) := by
  trivial
theorem vc_endLog_42_0 (j_ringBlocks : Int32) (j_running : Int64) (j_revoked : Int64) (j_now : Nat → Int32) (k_underWay : Int32) (k_homesUnderWay : Int64) (k_on : Int32) (k_stepsLeft : Int32) (k_steps : Int32) (k_down : Nat → Int32) (k_written : Nat → Int32) (k_order : Nat → Int32) (g_size : Int32) (g_imagesUsed : Int32) (g_blocks : Nat → Int64) (g_revokes : Nat → Int64) (g_uses : Nat → Int32) (g_firstImages : Nat → Int32) (g_images : Nat → Int32) (r_4 : Int32) (k_underWay_4 : Int32) (k_homesUnderWay_4 : Int64) (k_on_4 : Int32) (k_stepsLeft_4 : Int32) (k_steps_4 : Int32) (k_down_4 : Nat → Int32) (r_16 : Int32) (k_underWay_16 : Int32) (k_on_16 : Int32) (k_stepsLeft_16 : Int32) (k_steps_16 : Int32) (k_order_16 : Nat → Int32) (r_26 : Int32) (k_underWay_26 : Int32) (k_homesUnderWay_26 : Int64) (k_on_26 : Int32) (k_stepsLeft_26 : Int32) (k_steps_26 : Int32) (k_down_26 : Nat → Int32) (g_size_38 : Int32) (g_imagesUsed_38 : Int32) (hpre : pr_endLog (j_ringBlocks, j_running, j_revoked, j_now) (k_underWay, k_homesUnderWay, k_on, k_stepsLeft, k_steps, k_down, k_written, k_order) (g_size, g_imagesUsed, g_blocks, g_revokes, g_uses, g_firstImages, g_images)) (w_4 : po_Disk_barrier (k_underWay, k_homesUnderWay, k_on, k_stepsLeft, k_steps, k_down, k_written, k_order) r_4 (k_underWay_4, k_homesUnderWay_4, k_on_4, k_stepsLeft_4, k_steps_4, k_down_4, k_written, k_order)) (c_7 : ¬ r_4 = 0) (w_16 : po_Disk_writeRing 66 (k_underWay_4, k_homesUnderWay_4, k_on_4, k_stepsLeft_4, k_steps_4, k_down_4, k_written, k_order) r_16 (k_underWay_16, k_homesUnderWay_4, k_on_16, k_stepsLeft_16, k_steps_16, k_down_4, k_written, k_order_16)) (c_19 : ¬ r_16 = 0) (w_26 : po_Disk_barrier (k_underWay_16, k_homesUnderWay_4, k_on_16, k_stepsLeft_16, k_steps_16, k_down_4, k_written, k_order_16) r_26 (k_underWay_26, k_homesUnderWay_26, k_on_26, k_stepsLeft_26, k_steps_26, k_down_26, k_written, k_order_16)) (c_29 : ¬ r_26 = 0) (w_38 : po_Log_makeEmpty (g_size, g_imagesUsed, g_blocks, g_revokes, g_uses, g_firstImages, g_images) (g_size_38, g_imagesUsed_38, g_blocks, g_revokes, g_uses, g_firstImages, g_images)) : po_endLog (j_ringBlocks, j_running, j_revoked, j_now) (k_underWay, k_homesUnderWay, k_on, k_stepsLeft, k_steps, k_down, k_written, k_order) (g_size, g_imagesUsed, g_blocks, g_revokes, g_uses, g_firstImages, g_images) 1 (j_ringBlocks, j_running, j_revoked, j_now) (k_underWay_26, k_homesUnderWay_26, k_on_26, k_stepsLeft_26, k_steps_26, k_down_26, k_written, k_order_16) (g_size_38, g_imagesUsed_38, g_blocks, g_revokes, g_uses, g_firstImages, g_images) := by
  intro d g hd hw hg ho
  obtain ⟨a, b⟩ := w_4 d hd hw
  have h := b2i_n0.mp (fun z => c_7 (a.trans z))
  obtain ⟨a2, b2⟩ := w_16 (sBar d).2 66 b (by rw [bar_nil h]; decide) rfl (by decide) (by decide)
  have h2 := b2i_n0.mp (fun z => c_19 (a2.trans z))
  obtain ⟨a3, b3⟩ := w_26 _ b2 (DW_ring (DW_bar hw) (by rw [bar_nil h]; decide) (by decide))
  have h3 := b2i_n0.mp (fun z => c_29 (a3.trans z))
  rw [end_3 h h2, h3]
  exact ⟨rfl, b3, RL_empty hg ho w_38⟩
theorem vc_endLog_33_2 (j_ringBlocks : Int32) (j_running : Int64) (j_revoked : Int64) (j_now : Nat → Int32) (k_underWay : Int32) (k_homesUnderWay : Int64) (k_on : Int32) (k_stepsLeft : Int32) (k_steps : Int32) (k_down : Nat → Int32) (k_written : Nat → Int32) (k_order : Nat → Int32) (g_size : Int32) (g_imagesUsed : Int32) (g_blocks : Nat → Int64) (g_revokes : Nat → Int64) (g_uses : Nat → Int32) (g_firstImages : Nat → Int32) (g_images : Nat → Int32) (r_4 : Int32) (k_underWay_4 : Int32) (k_homesUnderWay_4 : Int64) (k_on_4 : Int32) (k_stepsLeft_4 : Int32) (k_steps_4 : Int32) (k_down_4 : Nat → Int32) (r_16 : Int32) (k_underWay_16 : Int32) (k_on_16 : Int32) (k_stepsLeft_16 : Int32) (k_steps_16 : Int32) (k_order_16 : Nat → Int32) (r_26 : Int32) (k_underWay_26 : Int32) (k_homesUnderWay_26 : Int64) (k_on_26 : Int32) (k_stepsLeft_26 : Int32) (k_steps_26 : Int32) (k_down_26 : Nat → Int32) (hpre : pr_endLog (j_ringBlocks, j_running, j_revoked, j_now) (k_underWay, k_homesUnderWay, k_on, k_stepsLeft, k_steps, k_down, k_written, k_order) (g_size, g_imagesUsed, g_blocks, g_revokes, g_uses, g_firstImages, g_images)) (w_4 : po_Disk_barrier (k_underWay, k_homesUnderWay, k_on, k_stepsLeft, k_steps, k_down, k_written, k_order) r_4 (k_underWay_4, k_homesUnderWay_4, k_on_4, k_stepsLeft_4, k_steps_4, k_down_4, k_written, k_order)) (c_7 : ¬ r_4 = 0) (w_16 : po_Disk_writeRing 66 (k_underWay_4, k_homesUnderWay_4, k_on_4, k_stepsLeft_4, k_steps_4, k_down_4, k_written, k_order) r_16 (k_underWay_16, k_homesUnderWay_4, k_on_16, k_stepsLeft_16, k_steps_16, k_down_4, k_written, k_order_16)) (c_19 : ¬ r_16 = 0) (w_26 : po_Disk_barrier (k_underWay_16, k_homesUnderWay_4, k_on_16, k_stepsLeft_16, k_steps_16, k_down_4, k_written, k_order_16) r_26 (k_underWay_26, k_homesUnderWay_26, k_on_26, k_stepsLeft_26, k_steps_26, k_down_26, k_written, k_order_16)) (c_29 : r_26 = 0) : po_endLog (j_ringBlocks, j_running, j_revoked, j_now) (k_underWay, k_homesUnderWay, k_on, k_stepsLeft, k_steps, k_down, k_written, k_order) (g_size, g_imagesUsed, g_blocks, g_revokes, g_uses, g_firstImages, g_images) 0 (j_ringBlocks, j_running, j_revoked, j_now) (k_underWay_26, k_homesUnderWay_26, k_on_26, k_stepsLeft_26, k_steps_26, k_down_26, k_written, k_order_16) (g_size, g_imagesUsed, g_blocks, g_revokes, g_uses, g_firstImages, g_images) := by
  intro d g hd hw hg ho
  obtain ⟨a, b⟩ := w_4 d hd hw
  have h := b2i_n0.mp (fun z => c_7 (a.trans z))
  obtain ⟨a2, b2⟩ := w_16 (sBar d).2 66 b (by rw [bar_nil h]; decide) rfl (by decide) (by decide)
  have h2 := b2i_n0.mp (fun z => c_19 (a2.trans z))
  obtain ⟨a3, b3⟩ := w_26 _ b2 (DW_ring (DW_bar hw) (by rw [bar_nil h]; decide) (by decide))
  have h3 := b2i_0.mp (a3.symm.trans c_29)
  rw [end_3 h h2, h3]
  exact ⟨rfl, b3, hg⟩
def iv_bringLogHome_10 (_ : JRt) (k0 : DKt) (x0 : LGt) (x1 : Int64) (x3 : Int32) (_ : JRt) (k : DKt) (x : LGt) : Prop := x = x0 ∧ ∃ b : Nat, b ≤ 64 ∧ x3 = nI b ∧ ∀ (d : Dk) (g : Lg), RD d k0 → DW d → d.1 = [] → RL g x0 → okG g → x1 = sLying g ∧ ∃ d2 : Dk, sClrN g (sLying g) 0 64 d = sClrN g (sLying g) b (64 - b) d2 ∧ RD d2 k ∧ DW d2 ∧ hs d2.1
def mu_bringLogHome_10 (_ : JRt) (_ : DKt) (_ : LGt) (_ : Int64) (x3 : Int32) (_ : JRt) (_ : DKt) (_ : LGt) : Nat := 64 - x3.toNatClampNeg
theorem late_le {g : Lg} (o : okG g) {q t : Nat} (hq : q < 64) (h : laN g.2.1 q g.1 = some t) (ht : t < g.1) (hb : bitt (g.2.1 t) q = true) : sLate g q + 256 ≤ 51200 := by
  obtain ⟨n, blk, rvk, use, fst, im⟩ := g
  have h : laN blk q n = some t := h
  have e : sLate (n, blk, rvk, use, fst, im) q = sImg (n, blk, rvk, use, fst, im) t q := by
    show (match laN blk q n with
      | none => 0
      | some t => sImg (n, blk, rvk, use, fst, im) t q) = _
    rw [h]
  rw [e]
  exact img_le o ht hq hb

theorem vc_bringLogHome_59_0 (j_ringBlocks : Int32) (j_running : Int64) (j_revoked : Int64) (j_now : Nat → Int32) (k_underWay : Int32) (k_homesUnderWay : Int64) (k_on : Int32) (k_stepsLeft : Int32) (k_steps : Int32) (k_down : Nat → Int32) (k_written : Nat → Int32) (k_order : Nat → Int32) (g_size : Int32) (g_imagesUsed : Int32) (g_blocks : Nat → Int64) (g_revokes : Nat → Int64) (g_uses : Nat → Int32) (g_firstImages : Nat → Int32) (g_images : Nat → Int32) (x1 : Int64) (x3 : Int32) (k_underWay_i : Int32) (k_homesUnderWay_i : Int64) (k_on_i : Int32) (k_stepsLeft_i : Int32) (k_steps_i : Int32) (k_down_i : Nat → Int32) (k_written_i : Nat → Int32) (k_order_i : Nat → Int32) (g_size_i : Int32) (g_imagesUsed_i : Int32) (hpre : pr_bringLogHome (j_ringBlocks, j_running, j_revoked, j_now) (k_underWay, k_homesUnderWay, k_on, k_stepsLeft, k_steps, k_down, k_written, k_order) (g_size, g_imagesUsed, g_blocks, g_revokes, g_uses, g_firstImages, g_images)) (hinv : iv_bringLogHome_10 (j_ringBlocks, j_running, j_revoked, j_now) (k_underWay, k_homesUnderWay, k_on, k_stepsLeft, k_steps, k_down, k_written, k_order) (g_size, g_imagesUsed, g_blocks, g_revokes, g_uses, g_firstImages, g_images) x1 x3 (j_ringBlocks, j_running, j_revoked, j_now) (k_underWay_i, k_homesUnderWay_i, k_on_i, k_stepsLeft_i, k_steps_i, k_down_i, k_written_i, k_order_i) (g_size_i, g_imagesUsed_i, g_blocks, g_revokes, g_uses, g_firstImages, g_images)) (c_13 : 64 ≤ x3) : pr_endLog (j_ringBlocks, j_running, j_revoked, j_now) (k_underWay_i, k_homesUnderWay_i, k_on_i, k_stepsLeft_i, k_steps_i, k_down_i, k_written_i, k_order_i) (g_size_i, g_imagesUsed_i, g_blocks, g_revokes, g_uses, g_firstImages, g_images) := by
  obtain ⟨d, g, hd, hw, hn, hg, ho⟩ := hpre
  obtain ⟨-, b, hb, rfl, h⟩ := hinv
  obtain ⟨-, d2, -, h3, h4, -⟩ := h d g hd hw hn hg ho
  exact ⟨d2, h3, h4⟩
theorem vc_bringLogHome_73_0 (j_ringBlocks : Int32) (j_running : Int64) (j_revoked : Int64) (j_now : Nat → Int32) (k_underWay : Int32) (k_homesUnderWay : Int64) (k_on : Int32) (k_stepsLeft : Int32) (k_steps : Int32) (k_down : Nat → Int32) (k_written : Nat → Int32) (k_order : Nat → Int32) (g_size : Int32) (g_imagesUsed : Int32) (g_blocks : Nat → Int64) (g_revokes : Nat → Int64) (g_uses : Nat → Int32) (g_firstImages : Nat → Int32) (g_images : Nat → Int32) (x1 : Int64) (x3 : Int32) (k_underWay_i : Int32) (k_homesUnderWay_i : Int64) (k_on_i : Int32) (k_stepsLeft_i : Int32) (k_steps_i : Int32) (k_down_i : Nat → Int32) (k_written_i : Nat → Int32) (k_order_i : Nat → Int32) (g_size_i : Int32) (g_imagesUsed_i : Int32) (r_59 : Int32) (k_underWay_59 : Int32) (k_homesUnderWay_59 : Int64) (k_on_59 : Int32) (k_stepsLeft_59 : Int32) (k_steps_59 : Int32) (k_down_59 : Nat → Int32) (k_order_59 : Nat → Int32) (g_size_59 : Int32) (g_imagesUsed_59 : Int32) (hpre : pr_bringLogHome (j_ringBlocks, j_running, j_revoked, j_now) (k_underWay, k_homesUnderWay, k_on, k_stepsLeft, k_steps, k_down, k_written, k_order) (g_size, g_imagesUsed, g_blocks, g_revokes, g_uses, g_firstImages, g_images)) (hinv : iv_bringLogHome_10 (j_ringBlocks, j_running, j_revoked, j_now) (k_underWay, k_homesUnderWay, k_on, k_stepsLeft, k_steps, k_down, k_written, k_order) (g_size, g_imagesUsed, g_blocks, g_revokes, g_uses, g_firstImages, g_images) x1 x3 (j_ringBlocks, j_running, j_revoked, j_now) (k_underWay_i, k_homesUnderWay_i, k_on_i, k_stepsLeft_i, k_steps_i, k_down_i, k_written_i, k_order_i) (g_size_i, g_imagesUsed_i, g_blocks, g_revokes, g_uses, g_firstImages, g_images)) (c_13 : 64 ≤ x3) (w_59 : po_endLog (j_ringBlocks, j_running, j_revoked, j_now) (k_underWay_i, k_homesUnderWay_i, k_on_i, k_stepsLeft_i, k_steps_i, k_down_i, k_written_i, k_order_i) (g_size_i, g_imagesUsed_i, g_blocks, g_revokes, g_uses, g_firstImages, g_images) r_59 (j_ringBlocks, j_running, j_revoked, j_now) (k_underWay_59, k_homesUnderWay_59, k_on_59, k_stepsLeft_59, k_steps_59, k_down_59, k_written_i, k_order_59) (g_size_59, g_imagesUsed_59, g_blocks, g_revokes, g_uses, g_firstImages, g_images)) (c_62 : r_59 = 0) : po_bringLogHome (j_ringBlocks, j_running, j_revoked, j_now) (k_underWay, k_homesUnderWay, k_on, k_stepsLeft, k_steps, k_down, k_written, k_order) (g_size, g_imagesUsed, g_blocks, g_revokes, g_uses, g_firstImages, g_images) (-1) (j_ringBlocks, j_running, j_revoked, j_now) (k_underWay_59, k_homesUnderWay_59, k_on_59, k_stepsLeft_59, k_steps_59, k_down_59, k_written_i, k_order_59) (g_size_59, g_imagesUsed_59, g_blocks, g_revokes, g_uses, g_firstImages, g_images) := by
  intro d g hd hw hn hg ho
  obtain ⟨ex, b, hb, rfl, h⟩ := hinv
  have hb2 : 64 ≤ b := (nI_leI (a := 64) (by decide) (by omega)).mp c_13
  have e : b = 64 := by omega
  subst e
  obtain ⟨-, d2, h2, h3, h4, -⟩ := h d g hd hw hn hg ho
  obtain ⟨a, q1, q2⟩ := w_59 d2 g h3 h4 (by rw [ex]; exact hg) ho
  have z := b2i_0.mp (a.symm.trans c_62)
  rw [clear_t (h2.trans rfl), z]
  exact ⟨rfl, q1, q2⟩
theorem vc_bringLogHome_66_0 (j_ringBlocks : Int32) (j_running : Int64) (j_revoked : Int64) (j_now : Nat → Int32) (k_underWay : Int32) (k_homesUnderWay : Int64) (k_on : Int32) (k_stepsLeft : Int32) (k_steps : Int32) (k_down : Nat → Int32) (k_written : Nat → Int32) (k_order : Nat → Int32) (g_size : Int32) (g_imagesUsed : Int32) (g_blocks : Nat → Int64) (g_revokes : Nat → Int64) (g_uses : Nat → Int32) (g_firstImages : Nat → Int32) (g_images : Nat → Int32) (x1 : Int64) (x3 : Int32) (k_underWay_i : Int32) (k_homesUnderWay_i : Int64) (k_on_i : Int32) (k_stepsLeft_i : Int32) (k_steps_i : Int32) (k_down_i : Nat → Int32) (k_written_i : Nat → Int32) (k_order_i : Nat → Int32) (g_size_i : Int32) (g_imagesUsed_i : Int32) (r_59 : Int32) (k_underWay_59 : Int32) (k_homesUnderWay_59 : Int64) (k_on_59 : Int32) (k_stepsLeft_59 : Int32) (k_steps_59 : Int32) (k_down_59 : Nat → Int32) (k_order_59 : Nat → Int32) (g_size_59 : Int32) (g_imagesUsed_59 : Int32) (hpre : pr_bringLogHome (j_ringBlocks, j_running, j_revoked, j_now) (k_underWay, k_homesUnderWay, k_on, k_stepsLeft, k_steps, k_down, k_written, k_order) (g_size, g_imagesUsed, g_blocks, g_revokes, g_uses, g_firstImages, g_images)) (hinv : iv_bringLogHome_10 (j_ringBlocks, j_running, j_revoked, j_now) (k_underWay, k_homesUnderWay, k_on, k_stepsLeft, k_steps, k_down, k_written, k_order) (g_size, g_imagesUsed, g_blocks, g_revokes, g_uses, g_firstImages, g_images) x1 x3 (j_ringBlocks, j_running, j_revoked, j_now) (k_underWay_i, k_homesUnderWay_i, k_on_i, k_stepsLeft_i, k_steps_i, k_down_i, k_written_i, k_order_i) (g_size_i, g_imagesUsed_i, g_blocks, g_revokes, g_uses, g_firstImages, g_images)) (c_13 : 64 ≤ x3) (w_59 : po_endLog (j_ringBlocks, j_running, j_revoked, j_now) (k_underWay_i, k_homesUnderWay_i, k_on_i, k_stepsLeft_i, k_steps_i, k_down_i, k_written_i, k_order_i) (g_size_i, g_imagesUsed_i, g_blocks, g_revokes, g_uses, g_firstImages, g_images) r_59 (j_ringBlocks, j_running, j_revoked, j_now) (k_underWay_59, k_homesUnderWay_59, k_on_59, k_stepsLeft_59, k_steps_59, k_down_59, k_written_i, k_order_59) (g_size_59, g_imagesUsed_59, g_blocks, g_revokes, g_uses, g_firstImages, g_images)) (c_62 : ¬ r_59 = 0) : pr_bitCount x1 := by
  trivial
theorem vc_bringLogHome_73_1 (j_ringBlocks : Int32) (j_running : Int64) (j_revoked : Int64) (j_now : Nat → Int32) (k_underWay : Int32) (k_homesUnderWay : Int64) (k_on : Int32) (k_stepsLeft : Int32) (k_steps : Int32) (k_down : Nat → Int32) (k_written : Nat → Int32) (k_order : Nat → Int32) (g_size : Int32) (g_imagesUsed : Int32) (g_blocks : Nat → Int64) (g_revokes : Nat → Int64) (g_uses : Nat → Int32) (g_firstImages : Nat → Int32) (g_images : Nat → Int32) (x1 : Int64) (x3 : Int32) (k_underWay_i : Int32) (k_homesUnderWay_i : Int64) (k_on_i : Int32) (k_stepsLeft_i : Int32) (k_steps_i : Int32) (k_down_i : Nat → Int32) (k_written_i : Nat → Int32) (k_order_i : Nat → Int32) (g_size_i : Int32) (g_imagesUsed_i : Int32) (r_59 : Int32) (k_underWay_59 : Int32) (k_homesUnderWay_59 : Int64) (k_on_59 : Int32) (k_stepsLeft_59 : Int32) (k_steps_59 : Int32) (k_down_59 : Nat → Int32) (k_order_59 : Nat → Int32) (g_size_59 : Int32) (g_imagesUsed_59 : Int32) (r_66 : Int32) (hpre : pr_bringLogHome (j_ringBlocks, j_running, j_revoked, j_now) (k_underWay, k_homesUnderWay, k_on, k_stepsLeft, k_steps, k_down, k_written, k_order) (g_size, g_imagesUsed, g_blocks, g_revokes, g_uses, g_firstImages, g_images)) (hinv : iv_bringLogHome_10 (j_ringBlocks, j_running, j_revoked, j_now) (k_underWay, k_homesUnderWay, k_on, k_stepsLeft, k_steps, k_down, k_written, k_order) (g_size, g_imagesUsed, g_blocks, g_revokes, g_uses, g_firstImages, g_images) x1 x3 (j_ringBlocks, j_running, j_revoked, j_now) (k_underWay_i, k_homesUnderWay_i, k_on_i, k_stepsLeft_i, k_steps_i, k_down_i, k_written_i, k_order_i) (g_size_i, g_imagesUsed_i, g_blocks, g_revokes, g_uses, g_firstImages, g_images)) (c_13 : 64 ≤ x3) (w_59 : po_endLog (j_ringBlocks, j_running, j_revoked, j_now) (k_underWay_i, k_homesUnderWay_i, k_on_i, k_stepsLeft_i, k_steps_i, k_down_i, k_written_i, k_order_i) (g_size_i, g_imagesUsed_i, g_blocks, g_revokes, g_uses, g_firstImages, g_images) r_59 (j_ringBlocks, j_running, j_revoked, j_now) (k_underWay_59, k_homesUnderWay_59, k_on_59, k_stepsLeft_59, k_steps_59, k_down_59, k_written_i, k_order_59) (g_size_59, g_imagesUsed_59, g_blocks, g_revokes, g_uses, g_firstImages, g_images)) (c_62 : ¬ r_59 = 0) (w_66 : po_bitCount x1 r_66) : po_bringLogHome (j_ringBlocks, j_running, j_revoked, j_now) (k_underWay, k_homesUnderWay, k_on, k_stepsLeft, k_steps, k_down, k_written, k_order) (g_size, g_imagesUsed, g_blocks, g_revokes, g_uses, g_firstImages, g_images) r_66 (j_ringBlocks, j_running, j_revoked, j_now) (k_underWay_59, k_homesUnderWay_59, k_on_59, k_stepsLeft_59, k_steps_59, k_down_59, k_written_i, k_order_59) (g_size_59, g_imagesUsed_59, g_blocks, g_revokes, g_uses, g_firstImages, g_images) := by
  intro d g hd hw hn hg ho
  obtain ⟨ex, b, hb, rfl, h⟩ := hinv
  have hb2 : 64 ≤ b := (nI_leI (a := 64) (by decide) (by omega)).mp c_13
  have e : b = 64 := by omega
  subst e
  obtain ⟨e1, d2, h2, h3, h4, -⟩ := h d g hd hw hn hg ho
  obtain ⟨a, q1, q2⟩ := w_59 d2 g h3 h4 (by rw [ex]; exact hg) ho
  have z := b2i_n0.mp (fun y => c_62 (a.trans y))
  have w : r_66 = nI (cnt x1) := w_66
  rw [clear_t (h2.trans rfl), z, w, e1]
  exact ⟨rfl, q1, q2⟩
theorem vc_bringLogHome_18_0 (j_ringBlocks : Int32) (j_running : Int64) (j_revoked : Int64) (j_now : Nat → Int32) (k_underWay : Int32) (k_homesUnderWay : Int64) (k_on : Int32) (k_stepsLeft : Int32) (k_steps : Int32) (k_down : Nat → Int32) (k_written : Nat → Int32) (k_order : Nat → Int32) (g_size : Int32) (g_imagesUsed : Int32) (g_blocks : Nat → Int64) (g_revokes : Nat → Int64) (g_uses : Nat → Int32) (g_firstImages : Nat → Int32) (g_images : Nat → Int32) (x1 : Int64) (x3 : Int32) (k_underWay_i : Int32) (k_homesUnderWay_i : Int64) (k_on_i : Int32) (k_stepsLeft_i : Int32) (k_steps_i : Int32) (k_down_i : Nat → Int32) (k_written_i : Nat → Int32) (k_order_i : Nat → Int32) (g_size_i : Int32) (g_imagesUsed_i : Int32) (hpre : pr_bringLogHome (j_ringBlocks, j_running, j_revoked, j_now) (k_underWay, k_homesUnderWay, k_on, k_stepsLeft, k_steps, k_down, k_written, k_order) (g_size, g_imagesUsed, g_blocks, g_revokes, g_uses, g_firstImages, g_images)) (hinv : iv_bringLogHome_10 (j_ringBlocks, j_running, j_revoked, j_now) (k_underWay, k_homesUnderWay, k_on, k_stepsLeft, k_steps, k_down, k_written, k_order) (g_size, g_imagesUsed, g_blocks, g_revokes, g_uses, g_firstImages, g_images) x1 x3 (j_ringBlocks, j_running, j_revoked, j_now) (k_underWay_i, k_homesUnderWay_i, k_on_i, k_stepsLeft_i, k_steps_i, k_down_i, k_written_i, k_order_i) (g_size_i, g_imagesUsed_i, g_blocks, g_revokes, g_uses, g_firstImages, g_images)) (c_13 : ¬ 64 ≤ x3) : pr_holds x1 x3 := by
  trivial
theorem vc_bringLogHome_55_0 (j_ringBlocks : Int32) (j_running : Int64) (j_revoked : Int64) (j_now : Nat → Int32) (k_underWay : Int32) (k_homesUnderWay : Int64) (k_on : Int32) (k_stepsLeft : Int32) (k_steps : Int32) (k_down : Nat → Int32) (k_written : Nat → Int32) (k_order : Nat → Int32) (g_size : Int32) (g_imagesUsed : Int32) (g_blocks : Nat → Int64) (g_revokes : Nat → Int64) (g_uses : Nat → Int32) (g_firstImages : Nat → Int32) (g_images : Nat → Int32) (x1 : Int64) (x3 : Int32) (k_underWay_i : Int32) (k_homesUnderWay_i : Int64) (k_on_i : Int32) (k_stepsLeft_i : Int32) (k_steps_i : Int32) (k_down_i : Nat → Int32) (k_written_i : Nat → Int32) (k_order_i : Nat → Int32) (g_size_i : Int32) (g_imagesUsed_i : Int32) (r_18 : Int32) (v_52 : Int32) (hpre : pr_bringLogHome (j_ringBlocks, j_running, j_revoked, j_now) (k_underWay, k_homesUnderWay, k_on, k_stepsLeft, k_steps, k_down, k_written, k_order) (g_size, g_imagesUsed, g_blocks, g_revokes, g_uses, g_firstImages, g_images)) (hinv : iv_bringLogHome_10 (j_ringBlocks, j_running, j_revoked, j_now) (k_underWay, k_homesUnderWay, k_on, k_stepsLeft, k_steps, k_down, k_written, k_order) (g_size, g_imagesUsed, g_blocks, g_revokes, g_uses, g_firstImages, g_images) x1 x3 (j_ringBlocks, j_running, j_revoked, j_now) (k_underWay_i, k_homesUnderWay_i, k_on_i, k_stepsLeft_i, k_steps_i, k_down_i, k_written_i, k_order_i) (g_size_i, g_imagesUsed_i, g_blocks, g_revokes, g_uses, g_firstImages, g_images)) (c_13 : ¬ 64 ≤ x3) (w_18 : po_holds x1 x3 r_18) (c_21 : r_18 = 0) (e_52 : v_52 = x3 + 1) : iv_bringLogHome_10 (j_ringBlocks, j_running, j_revoked, j_now) (k_underWay, k_homesUnderWay, k_on, k_stepsLeft, k_steps, k_down, k_written, k_order) (g_size, g_imagesUsed, g_blocks, g_revokes, g_uses, g_firstImages, g_images) x1 v_52 (j_ringBlocks, j_running, j_revoked, j_now) (k_underWay_i, k_homesUnderWay_i, k_on_i, k_stepsLeft_i, k_steps_i, k_down_i, k_written_i, k_order_i) (g_size_i, g_imagesUsed_i, g_blocks, g_revokes, g_uses, g_firstImages, g_images) ∧ mu_bringLogHome_10 (j_ringBlocks, j_running, j_revoked, j_now) (k_underWay, k_homesUnderWay, k_on, k_stepsLeft, k_steps, k_down, k_written, k_order) (g_size, g_imagesUsed, g_blocks, g_revokes, g_uses, g_firstImages, g_images) x1 v_52 (j_ringBlocks, j_running, j_revoked, j_now) (k_underWay_i, k_homesUnderWay_i, k_on_i, k_stepsLeft_i, k_steps_i, k_down_i, k_written_i, k_order_i) (g_size_i, g_imagesUsed_i, g_blocks, g_revokes, g_uses, g_firstImages, g_images) < mu_bringLogHome_10 (j_ringBlocks, j_running, j_revoked, j_now) (k_underWay, k_homesUnderWay, k_on, k_stepsLeft, k_steps, k_down, k_written, k_order) (g_size, g_imagesUsed, g_blocks, g_revokes, g_uses, g_firstImages, g_images) x1 x3 (j_ringBlocks, j_running, j_revoked, j_now) (k_underWay_i, k_homesUnderWay_i, k_on_i, k_stepsLeft_i, k_steps_i, k_down_i, k_written_i, k_order_i) (g_size_i, g_imagesUsed_i, g_blocks, g_revokes, g_uses, g_firstImages, g_images) := by
  obtain ⟨ex, b, hb, rfl, h⟩ := hinv
  have hb2 : ¬ 64 ≤ b := fun z => c_13 (nI_le (a := 64) z (by omega))
  refine ⟨⟨ex, b + 1, by omega, by rw [e_52]; exact nI_1 b, fun d g hd hw hn hg ho => ?_⟩, ?_⟩
  · obtain ⟨e1, d2, h2, h3, h4, h5⟩ := h d g hd hw hn hg ho
    refine ⟨e1, d2, ?_, h3, h4, h5⟩
    have hf : bitt (sLying g) b = false := by
      rw [← e1]
      exact (bt_holds _ (by omega)).mp (it0.mp (Eq.trans (Eq.symm w_18) c_21))
    rw [h2, show 64 - b = (64 - (b + 1)) + 1 by omega, clr_s hf]
  · show 64 - v_52.toNatClampNeg < 64 - (nI b).toNatClampNeg
    rw [e_52, nI_1, nI_clamp (by omega), nI_clamp (by omega)]
    omega
theorem vc_bringLogHome_41_0 (j_ringBlocks : Int32) (j_running : Int64) (j_revoked : Int64) (j_now : Nat → Int32) (k_underWay : Int32) (k_homesUnderWay : Int64) (k_on : Int32) (k_stepsLeft : Int32) (k_steps : Int32) (k_down : Nat → Int32) (k_written : Nat → Int32) (k_order : Nat → Int32) (g_size : Int32) (g_imagesUsed : Int32) (g_blocks : Nat → Int64) (g_revokes : Nat → Int64) (g_uses : Nat → Int32) (g_firstImages : Nat → Int32) (g_images : Nat → Int32) (x1 : Int64) (x3 : Int32) (k_underWay_i : Int32) (k_homesUnderWay_i : Int64) (k_on_i : Int32) (k_stepsLeft_i : Int32) (k_steps_i : Int32) (k_down_i : Nat → Int32) (k_written_i : Nat → Int32) (k_order_i : Nat → Int32) (g_size_i : Int32) (g_imagesUsed_i : Int32) (r_18 : Int32) (hpre : pr_bringLogHome (j_ringBlocks, j_running, j_revoked, j_now) (k_underWay, k_homesUnderWay, k_on, k_stepsLeft, k_steps, k_down, k_written, k_order) (g_size, g_imagesUsed, g_blocks, g_revokes, g_uses, g_firstImages, g_images)) (hinv : iv_bringLogHome_10 (j_ringBlocks, j_running, j_revoked, j_now) (k_underWay, k_homesUnderWay, k_on, k_stepsLeft, k_steps, k_down, k_written, k_order) (g_size, g_imagesUsed, g_blocks, g_revokes, g_uses, g_firstImages, g_images) x1 x3 (j_ringBlocks, j_running, j_revoked, j_now) (k_underWay_i, k_homesUnderWay_i, k_on_i, k_stepsLeft_i, k_steps_i, k_down_i, k_written_i, k_order_i) (g_size_i, g_imagesUsed_i, g_blocks, g_revokes, g_uses, g_firstImages, g_images)) (c_13 : ¬ 64 ≤ x3) (w_18 : po_holds x1 x3 r_18) (c_21 : ¬ r_18 = 0) : pr_Log_latestImage x3 (g_size_i, g_imagesUsed_i, g_blocks, g_revokes, g_uses, g_firstImages, g_images) := by
  obtain ⟨d, g, hd, hw, hn, hg, ho⟩ := hpre
  obtain ⟨ex, b, hb, rfl, h⟩ := hinv
  have hb2 : ¬ 64 ≤ b := fun z => c_13 (nI_le (a := 64) z (by omega))
  obtain ⟨e1, -⟩ := h d g hd hw hn hg ho
  have ht : bitt x1 b = true := by
    cases z : bitt x1 b
    · exact absurd (Eq.trans w_18 (it0.mpr ((bt_holds _ (by omega)).mpr z))) c_21
    · rfl
  rw [e1] at ht
  obtain ⟨t, t1, t2, t3⟩ := ly_la (blk := g.2.1) (rvk := g.2.2.1) (by omega) g.1 ht
  exact ⟨g, b, t, by rw [ex]; exact hg, ho, rfl, by omega, t2⟩
theorem vc_bringLogHome_44_0 (j_ringBlocks : Int32) (j_running : Int64) (j_revoked : Int64) (j_now : Nat → Int32) (k_underWay : Int32) (k_homesUnderWay : Int64) (k_on : Int32) (k_stepsLeft : Int32) (k_steps : Int32) (k_down : Nat → Int32) (k_written : Nat → Int32) (k_order : Nat → Int32) (g_size : Int32) (g_imagesUsed : Int32) (g_blocks : Nat → Int64) (g_revokes : Nat → Int64) (g_uses : Nat → Int32) (g_firstImages : Nat → Int32) (g_images : Nat → Int32) (x1 : Int64) (x3 : Int32) (k_underWay_i : Int32) (k_homesUnderWay_i : Int64) (k_on_i : Int32) (k_stepsLeft_i : Int32) (k_steps_i : Int32) (k_down_i : Nat → Int32) (k_written_i : Nat → Int32) (k_order_i : Nat → Int32) (g_size_i : Int32) (g_imagesUsed_i : Int32) (r_18 : Int32) (r_41 : Int32) (hpre : pr_bringLogHome (j_ringBlocks, j_running, j_revoked, j_now) (k_underWay, k_homesUnderWay, k_on, k_stepsLeft, k_steps, k_down, k_written, k_order) (g_size, g_imagesUsed, g_blocks, g_revokes, g_uses, g_firstImages, g_images)) (hinv : iv_bringLogHome_10 (j_ringBlocks, j_running, j_revoked, j_now) (k_underWay, k_homesUnderWay, k_on, k_stepsLeft, k_steps, k_down, k_written, k_order) (g_size, g_imagesUsed, g_blocks, g_revokes, g_uses, g_firstImages, g_images) x1 x3 (j_ringBlocks, j_running, j_revoked, j_now) (k_underWay_i, k_homesUnderWay_i, k_on_i, k_stepsLeft_i, k_steps_i, k_down_i, k_written_i, k_order_i) (g_size_i, g_imagesUsed_i, g_blocks, g_revokes, g_uses, g_firstImages, g_images)) (c_13 : ¬ 64 ≤ x3) (w_18 : po_holds x1 x3 r_18) (c_21 : ¬ r_18 = 0) (w_41 : po_Log_latestImage x3 (g_size_i, g_imagesUsed_i, g_blocks, g_revokes, g_uses, g_firstImages, g_images) r_41) : pr_Disk_writeHome x3 r_41 51200 (k_underWay_i, k_homesUnderWay_i, k_on_i, k_stepsLeft_i, k_steps_i, k_down_i, k_written_i, k_order_i) g_images := by
  obtain ⟨d, g, hd, hw, hn, hg, ho⟩ := hpre
  obtain ⟨ex, b, hb, rfl, h⟩ := hinv
  have hb2 : ¬ 64 ≤ b := fun z => c_13 (nI_le (a := 64) z (by omega))
  obtain ⟨e1, d2, h2, h3, h4, h5⟩ := h d g hd hw hn hg ho
  have ht : bitt x1 b = true := by
    cases z : bitt x1 b
    · exact absurd (Eq.trans w_18 (it0.mpr ((bt_holds _ (by omega)).mpr z))) c_21
    · rfl
  rw [e1] at ht
  obtain ⟨t, t1, t2, t3⟩ := ly_la (blk := g.2.1) (rvk := g.2.2.1) (by omega) g.1 ht
  have w := w_41 g b t (by rw [ex]; exact hg) ho rfl (by omega) t2
  have l := late_le ho (by omega) t2 t1 t3
  have ei : g_images = g.2.2.2.2.2 := hg.2.2.2
  have hl := hs_len64 h5
  exact ⟨d2, b, sLate g b, h3, by omega, rfl, by omega, w, l, by decide, by rw [ei]; exact (okG_n (n := g.1) ho).2.2.2⟩
theorem vc_bringLogHome_55_1 (j_ringBlocks : Int32) (j_running : Int64) (j_revoked : Int64) (j_now : Nat → Int32) (k_underWay : Int32) (k_homesUnderWay : Int64) (k_on : Int32) (k_stepsLeft : Int32) (k_steps : Int32) (k_down : Nat → Int32) (k_written : Nat → Int32) (k_order : Nat → Int32) (g_size : Int32) (g_imagesUsed : Int32) (g_blocks : Nat → Int64) (g_revokes : Nat → Int64) (g_uses : Nat → Int32) (g_firstImages : Nat → Int32) (g_images : Nat → Int32) (x1 : Int64) (x3 : Int32) (k_underWay_i : Int32) (k_homesUnderWay_i : Int64) (k_on_i : Int32) (k_stepsLeft_i : Int32) (k_steps_i : Int32) (k_down_i : Nat → Int32) (k_written_i : Nat → Int32) (k_order_i : Nat → Int32) (g_size_i : Int32) (g_imagesUsed_i : Int32) (r_18 : Int32) (r_41 : Int32) (r_44 : Int32) (k_underWay_44 : Int32) (k_homesUnderWay_44 : Int64) (k_on_44 : Int32) (k_stepsLeft_44 : Int32) (k_steps_44 : Int32) (k_written_44 : Nat → Int32) (k_order_44 : Nat → Int32) (v_52 : Int32) (hpre : pr_bringLogHome (j_ringBlocks, j_running, j_revoked, j_now) (k_underWay, k_homesUnderWay, k_on, k_stepsLeft, k_steps, k_down, k_written, k_order) (g_size, g_imagesUsed, g_blocks, g_revokes, g_uses, g_firstImages, g_images)) (hinv : iv_bringLogHome_10 (j_ringBlocks, j_running, j_revoked, j_now) (k_underWay, k_homesUnderWay, k_on, k_stepsLeft, k_steps, k_down, k_written, k_order) (g_size, g_imagesUsed, g_blocks, g_revokes, g_uses, g_firstImages, g_images) x1 x3 (j_ringBlocks, j_running, j_revoked, j_now) (k_underWay_i, k_homesUnderWay_i, k_on_i, k_stepsLeft_i, k_steps_i, k_down_i, k_written_i, k_order_i) (g_size_i, g_imagesUsed_i, g_blocks, g_revokes, g_uses, g_firstImages, g_images)) (c_13 : ¬ 64 ≤ x3) (w_18 : po_holds x1 x3 r_18) (c_21 : ¬ r_18 = 0) (w_41 : po_Log_latestImage x3 (g_size_i, g_imagesUsed_i, g_blocks, g_revokes, g_uses, g_firstImages, g_images) r_41) (w_44 : po_Disk_writeHome x3 r_41 51200 (k_underWay_i, k_homesUnderWay_i, k_on_i, k_stepsLeft_i, k_steps_i, k_down_i, k_written_i, k_order_i) g_images r_44 (k_underWay_44, k_homesUnderWay_44, k_on_44, k_stepsLeft_44, k_steps_44, k_down_i, k_written_44, k_order_44) g_images) (c_47 : ¬ r_44 = 0) (e_52 : v_52 = x3 + 1) : iv_bringLogHome_10 (j_ringBlocks, j_running, j_revoked, j_now) (k_underWay, k_homesUnderWay, k_on, k_stepsLeft, k_steps, k_down, k_written, k_order) (g_size, g_imagesUsed, g_blocks, g_revokes, g_uses, g_firstImages, g_images) x1 v_52 (j_ringBlocks, j_running, j_revoked, j_now) (k_underWay_44, k_homesUnderWay_44, k_on_44, k_stepsLeft_44, k_steps_44, k_down_i, k_written_44, k_order_44) (g_size_i, g_imagesUsed_i, g_blocks, g_revokes, g_uses, g_firstImages, g_images) ∧ mu_bringLogHome_10 (j_ringBlocks, j_running, j_revoked, j_now) (k_underWay, k_homesUnderWay, k_on, k_stepsLeft, k_steps, k_down, k_written, k_order) (g_size, g_imagesUsed, g_blocks, g_revokes, g_uses, g_firstImages, g_images) x1 v_52 (j_ringBlocks, j_running, j_revoked, j_now) (k_underWay_44, k_homesUnderWay_44, k_on_44, k_stepsLeft_44, k_steps_44, k_down_i, k_written_44, k_order_44) (g_size_i, g_imagesUsed_i, g_blocks, g_revokes, g_uses, g_firstImages, g_images) < mu_bringLogHome_10 (j_ringBlocks, j_running, j_revoked, j_now) (k_underWay, k_homesUnderWay, k_on, k_stepsLeft, k_steps, k_down, k_written, k_order) (g_size, g_imagesUsed, g_blocks, g_revokes, g_uses, g_firstImages, g_images) x1 x3 (j_ringBlocks, j_running, j_revoked, j_now) (k_underWay_i, k_homesUnderWay_i, k_on_i, k_stepsLeft_i, k_steps_i, k_down_i, k_written_i, k_order_i) (g_size_i, g_imagesUsed_i, g_blocks, g_revokes, g_uses, g_firstImages, g_images) := by
  obtain ⟨ex, b, hb, rfl, h⟩ := hinv
  have hb2 : ¬ 64 ≤ b := fun z => c_13 (nI_le (a := 64) z (by omega))
  have ht : bitt x1 b = true := by
    cases z : bitt x1 b
    · exact absurd (Eq.trans w_18 (it0.mpr ((bt_holds _ (by omega)).mpr z))) c_21
    · rfl
  refine ⟨⟨ex, b + 1, by omega, by rw [e_52]; exact nI_1 b, fun d g hd hw hn hg ho => ?_⟩, ?_⟩
  · obtain ⟨e1, d2, h2, h3, h4, h5⟩ := h d g hd hw hn hg ho
    have ht2 := ht
    rw [e1] at ht2
    obtain ⟨t, t1, t2, t3⟩ := ly_la (blk := g.2.1) (rvk := g.2.2.1) (by omega) g.1 ht2
    have w := w_41 g b t (by rw [ex]; exact hg) ho rfl (by omega) t2
    have l := late_le ho (by omega) t2 t1 t3
    have ei : g_images = g.2.2.2.2.2 := hg.2.2.2
    have hl := hs_len64 h5
    obtain ⟨a, q⟩ := w_44 d2 b (sLate g b) h3 (by omega) rfl (by omega) w l (by decide)
    rw [ei] at a q
    have z := b2i_n0.mp (fun y => c_47 (a.trans y))
    obtain ⟨k1, k2⟩ := DW_home (b := b) (sp := sLate g b) h4 h5 (by omega) (okG_n (n := g.1) ho).2.2.2
    exact ⟨e1, _, by rw [h2, show 64 - b = (64 - (b + 1)) + 1 by omega, clr_t ht2 z], q, k1, k2⟩
  · show 64 - v_52.toNatClampNeg < 64 - (nI b).toNatClampNeg
    rw [e_52, nI_1, nI_clamp (by omega), nI_clamp (by omega)]
    omega
theorem vc_bringLogHome_51_0 (j_ringBlocks : Int32) (j_running : Int64) (j_revoked : Int64) (j_now : Nat → Int32) (k_underWay : Int32) (k_homesUnderWay : Int64) (k_on : Int32) (k_stepsLeft : Int32) (k_steps : Int32) (k_down : Nat → Int32) (k_written : Nat → Int32) (k_order : Nat → Int32) (g_size : Int32) (g_imagesUsed : Int32) (g_blocks : Nat → Int64) (g_revokes : Nat → Int64) (g_uses : Nat → Int32) (g_firstImages : Nat → Int32) (g_images : Nat → Int32) (x1 : Int64) (x3 : Int32) (k_underWay_i : Int32) (k_homesUnderWay_i : Int64) (k_on_i : Int32) (k_stepsLeft_i : Int32) (k_steps_i : Int32) (k_down_i : Nat → Int32) (k_written_i : Nat → Int32) (k_order_i : Nat → Int32) (g_size_i : Int32) (g_imagesUsed_i : Int32) (r_18 : Int32) (r_41 : Int32) (r_44 : Int32) (k_underWay_44 : Int32) (k_homesUnderWay_44 : Int64) (k_on_44 : Int32) (k_stepsLeft_44 : Int32) (k_steps_44 : Int32) (k_written_44 : Nat → Int32) (k_order_44 : Nat → Int32) (hpre : pr_bringLogHome (j_ringBlocks, j_running, j_revoked, j_now) (k_underWay, k_homesUnderWay, k_on, k_stepsLeft, k_steps, k_down, k_written, k_order) (g_size, g_imagesUsed, g_blocks, g_revokes, g_uses, g_firstImages, g_images)) (hinv : iv_bringLogHome_10 (j_ringBlocks, j_running, j_revoked, j_now) (k_underWay, k_homesUnderWay, k_on, k_stepsLeft, k_steps, k_down, k_written, k_order) (g_size, g_imagesUsed, g_blocks, g_revokes, g_uses, g_firstImages, g_images) x1 x3 (j_ringBlocks, j_running, j_revoked, j_now) (k_underWay_i, k_homesUnderWay_i, k_on_i, k_stepsLeft_i, k_steps_i, k_down_i, k_written_i, k_order_i) (g_size_i, g_imagesUsed_i, g_blocks, g_revokes, g_uses, g_firstImages, g_images)) (c_13 : ¬ 64 ≤ x3) (w_18 : po_holds x1 x3 r_18) (c_21 : ¬ r_18 = 0) (w_41 : po_Log_latestImage x3 (g_size_i, g_imagesUsed_i, g_blocks, g_revokes, g_uses, g_firstImages, g_images) r_41) (w_44 : po_Disk_writeHome x3 r_41 51200 (k_underWay_i, k_homesUnderWay_i, k_on_i, k_stepsLeft_i, k_steps_i, k_down_i, k_written_i, k_order_i) g_images r_44 (k_underWay_44, k_homesUnderWay_44, k_on_44, k_stepsLeft_44, k_steps_44, k_down_i, k_written_44, k_order_44) g_images) (c_47 : r_44 = 0) : po_bringLogHome (j_ringBlocks, j_running, j_revoked, j_now) (k_underWay, k_homesUnderWay, k_on, k_stepsLeft, k_steps, k_down, k_written, k_order) (g_size, g_imagesUsed, g_blocks, g_revokes, g_uses, g_firstImages, g_images) (-1) (j_ringBlocks, j_running, j_revoked, j_now) (k_underWay_44, k_homesUnderWay_44, k_on_44, k_stepsLeft_44, k_steps_44, k_down_i, k_written_44, k_order_44) (g_size_i, g_imagesUsed_i, g_blocks, g_revokes, g_uses, g_firstImages, g_images) := by
  intro d g hd hw hn hg ho
  obtain ⟨ex, b, hb, rfl, h⟩ := hinv
  have hb2 : ¬ 64 ≤ b := fun z => c_13 (nI_le (a := 64) z (by omega))
  have ht : bitt x1 b = true := by
    cases z : bitt x1 b
    · exact absurd (Eq.trans w_18 (it0.mpr ((bt_holds _ (by omega)).mpr z))) c_21
    · rfl
  obtain ⟨e1, d2, h2, h3, h4, h5⟩ := h d g hd hw hn hg ho
  rw [e1] at ht
  obtain ⟨t, t1, t2, t3⟩ := ly_la (blk := g.2.1) (rvk := g.2.2.1) (by omega) g.1 ht
  have w := w_41 g b t (by rw [ex]; exact hg) ho rfl (by omega) t2
  have l := late_le ho (by omega) t2 t1 t3
  have ei : g_images = g.2.2.2.2.2 := hg.2.2.2
  have hl := hs_len64 h5
  obtain ⟨a, q⟩ := w_44 d2 b (sLate g b) h3 (by omega) rfl (by omega) w l (by decide)
  rw [ei] at a q
  have z := b2i_0.mp (a.symm.trans c_47)
  rw [show 64 - b = (64 - (b + 1)) + 1 by omega, clr_f ht z] at h2
  rw [clear_f h2]
  exact ⟨rfl, q, by rw [ex]; exact hg⟩
theorem vc_bringLogHome_4_0 (j_ringBlocks : Int32) (j_running : Int64) (j_revoked : Int64) (j_now : Nat → Int32) (k_underWay : Int32) (k_homesUnderWay : Int64) (k_on : Int32) (k_stepsLeft : Int32) (k_steps : Int32) (k_down : Nat → Int32) (k_written : Nat → Int32) (k_order : Nat → Int32) (g_size : Int32) (g_imagesUsed : Int32) (g_blocks : Nat → Int64) (g_revokes : Nat → Int64) (g_uses : Nat → Int32) (g_firstImages : Nat → Int32) (g_images : Nat → Int32) (hpre : pr_bringLogHome (j_ringBlocks, j_running, j_revoked, j_now) (k_underWay, k_homesUnderWay, k_on, k_stepsLeft, k_steps, k_down, k_written, k_order) (g_size, g_imagesUsed, g_blocks, g_revokes, g_uses, g_firstImages, g_images)) : pr_Log_lying (g_size, g_imagesUsed, g_blocks, g_revokes, g_uses, g_firstImages, g_images) := by
  obtain ⟨d, g, hd, hw, hn, hg, ho⟩ := hpre
  exact ⟨g, hg, ho⟩
theorem vc_bringLogHome_9_0 (j_ringBlocks : Int32) (j_running : Int64) (j_revoked : Int64) (j_now : Nat → Int32) (k_underWay : Int32) (k_homesUnderWay : Int64) (k_on : Int32) (k_stepsLeft : Int32) (k_steps : Int32) (k_down : Nat → Int32) (k_written : Nat → Int32) (k_order : Nat → Int32) (g_size : Int32) (g_imagesUsed : Int32) (g_blocks : Nat → Int64) (g_revokes : Nat → Int64) (g_uses : Nat → Int32) (g_firstImages : Nat → Int32) (g_images : Nat → Int32) (r_4 : Int64) (hpre : pr_bringLogHome (j_ringBlocks, j_running, j_revoked, j_now) (k_underWay, k_homesUnderWay, k_on, k_stepsLeft, k_steps, k_down, k_written, k_order) (g_size, g_imagesUsed, g_blocks, g_revokes, g_uses, g_firstImages, g_images)) (w_4 : po_Log_lying (g_size, g_imagesUsed, g_blocks, g_revokes, g_uses, g_firstImages, g_images) r_4) : iv_bringLogHome_10 (j_ringBlocks, j_running, j_revoked, j_now) (k_underWay, k_homesUnderWay, k_on, k_stepsLeft, k_steps, k_down, k_written, k_order) (g_size, g_imagesUsed, g_blocks, g_revokes, g_uses, g_firstImages, g_images) r_4 0 (j_ringBlocks, j_running, j_revoked, j_now) (k_underWay, k_homesUnderWay, k_on, k_stepsLeft, k_steps, k_down, k_written, k_order) (g_size, g_imagesUsed, g_blocks, g_revokes, g_uses, g_firstImages, g_images) ∧ True := by
  refine ⟨⟨rfl, 0, by omega, rfl, fun d g hd hw hn hg ho => ⟨w_4 g hg ho, d, rfl, hd, hw, by rw [hn]; exact hs_nil⟩⟩, trivial⟩
