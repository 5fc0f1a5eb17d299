/-! what clearing, replay and mounting keep -/
theorem okG_empty {g : Lg} (h : okG g) : okG (0, g.2) := by
  obtain ⟨n, blk, rvk, use, fst, im⟩ := g
  obtain ⟨ring, ⟨h1, h2, h3, h4⟩, h5⟩ := h
  exact ⟨ring, ⟨h1, fun t ht => absurd ht (Nat.not_lt_zero _), Nat.zero_le _, h4⟩, h5⟩
theorem end_wf {d : Dk} {g : Lg} (h : DW d) : DW (sEnd d g).2.1 ∧ ((sEnd d g).1 = true → (sEnd d g).2.1.1 = [] ∧ (sEnd d g).2.2 = (0, g.2)) ∧ ((sEnd d g).1 = false → (sEnd d g).2.2 = g) := by
  have k1 := DW_bar h
  cases z1 : (sBar d).1
  · rw [end_f1 z1]
    exact ⟨k1, fun q => (nomatch q), fun _ => rfl⟩
  · have l : (sBar d).2.1.length < 200 := by rw [bar_nil z1]; decide
    have k2 := DW_ring (k := 66) k1 l (by decide)
    cases z2 : (sRing 66 (sBar d).2).1
    · rw [end_f2 z1 z2]
      exact ⟨k2, fun q => (nomatch q), fun _ => rfl⟩
    · have k3 := DW_bar k2
      rw [end_3 z1 z2]
      cases z3 : (sBar (sRing 66 (sBar d).2).2).1
      · exact ⟨k3, fun q => (nomatch q), fun _ => rfl⟩
      · exact ⟨k3, fun _ => ⟨bar_nil z3, rfl⟩, fun q => by cases q⟩
theorem clrN_wf {g : Lg} (hf : sb_Fit g.2.2.2.2.2) (ly : Int64) : ∀ (k b : Nat) (d : Dk), b + k ≤ 64 → DW d → hs d.1 → DW (sClrN g ly b k d).2 ∧ hs (sClrN g ly b k d).2.1 := by
  intro k
  induction k with
  | zero => intro b d _ h1 h2; exact ⟨h1, h2⟩
  | succ k ih =>
    intro b d hb h1 h2
    cases e : bitt ly b
    · rw [clr_s e]; exact ih (b + 1) d (by omega) h1 h2
    · have k1 := DW_home (b := b) (sp := sLate g b) h1 h2 (by omega) hf
      cases z : (sHome b g.2.2.2.2.2 (sLate g b) d).1
      · rw [clr_f e z]; exact k1
      · rw [clr_t e z]; exact ih (b + 1) _ (by omega) k1.1 k1.2
theorem clear_wf {d : Dk} {g : Lg} (h : DW d) (hn : d.1 = []) (o : okG g) : DW (sClear d g).2.1 ∧ ((sClear d g).1 = true → (sClear d g).2.1.1 = [] ∧ (sClear d g).2.2 = (0, g.2)) ∧ ((sClear d g).1 = false → (sClear d g).2.2 = g) := by
  have k := clrN_wf (okG_n (n := g.1) o).2.2.2 (sLying g) 64 0 d (by decide) h (by rw [hn]; exact hs_nil)
  cases z : (sClrN g (sLying g) 0 64 d).1
  · have e : sClrN g (sLying g) 0 64 d = (false, (sClrN g (sLying g) 0 64 d).2) := Prod.ext z rfl
    rw [clear_f e]
    exact ⟨k.1, fun q => (nomatch q), fun _ => rfl⟩
  · have e : sClrN g (sLying g) 0 64 d = (true, (sClrN g (sLying g) 0 64 d).2) := Prod.ext z rfl
    rw [clear_t e]
    exact end_wf k.1
theorem repB_wf {g : Lg} (hf : sb_Fit g.2.2.2.2.2) (t : Nat) (lv : Int64) : ∀ (k b : Nat) (n : Int32) (d : Dk), b + k ≤ 64 → DW d → hs d.1 → DW (sRepB g t lv b k n d).2.2 ∧ hs (sRepB g t lv b k n d).2.2.1 := by
  intro k
  induction k with
  | zero => intro b n d _ h1 h2; exact ⟨h1, h2⟩
  | succ k ih =>
    intro b n d hb h1 h2
    cases e : bitt lv b
    · rw [rep_s e]; exact ih (b + 1) n d (by omega) h1 h2
    · have k1 := DW_home (b := b) (sp := sImg g t b) h1 h2 (by omega) hf
      cases z : (sHome b g.2.2.2.2.2 (sImg g t b) d).1
      · rw [rep_f e z]; exact k1
      · rw [rep_t e z]; exact ih (b + 1) _ _ (by omega) k1.1 k1.2
theorem repT_wf {g : Lg} (hf : sb_Fit g.2.2.2.2.2) : ∀ (k t : Nat) (n : Int32) (d : Dk), DW d → hs d.1 → DW (sRepT g t k n d).2.2 ∧ hs (sRepT g t k n d).2.2.1 := by
  intro k
  induction k with
  | zero => intro t n d h1 h2; exact ⟨h1, h2⟩
  | succ k ih =>
    intro t n d h1 h2
    rw [repT_s]
    have k1 := repB_wf hf t (sLiving g t) 64 0 n d (by decide) h1 h2
    generalize sRepB g t (sLiving g t) 0 64 n d = p at k1 ⊢
    obtain ⟨b, m, z⟩ := p
    cases b
    · exact k1
    · exact ih (t + 1) m z k1.1 k1.2
theorem replay_wf {d : Dk} {g : Lg} (h : DW d) (hn : d.1 = []) (o : okG g) : DW (sReplay d g).2.1 := by
  have k := repT_wf (okG_n (n := g.1) o).2.2.2 g.1 0 0 d h (by rw [hn]; exact hs_nil)
  cases z : (sRepT g 0 g.1 0 d).1
  · have e : sRepT g 0 g.1 0 d = (false, (sRepT g 0 g.1 0 d).2.1, (sRepT g 0 g.1 0 d).2.2) := Prod.ext z rfl
    rw [rpl_f e]; exact k.1
  · have e : sRepT g 0 g.1 0 d = (true, (sRepT g 0 g.1 0 d).2.1, (sRepT g 0 g.1 0 d).2.2) := Prod.ext z rfl
    rw [rpl_t e]; exact (end_wf k.1).1
theorem logM_wf {bits : Int64} {u : List Nat} {g : Lg} (h : okG g) : okG (sLogMount bits u g) := by
  have h1 : okG (g1M bits u g) := by
    unfold g1M
    split
    · exact okG_drop h
    · exact h
  rw [lm_e]
  split
  · exact okG_empty h1
  · exact h1
theorem settle_wf {bits : Int64} {u : List Nat} {on : Bool} {fu st : Int32} {ba ho : Nat → Int32} (h1 : sb_Fit ba) (h2 : sb_Fit ho) : DW (sSettle bits (u, on, fu, st, ba, ho)) := by
  refine ⟨Nat.zero_le _, fun k hk => (nomatch hk), fun j => ?_, fun j => fit_sByte h1 h2 j⟩
  show fits .byte (.int (sByteB u bits ba ho j)) = true
  unfold sByteB
  split
  · exact fit_sByte h1 h2 j
  · exact h1 j
/-! direct, commit -/
def dGo (ring : Nat) (run rev : Int64) (now1 : Nat → Int32) (q : Nat) (d : Dk) (g : Lg) : Int32 × Sp := match sBar d with
  | (false, d) => (-1, (ring, run, rev, now1, d, g))
  | (true, d) => match sHome q now1 (q * 256) d with
    | (false, d) => (-1, (ring, run, rev, now1, d, g))
    | (true, d) => match sBar d with
      | (false, d) => (-1, (ring, run, rev, now1, d, g))
      | (true, d) => (0, (ring, run, rev, now1, d, g))
section FD
variable {ring : Nat} {run rev : Int64} {now now1 : Nat → Int32} {d : Dk} {g : Lg} {q : Nat}
theorem dg_1 (h : (sBar d).1 = false) : dGo ring run rev now1 q d g = (-1, (ring, run, rev, now1, (sBar d).2, g)) := by
  unfold dGo
  generalize sBar d = p at h ⊢
  obtain ⟨b, z⟩ := p
  have h : b = false := h
  subst h; rfl
theorem dg_2 (h : (sBar d).1 = true) (h2 : (sHome q now1 (q * 256) (sBar d).2).1 = false) : dGo ring run rev now1 q d g = (-1, (ring, run, rev, now1, (sHome q now1 (q * 256) (sBar d).2).2, g)) := by
  unfold dGo
  generalize sBar d = p at h h2 ⊢
  obtain ⟨b, z⟩ := p
  have h : b = true := h
  subst h
  show (match sHome q now1 (q * 256) z with
    | (false, d) => (-1, (ring, run, rev, now1, d, g))
    | (true, d) => match sBar d with
      | (false, d) => (-1, (ring, run, rev, now1, d, g))
      | (true, d) => (0, (ring, run, rev, now1, d, g))) = ((-1 : Int32), ((ring, run, rev, now1, (sHome q now1 (q * 256) z).2, g) : Sp))
  have h2 : (sHome q now1 (q * 256) z).1 = false := h2
  generalize sHome q now1 (q * 256) z = p at h2 ⊢
  obtain ⟨b, z⟩ := p
  have h2 : b = false := h2
  subst h2; rfl
theorem dg_3 (h : (sBar d).1 = true) (h2 : (sHome q now1 (q * 256) (sBar d).2).1 = true) : dGo ring run rev now1 q d g = ((if (sBar (sHome q now1 (q * 256) (sBar d).2).2).1 then 0 else -1), (ring, run, rev, now1, (sBar (sHome q now1 (q * 256) (sBar d).2).2).2, g)) := by
  unfold dGo
  generalize sBar d = p at h h2 ⊢
  obtain ⟨b, z⟩ := p
  have h : b = true := h
  subst h
  show (match sHome q now1 (q * 256) z with
    | (false, d) => (-1, (ring, run, rev, now1, d, g))
    | (true, d) => match sBar d with
      | (false, d) => (-1, (ring, run, rev, now1, d, g))
      | (true, d) => (0, (ring, run, rev, now1, d, g))) = ((if (sBar (sHome q now1 (q * 256) z).2).1 then 0 else (-1 : Int32)), ((ring, run, rev, now1, (sBar (sHome q now1 (q * 256) z).2).2, g) : Sp))
  have h2 : (sHome q now1 (q * 256) z).1 = true := h2
  generalize sHome q now1 (q * 256) z = p at h2 ⊢
  obtain ⟨b, z⟩ := p
  have h2 : b = true := h2
  subst h2
  show (match sBar z with
      | (false, d) => (-1, (ring, run, rev, now1, d, g))
      | (true, d) => (0, (ring, run, rev, now1, d, g))) = ((if (sBar z).1 then 0 else (-1 : Int32)), ((ring, run, rev, now1, (sBar z).2, g) : Sp))
  generalize sBar z = p
  obtain ⟨b, z⟩ := p
  cases b <;> rfl
theorem fD_off {b v : Int32} (h : d.2.1 = false) : fDirect b v (ring, run, rev, now, d, g) = (-1, (ring, run, rev, now, d, g)) := if_pos h
theorem fD_bad {b v : Int32} (h : d.2.1 = true) (c : b < 0 ∨ 64 ≤ b ∨ v < 0 ∨ 255 < v) : fDirect b v (ring, run, rev, now, d, g) = (-2, (ring, run, rev, now, d, g)) := (if_neg (on_tf h)).trans (if_pos c)
theorem fD_busy {b v : Int32} (h : d.2.1 = true) (c : ¬ (b < 0 ∨ 64 ≤ b ∨ v < 0 ∨ 255 < v)) (y : bitt ((run ||| rev) ||| sLying g) b.toNatClampNeg = true) : fDirect b v (ring, run, rev, now, d, g) = (-2, (ring, run, rev, now, d, g)) := (if_neg (on_tf h)).trans ((if_neg c).trans (if_pos y))
theorem fD_go {b v : Int32} (h : d.2.1 = true) (c : ¬ (b < 0 ∨ 64 ≤ b ∨ v < 0 ∨ 255 < v)) (y : ¬ bitt ((run ||| rev) ||| sLying g) b.toNatClampNeg = true) : fDirect b v (ring, run, rev, now, d, g) = dGo ring run rev (fillF now (b.toNatClampNeg * 256) 256 v.toInt8.toInt32) b.toNatClampNeg d g := (if_neg (on_tf h)).trans ((if_neg c).trans (if_neg y))
end FD
def cGo (ring : Nat) (run rev : Int64) (now : Nat → Int32) (d : Dk) (g : Lg) : Int32 × Sp := match sTrans (sUse run rev) run rev now d g with
  | (false, d, g, run, rev) => (-1, (ring, run, rev, now, d, g))
  | (true, d, g, run2, rev2) => (nI (sUse run rev), (ring, run2, rev2, now, d, g))
section FC
variable {ring : Nat} {run rev : Int64} {now : Nat → Int32} {d : Dk} {g : Lg}
theorem cg_e {T : Bool × Dk × Lg × Int64 × Int64} (h : sTrans (sUse run rev) run rev now d g = T) : cGo ring run rev now d g = ((if T.1 then nI (sUse run rev) else -1), (ring, T.2.2.2.1, T.2.2.2.2, now, T.2.1, T.2.2.1)) := by
  unfold cGo
  rw [h]
  obtain ⟨b, d2, g2, r1, r2⟩ := T
  cases b <;> rfl
theorem fC_off (h : d.2.1 = false) : fCommit (ring, run, rev, now, d, g) = (-1, (ring, run, rev, now, d, g)) := if_pos h
theorem fC_none (h : d.2.1 = true) (c : run ||| rev = 0) : fCommit (ring, run, rev, now, d, g) = (0, (ring, run, rev, now, d, g)) := (if_neg (on_tf h)).trans (if_pos c)
theorem fC_go1 (h : d.2.1 = true) (c : ¬ run ||| rev = 0) (r : ¬ ring - 1 < sUsed g + sUse run rev) : fCommit (ring, run, rev, now, d, g) = cGo ring run rev now d g := by
  refine (if_neg (on_tf h)).trans ((if_neg c).trans ?_)
  rw [if_neg r]
  rfl
theorem fC_go2 (h : d.2.1 = true) (c : ¬ run ||| rev = 0) (r : ring - 1 < sUsed g + sUse run rev) : fCommit (ring, run, rev, now, d, g) = if (sClear d g).1 then cGo ring run rev now (sClear d g).2.1 (sClear d g).2.2 else (-1, (ring, run, rev, now, (sClear d g).2.1, (sClear d g).2.2)) := by
  refine (if_neg (on_tf h)).trans ((if_neg c).trans ?_)
  rw [if_pos r]
  generalize sClear d g = p
  obtain ⟨b, z⟩ := p
  cases b <;> rfl
theorem fCl_off (h : d.2.1 = false) : fClear (ring, run, rev, now, d, g) = (-1, (ring, run, rev, now, d, g)) := if_pos h
theorem fCl_none (h : d.2.1 = true) (c : g.1 = 0) : fClear (ring, run, rev, now, d, g) = (0, (ring, run, rev, now, d, g)) := (if_neg (on_tf h)).trans (if_pos c)
theorem fCl_go (h : d.2.1 = true) (c : ¬ g.1 = 0) : fClear (ring, run, rev, now, d, g) = ((if (sClear d g).1 then nI (cnt (sLying g)) else -1), (ring, run, rev, now, (sClear d g).2.1, (sClear d g).2.2)) := by
  refine (if_neg (on_tf h)).trans ((if_neg c).trans ?_)
  generalize sClear d g = p
  obtain ⟨b, z⟩ := p
  cases b <;> rfl
theorem use_le (h : cnt run ≤ 30) : 1 ≤ sUse run rev ∧ sUse run rev ≤ 34 ∧ cnt run + 1 ≤ sUse run rev := by
  unfold sUse
  split <;> omega
theorem use_ge2 (h : ¬ run ||| rev = 0) : 2 ≤ sUse run rev := by
  have hc : ¬ (cnt run = 0 ∧ rev = 0) := fun z => h (by rw [cnt_zero.mp z.1, z.2]; decide)
  unfold sUse
  split
  · rename_i q
    have : ¬ cnt run = 0 := fun z => hc ⟨z, q⟩
    omega
  · omega
theorem fst_used {n : Nat} {blk rvk : Nat → Int64} {use fst : Nat → Nat} {im : Nat → Int32} {R : Nat} (h : LW R (n, blk, rvk, use, fst, im)) : fst n ≤ sumN use n := by
  obtain ⟨h1, h2, h3, h4⟩ := h
  have b := sum_fst h1 n (fun t ht => ⟨(h2 t ht).1, (h2 t ht).2.1⟩)
  omega
end FC

theorem vc_direct_13_0 (a_b : Int32) (a_v : Int32) (j_ringBlocks : Int32) (j_running : Int64) (j_revoked : Int64) (j_now : Nat → Int32) (k_underWay : Int32) (k_homesUnderWay : Int64) (k_on : Int32) (k_stepsLeft : Int32) (k_steps : Int32) (k_down : Nat → Int32) (k_written : Nat → Int32) (k_order : Nat → Int32) (g_size : Int32) (g_imagesUsed : Int32) (g_blocks : Nat → Int64) (g_revokes : Nat → Int64) (g_uses : Nat → Int32) (g_firstImages : Nat → Int32) (g_images : Nat → Int32) (hpre : pr_direct a_b a_v (j_ringBlocks, j_running, j_revoked, j_now) (k_underWay, k_homesUnderWay, k_on, k_stepsLeft, k_steps, k_down, k_written, k_order) (g_size, g_imagesUsed, g_blocks, g_revokes, g_uses, g_firstImages, g_images)) (c_7 : ¬ k_on = 0) : pr_isHome a_b := by
  trivial
theorem vc_direct_28_0 (a_b : Int32) (a_v : Int32) (j_ringBlocks : Int32) (j_running : Int64) (j_revoked : Int64) (j_now : Nat → Int32) (k_underWay : Int32) (k_homesUnderWay : Int64) (k_on : Int32) (k_stepsLeft : Int32) (k_steps : Int32) (k_down : Nat → Int32) (k_written : Nat → Int32) (k_order : Nat → Int32) (g_size : Int32) (g_imagesUsed : Int32) (g_blocks : Nat → Int64) (g_revokes : Nat → Int64) (g_uses : Nat → Int32) (g_firstImages : Nat → Int32) (g_images : Nat → Int32) (r_13 : Int32) (hpre : pr_direct a_b a_v (j_ringBlocks, j_running, j_revoked, j_now) (k_underWay, k_homesUnderWay, k_on, k_stepsLeft, k_steps, k_down, k_written, k_order) (g_size, g_imagesUsed, g_blocks, g_revokes, g_uses, g_firstImages, g_images)) (c_7 : ¬ k_on = 0) (w_13 : po_isHome a_b r_13) (c_16 : r_13 = 0) : po_direct a_b a_v (j_ringBlocks, j_running, j_revoked, j_now) (k_underWay, k_homesUnderWay, k_on, k_stepsLeft, k_steps, k_down, k_written, k_order) (g_size, g_imagesUsed, g_blocks, g_revokes, g_uses, g_firstImages, g_images) (-2) (j_ringBlocks, j_running, j_revoked, j_now) (k_underWay, k_homesUnderWay, k_on, k_stepsLeft, k_steps, k_down, k_written, k_order) (g_size, g_imagesUsed, g_blocks, g_revokes, g_uses, g_firstImages, g_images) := by
  intro σ hr hs
  obtain ⟨ring, run, rev, now, d, g⟩ := σ
  obtain ⟨e1, e2, e3, e4, hd1, hg⟩ := id hr
  obtain ⟨s1, s2, s3, s4⟩ := SW_wf hs
  have h := it0.mp (Eq.trans (Eq.symm w_13) c_16)
  rw [fD_bad (on_t hd1 c_7) (h.elim Or.inl (fun y => Or.inr (Or.inl y)))]
  exact ⟨rfl, hr⟩
theorem vc_direct_20_0 (a_b : Int32) (a_v : Int32) (j_ringBlocks : Int32) (j_running : Int64) (j_revoked : Int64) (j_now : Nat → Int32) (k_underWay : Int32) (k_homesUnderWay : Int64) (k_on : Int32) (k_stepsLeft : Int32) (k_steps : Int32) (k_down : Nat → Int32) (k_written : Nat → Int32) (k_order : Nat → Int32) (g_size : Int32) (g_imagesUsed : Int32) (g_blocks : Nat → Int64) (g_revokes : Nat → Int64) (g_uses : Nat → Int32) (g_firstImages : Nat → Int32) (g_images : Nat → Int32) (r_13 : Int32) (hpre : pr_direct a_b a_v (j_ringBlocks, j_running, j_revoked, j_now) (k_underWay, k_homesUnderWay, k_on, k_stepsLeft, k_steps, k_down, k_written, k_order) (g_size, g_imagesUsed, g_blocks, g_revokes, g_uses, g_firstImages, g_images)) (c_7 : ¬ k_on = 0) (w_13 : po_isHome a_b r_13) (c_16 : ¬ r_13 = 0) : pr_isValue a_v := by
  trivial
theorem vc_direct_42_0 (a_b : Int32) (a_v : Int32) (j_ringBlocks : Int32) (j_running : Int64) (j_revoked : Int64) (j_now : Nat → Int32) (k_underWay : Int32) (k_homesUnderWay : Int64) (k_on : Int32) (k_stepsLeft : Int32) (k_steps : Int32) (k_down : Nat → Int32) (k_written : Nat → Int32) (k_order : Nat → Int32) (g_size : Int32) (g_imagesUsed : Int32) (g_blocks : Nat → Int64) (g_revokes : Nat → Int64) (g_uses : Nat → Int32) (g_firstImages : Nat → Int32) (g_images : Nat → Int32) (r_13 : Int32) (r_20 : Int32) (hpre : pr_direct a_b a_v (j_ringBlocks, j_running, j_revoked, j_now) (k_underWay, k_homesUnderWay, k_on, k_stepsLeft, k_steps, k_down, k_written, k_order) (g_size, g_imagesUsed, g_blocks, g_revokes, g_uses, g_firstImages, g_images)) (c_7 : ¬ k_on = 0) (w_13 : po_isHome a_b r_13) (c_16 : ¬ r_13 = 0) (w_20 : po_isValue a_v r_20) (c_23 : ¬ r_20 = 0) : pr_Log_lying (g_size, g_imagesUsed, g_blocks, g_revokes, g_uses, g_firstImages, g_images) := by
  obtain ⟨d, g, hd1, hw, hg, ho, hh, hn, hf⟩ := okS_wf hpre
  exact ⟨g, hg, ho⟩
theorem vc_direct_47_0 (a_b : Int32) (a_v : Int32) (j_ringBlocks : Int32) (j_running : Int64) (j_revoked : Int64) (j_now : Nat → Int32) (k_underWay : Int32) (k_homesUnderWay : Int64) (k_on : Int32) (k_stepsLeft : Int32) (k_steps : Int32) (k_down : Nat → Int32) (k_written : Nat → Int32) (k_order : Nat → Int32) (g_size : Int32) (g_imagesUsed : Int32) (g_blocks : Nat → Int64) (g_revokes : Nat → Int64) (g_uses : Nat → Int32) (g_firstImages : Nat → Int32) (g_images : Nat → Int32) (r_13 : Int32) (r_20 : Int32) (r_42 : Int64) (hpre : pr_direct a_b a_v (j_ringBlocks, j_running, j_revoked, j_now) (k_underWay, k_homesUnderWay, k_on, k_stepsLeft, k_steps, k_down, k_written, k_order) (g_size, g_imagesUsed, g_blocks, g_revokes, g_uses, g_firstImages, g_images)) (c_7 : ¬ k_on = 0) (w_13 : po_isHome a_b r_13) (c_16 : ¬ r_13 = 0) (w_20 : po_isValue a_v r_20) (c_23 : ¬ r_20 = 0) (w_42 : po_Log_lying (g_size, g_imagesUsed, g_blocks, g_revokes, g_uses, g_firstImages, g_images) r_42) : pr_holds ((j_running ||| j_revoked) ||| r_42) a_b := by
  trivial
theorem vc_direct_74_0 (a_b : Int32) (a_v : Int32) (j_ringBlocks : Int32) (j_running : Int64) (j_revoked : Int64) (j_now : Nat → Int32) (k_underWay : Int32) (k_homesUnderWay : Int64) (k_on : Int32) (k_stepsLeft : Int32) (k_steps : Int32) (k_down : Nat → Int32) (k_written : Nat → Int32) (k_order : Nat → Int32) (g_size : Int32) (g_imagesUsed : Int32) (g_blocks : Nat → Int64) (g_revokes : Nat → Int64) (g_uses : Nat → Int32) (g_firstImages : Nat → Int32) (g_images : Nat → Int32) (r_13 : Int32) (r_20 : Int32) (r_42 : Int64) (r_47 : Int32) (hpre : pr_direct a_b a_v (j_ringBlocks, j_running, j_revoked, j_now) (k_underWay, k_homesUnderWay, k_on, k_stepsLeft, k_steps, k_down, k_written, k_order) (g_size, g_imagesUsed, g_blocks, g_revokes, g_uses, g_firstImages, g_images)) (c_7 : ¬ k_on = 0) (w_13 : po_isHome a_b r_13) (c_16 : ¬ r_13 = 0) (w_20 : po_isValue a_v r_20) (c_23 : ¬ r_20 = 0) (w_42 : po_Log_lying (g_size, g_imagesUsed, g_blocks, g_revokes, g_uses, g_firstImages, g_images) r_42) (w_47 : po_holds ((j_running ||| j_revoked) ||| r_42) a_b r_47) (c_50 : r_47 = 0) : pr_fillR (a_b * 256) ((a_b + 1) * 256) ((Int32.toInt8 a_v).toInt32) 16384 j_now := by
  obtain ⟨q, hq, rfl, hnb⟩ := isHome_of w_13 c_16
  have f1 : nI q * 256 = nI (q * 256) := pk_mul q 256
  have f2 : (nI q + 1) * 256 = nI ((q + 1) * 256) := by rw [nI_1]; exact pk_mul (q + 1) 256
  rw [f1, f2]
  exact ⟨_, _, rfl, rfl, by omega, by omega, by decide⟩
theorem vc_direct_81_0 (a_b : Int32) (a_v : Int32) (j_ringBlocks : Int32) (j_running : Int64) (j_revoked : Int64) (j_now : Nat → Int32) (k_underWay : Int32) (k_homesUnderWay : Int64) (k_on : Int32) (k_stepsLeft : Int32) (k_steps : Int32) (k_down : Nat → Int32) (k_written : Nat → Int32) (k_order : Nat → Int32) (g_size : Int32) (g_imagesUsed : Int32) (g_blocks : Nat → Int64) (g_revokes : Nat → Int64) (g_uses : Nat → Int32) (g_firstImages : Nat → Int32) (g_images : Nat → Int32) (r_13 : Int32) (r_20 : Int32) (r_42 : Int64) (r_47 : Int32) (ar_74 : Nat → Int32) (hpre : pr_direct a_b a_v (j_ringBlocks, j_running, j_revoked, j_now) (k_underWay, k_homesUnderWay, k_on, k_stepsLeft, k_steps, k_down, k_written, k_order) (g_size, g_imagesUsed, g_blocks, g_revokes, g_uses, g_firstImages, g_images)) (c_7 : ¬ k_on = 0) (w_13 : po_isHome a_b r_13) (c_16 : ¬ r_13 = 0) (w_20 : po_isValue a_v r_20) (c_23 : ¬ r_20 = 0) (w_42 : po_Log_lying (g_size, g_imagesUsed, g_blocks, g_revokes, g_uses, g_firstImages, g_images) r_42) (w_47 : po_holds ((j_running ||| j_revoked) ||| r_42) a_b r_47) (c_50 : r_47 = 0) (w_74 : po_fillR (a_b * 256) ((a_b + 1) * 256) ((Int32.toInt8 a_v).toInt32) 16384 j_now ar_74) : pr_Disk_barrier (k_underWay, k_homesUnderWay, k_on, k_stepsLeft, k_steps, k_down, k_written, k_order) := by
  obtain ⟨d, g, hd1, hw, hg, ho, hh, hn, hf⟩ := okS_wf hpre
  exact ⟨d, hd1, hw⟩
theorem vc_direct_120_0 (a_b : Int32) (a_v : Int32) (j_ringBlocks : Int32) (j_running : Int64) (j_revoked : Int64) (j_now : Nat → Int32) (k_underWay : Int32) (k_homesUnderWay : Int64) (k_on : Int32) (k_stepsLeft : Int32) (k_steps : Int32) (k_down : Nat → Int32) (k_written : Nat → Int32) (k_order : Nat → Int32) (g_size : Int32) (g_imagesUsed : Int32) (g_blocks : Nat → Int64) (g_revokes : Nat → Int64) (g_uses : Nat → Int32) (g_firstImages : Nat → Int32) (g_images : Nat → Int32) (r_13 : Int32) (r_20 : Int32) (r_42 : Int64) (r_47 : Int32) (ar_74 : Nat → Int32) (r_81 : Int32) (k_underWay_81 : Int32) (k_homesUnderWay_81 : Int64) (k_on_81 : Int32) (k_stepsLeft_81 : Int32) (k_steps_81 : Int32) (k_down_81 : Nat → Int32) (hpre : pr_direct a_b a_v (j_ringBlocks, j_running, j_revoked, j_now) (k_underWay, k_homesUnderWay, k_on, k_stepsLeft, k_steps, k_down, k_written, k_order) (g_size, g_imagesUsed, g_blocks, g_revokes, g_uses, g_firstImages, g_images)) (c_7 : ¬ k_on = 0) (w_13 : po_isHome a_b r_13) (c_16 : ¬ r_13 = 0) (w_20 : po_isValue a_v r_20) (c_23 : ¬ r_20 = 0) (w_42 : po_Log_lying (g_size, g_imagesUsed, g_blocks, g_revokes, g_uses, g_firstImages, g_images) r_42) (w_47 : po_holds ((j_running ||| j_revoked) ||| r_42) a_b r_47) (c_50 : r_47 = 0) (w_74 : po_fillR (a_b * 256) ((a_b + 1) * 256) ((Int32.toInt8 a_v).toInt32) 16384 j_now ar_74) (w_81 : po_Disk_barrier (k_underWay, k_homesUnderWay, k_on, k_stepsLeft, k_steps, k_down, k_written, k_order) r_81 (k_underWay_81, k_homesUnderWay_81, k_on_81, k_stepsLeft_81, k_steps_81, k_down_81, k_written, k_order)) (c_84 : r_81 = 0) : po_direct a_b a_v (j_ringBlocks, j_running, j_revoked, j_now) (k_underWay, k_homesUnderWay, k_on, k_stepsLeft, k_steps, k_down, k_written, k_order) (g_size, g_imagesUsed, g_blocks, g_revokes, g_uses, g_firstImages, g_images) (-1) (j_ringBlocks, j_running, j_revoked, ar_74) (k_underWay_81, k_homesUnderWay_81, k_on_81, k_stepsLeft_81, k_steps_81, k_down_81, k_written, k_order) (g_size, g_imagesUsed, g_blocks, g_revokes, g_uses, g_firstImages, g_images) := by
  intro σ hr hs
  obtain ⟨ring, run, rev, now, d, g⟩ := σ
  obtain ⟨e1, e2, e3, e4, hd1, hg⟩ := id hr
  obtain ⟨s1, s2, s3, s4⟩ := SW_wf hs
  obtain ⟨q, hq, rfl, hnb⟩ := isHome_of w_13 c_16
  have f1 : nI q * 256 = nI (q * 256) := pk_mul q 256
  have f2 : (nI q + 1) * 256 = nI ((q + 1) * 256) := by rw [nI_1]; exact pk_mul (q + 1) 256
  have hcl : (nI q).toNatClampNeg = q := nI_clamp (by omega)
  have wf := w_74 (q * 256) ((q + 1) * 256) f1 f2 (by omega) (by omega) (by decide)
  rw [pk_vb, show (q + 1) * 256 - q * 256 = 256 by omega] at wf
  have hv : ¬ (a_v < 0 ∨ 255 < a_v) := fun z => c_23 (Eq.trans w_20 (it0.mpr z))
  have hc : ¬ (nI q < 0 ∨ 64 ≤ nI q ∨ a_v < 0 ∨ 255 < a_v) := fun z => z.elim (fun y => hnb (Or.inl y)) (fun z => z.elim (fun y => hnb (Or.inr y)) hv)
  have wl : r_42 = sLying g := w_42 g hg s3
  have hbz : ¬ bitt ((run ||| rev) ||| sLying g) (nI q).toNatClampNeg = true := fun z => by
    have y := (bt_holds _ hq).mp (it0.mp (Eq.trans (Eq.symm w_47) c_50))
    rw [hcl] at z
    rw [e2, e3, wl, z] at y
    cases y
  rw [fD_go (on_t hd1 c_7) hc hbz, hcl]
  rw [e4] at wf
  obtain ⟨a1, b1⟩ := w_81 d hd1 s1
  have z1 := b2i_0.mp (a1.symm.trans c_84)
  rw [dg_1 z1]
  exact ⟨rfl, e1, e2, e3, wf, b1, hg⟩
theorem vc_direct_101_0 (a_b : Int32) (a_v : Int32) (j_ringBlocks : Int32) (j_running : Int64) (j_revoked : Int64) (j_now : Nat → Int32) (k_underWay : Int32) (k_homesUnderWay : Int64) (k_on : Int32) (k_stepsLeft : Int32) (k_steps : Int32) (k_down : Nat → Int32) (k_written : Nat → Int32) (k_order : Nat → Int32) (g_size : Int32) (g_imagesUsed : Int32) (g_blocks : Nat → Int64) (g_revokes : Nat → Int64) (g_uses : Nat → Int32) (g_firstImages : Nat → Int32) (g_images : Nat → Int32) (r_13 : Int32) (r_20 : Int32) (r_42 : Int64) (r_47 : Int32) (ar_74 : Nat → Int32) (r_81 : Int32) (k_underWay_81 : Int32) (k_homesUnderWay_81 : Int64) (k_on_81 : Int32) (k_stepsLeft_81 : Int32) (k_steps_81 : Int32) (k_down_81 : Nat → Int32) (hpre : pr_direct a_b a_v (j_ringBlocks, j_running, j_revoked, j_now) (k_underWay, k_homesUnderWay, k_on, k_stepsLeft, k_steps, k_down, k_written, k_order) (g_size, g_imagesUsed, g_blocks, g_revokes, g_uses, g_firstImages, g_images)) (c_7 : ¬ k_on = 0) (w_13 : po_isHome a_b r_13) (c_16 : ¬ r_13 = 0) (w_20 : po_isValue a_v r_20) (c_23 : ¬ r_20 = 0) (w_42 : po_Log_lying (g_size, g_imagesUsed, g_blocks, g_revokes, g_uses, g_firstImages, g_images) r_42) (w_47 : po_holds ((j_running ||| j_revoked) ||| r_42) a_b r_47) (c_50 : r_47 = 0) (w_74 : po_fillR (a_b * 256) ((a_b + 1) * 256) ((Int32.toInt8 a_v).toInt32) 16384 j_now ar_74) (w_81 : po_Disk_barrier (k_underWay, k_homesUnderWay, k_on, k_stepsLeft, k_steps, k_down, k_written, k_order) r_81 (k_underWay_81, k_homesUnderWay_81, k_on_81, k_stepsLeft_81, k_steps_81, k_down_81, k_written, k_order)) (c_84 : ¬ r_81 = 0) : pr_Disk_writeHome a_b (a_b * 256) 16384 (k_underWay_81, k_homesUnderWay_81, k_on_81, k_stepsLeft_81, k_steps_81, k_down_81, k_written, k_order) ar_74 := by
  obtain ⟨d, g, hd1, hw, hg, ho, hh, hn, hf⟩ := okS_wf hpre
  obtain ⟨q, hq, rfl, hnb⟩ := isHome_of w_13 c_16
  have f1 : nI q * 256 = nI (q * 256) := pk_mul q 256
  have f2 : (nI q + 1) * 256 = nI ((q + 1) * 256) := by rw [nI_1]; exact pk_mul (q + 1) 256
  have hcl : (nI q).toNatClampNeg = q := nI_clamp (by omega)
  have wf := w_74 (q * 256) ((q + 1) * 256) f1 f2 (by omega) (by omega) (by decide)
  rw [pk_vb, show (q + 1) * 256 - q * 256 = 256 by omega] at wf
  have hfit : sb_Fit ar_74 := by
    rw [wf]
    intro j
    unfold fillF
    split
    · exact pk_fb _
    · exact hf j
  obtain ⟨a1, b1⟩ := w_81 d hd1 hw
  have z1 := b2i_n0.mp (fun y => c_84 (a1.trans y))
  exact ⟨_, q, q * 256, b1, by rw [bar_nil z1]; decide, rfl, hq, f1, by omega, by decide, hfit⟩
theorem vc_direct_120_1 (a_b : Int32) (a_v : Int32) (j_ringBlocks : Int32) (j_running : Int64) (j_revoked : Int64) (j_now : Nat → Int32) (k_underWay : Int32) (k_homesUnderWay : Int64) (k_on : Int32) (k_stepsLeft : Int32) (k_steps : Int32) (k_down : Nat → Int32) (k_written : Nat → Int32) (k_order : Nat → Int32) (g_size : Int32) (g_imagesUsed : Int32) (g_blocks : Nat → Int64) (g_revokes : Nat → Int64) (g_uses : Nat → Int32) (g_firstImages : Nat → Int32) (g_images : Nat → Int32) (r_13 : Int32) (r_20 : Int32) (r_42 : Int64) (r_47 : Int32) (ar_74 : Nat → Int32) (r_81 : Int32) (k_underWay_81 : Int32) (k_homesUnderWay_81 : Int64) (k_on_81 : Int32) (k_stepsLeft_81 : Int32) (k_steps_81 : Int32) (k_down_81 : Nat → Int32) (r_101 : Int32) (k_underWay_101 : Int32) (k_homesUnderWay_101 : Int64) (k_on_101 : Int32) (k_stepsLeft_101 : Int32) (k_steps_101 : Int32) (k_written_101 : Nat → Int32) (k_order_101 : Nat → Int32) (hpre : pr_direct a_b a_v (j_ringBlocks, j_running, j_revoked, j_now) (k_underWay, k_homesUnderWay, k_on, k_stepsLeft, k_steps, k_down, k_written, k_order) (g_size, g_imagesUsed, g_blocks, g_revokes, g_uses, g_firstImages, g_images)) (c_7 : ¬ k_on = 0) (w_13 : po_isHome a_b r_13) (c_16 : ¬ r_13 = 0) (w_20 : po_isValue a_v r_20) (c_23 : ¬ r_20 = 0) (w_42 : po_Log_lying (g_size, g_imagesUsed, g_blocks, g_revokes, g_uses, g_firstImages, g_images) r_42) (w_47 : po_holds ((j_running ||| j_revoked) ||| r_42) a_b r_47) (c_50 : r_47 = 0) (w_74 : po_fillR (a_b * 256) ((a_b + 1) * 256) ((Int32.toInt8 a_v).toInt32) 16384 j_now ar_74) (w_81 : po_Disk_barrier (k_underWay, k_homesUnderWay, k_on, k_stepsLeft, k_steps, k_down, k_written, k_order) r_81 (k_underWay_81, k_homesUnderWay_81, k_on_81, k_stepsLeft_81, k_steps_81, k_down_81, k_written, k_order)) (c_84 : ¬ r_81 = 0) (w_101 : po_Disk_writeHome a_b (a_b * 256) 16384 (k_underWay_81, k_homesUnderWay_81, k_on_81, k_stepsLeft_81, k_steps_81, k_down_81, k_written, k_order) ar_74 r_101 (k_underWay_101, k_homesUnderWay_101, k_on_101, k_stepsLeft_101, k_steps_101, k_down_81, k_written_101, k_order_101) ar_74) (c_104 : r_101 = 0) : po_direct a_b a_v (j_ringBlocks, j_running, j_revoked, j_now) (k_underWay, k_homesUnderWay, k_on, k_stepsLeft, k_steps, k_down, k_written, k_order) (g_size, g_imagesUsed, g_blocks, g_revokes, g_uses, g_firstImages, g_images) (-1) (j_ringBlocks, j_running, j_revoked, ar_74) (k_underWay_101, k_homesUnderWay_101, k_on_101, k_stepsLeft_101, k_steps_101, k_down_81, k_written_101, k_order_101) (g_size, g_imagesUsed, g_blocks, g_revokes, g_uses, g_firstImages, g_images) := by
  intro σ hr hs
  obtain ⟨ring, run, rev, now, d, g⟩ := σ
  obtain ⟨e1, e2, e3, e4, hd1, hg⟩ := id hr
  obtain ⟨s1, s2, s3, s4⟩ := SW_wf hs
  obtain ⟨q, hq, rfl, hnb⟩ := isHome_of w_13 c_16
  have f1 : nI q * 256 = nI (q * 256) := pk_mul q 256
  have f2 : (nI q + 1) * 256 = nI ((q + 1) * 256) := by rw [nI_1]; exact pk_mul (q + 1) 256
  have hcl : (nI q).toNatClampNeg = q := nI_clamp (by omega)
  have wf := w_74 (q * 256) ((q + 1) * 256) f1 f2 (by omega) (by omega) (by decide)
  rw [pk_vb, show (q + 1) * 256 - q * 256 = 256 by omega] at wf
  have hv : ¬ (a_v < 0 ∨ 255 < a_v) := fun z => c_23 (Eq.trans w_20 (it0.mpr z))
  have hc : ¬ (nI q < 0 ∨ 64 ≤ nI q ∨ a_v < 0 ∨ 255 < a_v) := fun z => z.elim (fun y => hnb (Or.inl y)) (fun z => z.elim (fun y => hnb (Or.inr y)) hv)
  have wl : r_42 = sLying g := w_42 g hg s3
  have hbz : ¬ bitt ((run ||| rev) ||| sLying g) (nI q).toNatClampNeg = true := fun z => by
    have y := (bt_holds _ hq).mp (it0.mp (Eq.trans (Eq.symm w_47) c_50))
    rw [hcl] at z
    rw [e2, e3, wl, z] at y
    cases y
  rw [fD_go (on_t hd1 c_7) hc hbz, hcl]
  rw [e4] at wf
  obtain ⟨a1, b1⟩ := w_81 d hd1 s1
  have z1 := b2i_n0.mp (fun y => c_84 (a1.trans y))
  obtain ⟨a2, b2⟩ := w_101 _ q (q * 256) b1 (by rw [bar_nil z1]; decide) rfl hq f1 (by omega) (by decide)
  rw [wf] at a2 b2
  have z2 := b2i_0.mp (a2.symm.trans c_104)
  rw [dg_2 z1 z2]
  exact ⟨rfl, e1, e2, e3, wf, b2, hg⟩
theorem vc_direct_111_0 (a_b : Int32) (a_v : Int32) (j_ringBlocks : Int32) (j_running : Int64) (j_revoked : Int64) (j_now : Nat → Int32) (k_underWay : Int32) (k_homesUnderWay : Int64) (k_on : Int32) (k_stepsLeft : Int32) (k_steps : Int32) (k_down : Nat → Int32) (k_written : Nat → Int32) (k_order : Nat → Int32) (g_size : Int32) (g_imagesUsed : Int32) (g_blocks : Nat → Int64) (g_revokes : Nat → Int64) (g_uses : Nat → Int32) (g_firstImages : Nat → Int32) (g_images : Nat → Int32) (r_13 : Int32) (r_20 : Int32) (r_42 : Int64) (r_47 : Int32) (ar_74 : Nat → Int32) (r_81 : Int32) (k_underWay_81 : Int32) (k_homesUnderWay_81 : Int64) (k_on_81 : Int32) (k_stepsLeft_81 : Int32) (k_steps_81 : Int32) (k_down_81 : Nat → Int32) (r_101 : Int32) (k_underWay_101 : Int32) (k_homesUnderWay_101 : Int64) (k_on_101 : Int32) (k_stepsLeft_101 : Int32) (k_steps_101 : Int32) (k_written_101 : Nat → Int32) (k_order_101 : Nat → Int32) (hpre : pr_direct a_b a_v (j_ringBlocks, j_running, j_revoked, j_now) (k_underWay, k_homesUnderWay, k_on, k_stepsLeft, k_steps, k_down, k_written, k_order) (g_size, g_imagesUsed, g_blocks, g_revokes, g_uses, g_firstImages, g_images)) (c_7 : ¬ k_on = 0) (w_13 : po_isHome a_b r_13) (c_16 : ¬ r_13 = 0) (w_20 : po_isValue a_v r_20) (c_23 : ¬ r_20 = 0) (w_42 : po_Log_lying (g_size, g_imagesUsed, g_blocks, g_revokes, g_uses, g_firstImages, g_images) r_42) (w_47 : po_holds ((j_running ||| j_revoked) ||| r_42) a_b r_47) (c_50 : r_47 = 0) (w_74 : po_fillR (a_b * 256) ((a_b + 1) * 256) ((Int32.toInt8 a_v).toInt32) 16384 j_now ar_74) (w_81 : po_Disk_barrier (k_underWay, k_homesUnderWay, k_on, k_stepsLeft, k_steps, k_down, k_written, k_order) r_81 (k_underWay_81, k_homesUnderWay_81, k_on_81, k_stepsLeft_81, k_steps_81, k_down_81, k_written, k_order)) (c_84 : ¬ r_81 = 0) (w_101 : po_Disk_writeHome a_b (a_b * 256) 16384 (k_underWay_81, k_homesUnderWay_81, k_on_81, k_stepsLeft_81, k_steps_81, k_down_81, k_written, k_order) ar_74 r_101 (k_underWay_101, k_homesUnderWay_101, k_on_101, k_stepsLeft_101, k_steps_101, k_down_81, k_written_101, k_order_101) ar_74) (c_104 : ¬ r_101 = 0) : pr_Disk_barrier (k_underWay_101, k_homesUnderWay_101, k_on_101, k_stepsLeft_101, k_steps_101, k_down_81, k_written_101, k_order_101) := by
  obtain ⟨d, g, hd1, hw, hg, ho, hh, hn, hf⟩ := okS_wf hpre
  obtain ⟨q, hq, rfl, hnb⟩ := isHome_of w_13 c_16
  have f1 : nI q * 256 = nI (q * 256) := pk_mul q 256
  have f2 : (nI q + 1) * 256 = nI ((q + 1) * 256) := by rw [nI_1]; exact pk_mul (q + 1) 256
  have hcl : (nI q).toNatClampNeg = q := nI_clamp (by omega)
  have wf := w_74 (q * 256) ((q + 1) * 256) f1 f2 (by omega) (by omega) (by decide)
  rw [pk_vb, show (q + 1) * 256 - q * 256 = 256 by omega] at wf
  have hfit : sb_Fit ar_74 := by
    rw [wf]
    intro j
    unfold fillF
    split
    · exact pk_fb _
    · exact hf j
  obtain ⟨a1, b1⟩ := w_81 d hd1 hw
  have z1 := b2i_n0.mp (fun y => c_84 (a1.trans y))
  obtain ⟨a2, b2⟩ := w_101 _ q (q * 256) b1 (by rw [bar_nil z1]; decide) rfl hq f1 (by omega) (by decide)
  exact ⟨_, b2, (DW_home (DW_bar hw) (by rw [bar_nil z1]; exact hs_nil) hq hfit).1⟩
theorem vc_direct_120_2 (a_b : Int32) (a_v : Int32) (j_ringBlocks : Int32) (j_running : Int64) (j_revoked : Int64) (j_now : Nat → Int32) (k_underWay : Int32) (k_homesUnderWay : Int64) (k_on : Int32) (k_stepsLeft : Int32) (k_steps : Int32) (k_down : Nat → Int32) (k_written : Nat → Int32) (k_order : Nat → Int32) (g_size : Int32) (g_imagesUsed : Int32) (g_blocks : Nat → Int64) (g_revokes : Nat → Int64) (g_uses : Nat → Int32) (g_firstImages : Nat → Int32) (g_images : Nat → Int32) (r_13 : Int32) (r_20 : Int32) (r_42 : Int64) (r_47 : Int32) (ar_74 : Nat → Int32) (r_81 : Int32) (k_underWay_81 : Int32) (k_homesUnderWay_81 : Int64) (k_on_81 : Int32) (k_stepsLeft_81 : Int32) (k_steps_81 : Int32) (k_down_81 : Nat → Int32) (r_101 : Int32) (k_underWay_101 : Int32) (k_homesUnderWay_101 : Int64) (k_on_101 : Int32) (k_stepsLeft_101 : Int32) (k_steps_101 : Int32) (k_written_101 : Nat → Int32) (k_order_101 : Nat → Int32) (r_111 : Int32) (k_underWay_111 : Int32) (k_homesUnderWay_111 : Int64) (k_on_111 : Int32) (k_stepsLeft_111 : Int32) (k_steps_111 : Int32) (k_down_111 : Nat → Int32) (hpre : pr_direct a_b a_v (j_ringBlocks, j_running, j_revoked, j_now) (k_underWay, k_homesUnderWay, k_on, k_stepsLeft, k_steps, k_down, k_written, k_order) (g_size, g_imagesUsed, g_blocks, g_revokes, g_uses, g_firstImages, g_images)) (c_7 : ¬ k_on = 0) (w_13 : po_isHome a_b r_13) (c_16 : ¬ r_13 = 0) (w_20 : po_isValue a_v r_20) (c_23 : ¬ r_20 = 0) (w_42 : po_Log_lying (g_size, g_imagesUsed, g_blocks, g_revokes, g_uses, g_firstImages, g_images) r_42) (w_47 : po_holds ((j_running ||| j_revoked) ||| r_42) a_b r_47) (c_50 : r_47 = 0) (w_74 : po_fillR (a_b * 256) ((a_b + 1) * 256) ((Int32.toInt8 a_v).toInt32) 16384 j_now ar_74) (w_81 : po_Disk_barrier (k_underWay, k_homesUnderWay, k_on, k_stepsLeft, k_steps, k_down, k_written, k_order) r_81 (k_underWay_81, k_homesUnderWay_81, k_on_81, k_stepsLeft_81, k_steps_81, k_down_81, k_written, k_order)) (c_84 : ¬ r_81 = 0) (w_101 : po_Disk_writeHome a_b (a_b * 256) 16384 (k_underWay_81, k_homesUnderWay_81, k_on_81, k_stepsLeft_81, k_steps_81, k_down_81, k_written, k_order) ar_74 r_101 (k_underWay_101, k_homesUnderWay_101, k_on_101, k_stepsLeft_101, k_steps_101, k_down_81, k_written_101, k_order_101) ar_74) (c_104 : ¬ r_101 = 0) (w_111 : po_Disk_barrier (k_underWay_101, k_homesUnderWay_101, k_on_101, k_stepsLeft_101, k_steps_101, k_down_81, k_written_101, k_order_101) r_111 (k_underWay_111, k_homesUnderWay_111, k_on_111, k_stepsLeft_111, k_steps_111, k_down_111, k_written_101, k_order_101)) (c_114 : r_111 = 0) : po_direct a_b a_v (j_ringBlocks, j_running, j_revoked, j_now) (k_underWay, k_homesUnderWay, k_on, k_stepsLeft, k_steps, k_down, k_written, k_order) (g_size, g_imagesUsed, g_blocks, g_revokes, g_uses, g_firstImages, g_images) (-1) (j_ringBlocks, j_running, j_revoked, ar_74) (k_underWay_111, k_homesUnderWay_111, k_on_111, k_stepsLeft_111, k_steps_111, k_down_111, k_written_101, k_order_101) (g_size, g_imagesUsed, g_blocks, g_revokes, g_uses, g_firstImages, g_images) := by
  intro σ hr hs
  obtain ⟨ring, run, rev, now, d, g⟩ := σ
  obtain ⟨e1, e2, e3, e4, hd1, hg⟩ := id hr
  obtain ⟨s1, s2, s3, s4⟩ := SW_wf hs
  obtain ⟨q, hq, rfl, hnb⟩ := isHome_of w_13 c_16
  have f1 : nI q * 256 = nI (q * 256) := pk_mul q 256
  have f2 : (nI q + 1) * 256 = nI ((q + 1) * 256) := by rw [nI_1]; exact pk_mul (q + 1) 256
  have hcl : (nI q).toNatClampNeg = q := nI_clamp (by omega)
  have wf := w_74 (q * 256) ((q + 1) * 256) f1 f2 (by omega) (by omega) (by decide)
  rw [pk_vb, show (q + 1) * 256 - q * 256 = 256 by omega] at wf
  have hv : ¬ (a_v < 0 ∨ 255 < a_v) := fun z => c_23 (Eq.trans w_20 (it0.mpr z))
  have hc : ¬ (nI q < 0 ∨ 64 ≤ nI q ∨ a_v < 0 ∨ 255 < a_v) := fun z => z.elim (fun y => hnb (Or.inl y)) (fun z => z.elim (fun y => hnb (Or.inr y)) hv)
  have wl : r_42 = sLying g := w_42 g hg s3
  have hbz : ¬ bitt ((run ||| rev) ||| sLying g) (nI q).toNatClampNeg = true := fun z => by
    have y := (bt_holds _ hq).mp (it0.mp (Eq.trans (Eq.symm w_47) c_50))
    rw [hcl] at z
    rw [e2, e3, wl, z] at y
    cases y
  rw [fD_go (on_t hd1 c_7) hc hbz, hcl]
  rw [e4] at wf
  obtain ⟨a1, b1⟩ := w_81 d hd1 s1
  have z1 := b2i_n0.mp (fun y => c_84 (a1.trans y))
  obtain ⟨a2, b2⟩ := w_101 _ q (q * 256) b1 (by rw [bar_nil z1]; decide) rfl hq f1 (by omega) (by decide)
  rw [wf] at a2 b2
  have z2 := b2i_n0.mp (fun y => c_104 (a2.trans y))
  have hf1 : sb_Fit now := by
    obtain ⟨u, on, fu, st, ba, ho⟩ := d
    exact hs.2.2.2.2.2.2.2.1
  have hfit : sb_Fit (fillF now (q * 256) 256 a_v.toInt8.toInt32) := by
    intro j
    unfold fillF
    split
    · exact pk_fb _
    · exact hf1 j
  obtain ⟨a3, b3⟩ := w_111 _ b2 (DW_home (DW_bar s1) (by rw [bar_nil z1]; exact hs_nil) hq hfit).1
  have z3 := b2i_0.mp (a3.symm.trans c_114)
  rw [dg_3 z1 z2, z3]
  exact ⟨rfl, e1, e2, e3, wf, b3, hg⟩
theorem vc_direct_118_0 (a_b : Int32) (a_v : Int32) (j_ringBlocks : Int32) (j_running : Int64) (j_revoked : Int64) (j_now : Nat → Int32) (k_underWay : Int32) (k_homesUnderWay : Int64) (k_on : Int32) (k_stepsLeft : Int32) (k_steps : Int32) (k_down : Nat → Int32) (k_written : Nat → Int32) (k_order : Nat → Int32) (g_size : Int32) (g_imagesUsed : Int32) (g_blocks : Nat → Int64) (g_revokes : Nat → Int64) (g_uses : Nat → Int32) (g_firstImages : Nat → Int32) (g_images : Nat → Int32) (r_13 : Int32) (r_20 : Int32) (r_42 : Int64) (r_47 : Int32) (ar_74 : Nat → Int32) (r_81 : Int32) (k_underWay_81 : Int32) (k_homesUnderWay_81 : Int64) (k_on_81 : Int32) (k_stepsLeft_81 : Int32) (k_steps_81 : Int32) (k_down_81 : Nat → Int32) (r_101 : Int32) (k_underWay_101 : Int32) (k_homesUnderWay_101 : Int64) (k_on_101 : Int32) (k_stepsLeft_101 : Int32) (k_steps_101 : Int32) (k_written_101 : Nat → Int32) (k_order_101 : Nat → Int32) (r_111 : Int32) (k_underWay_111 : Int32) (k_homesUnderWay_111 : Int64) (k_on_111 : Int32) (k_stepsLeft_111 : Int32) (k_steps_111 : Int32) (k_down_111 : Nat → Int32) (hpre : pr_direct a_b a_v (j_ringBlocks, j_running, j_revoked, j_now) (k_underWay, k_homesUnderWay, k_on, k_stepsLeft, k_steps, k_down, k_written, k_order) (g_size, g_imagesUsed, g_blocks, g_revokes, g_uses, g_firstImages, g_images)) (c_7 : ¬ k_on = 0) (w_13 : po_isHome a_b r_13) (c_16 : ¬ r_13 = 0) (w_20 : po_isValue a_v r_20) (c_23 : ¬ r_20 = 0) (w_42 : po_Log_lying (g_size, g_imagesUsed, g_blocks, g_revokes, g_uses, g_firstImages, g_images) r_42) (w_47 : po_holds ((j_running ||| j_revoked) ||| r_42) a_b r_47) (c_50 : r_47 = 0) (w_74 : po_fillR (a_b * 256) ((a_b + 1) * 256) ((Int32.toInt8 a_v).toInt32) 16384 j_now ar_74) (w_81 : po_Disk_barrier (k_underWay, k_homesUnderWay, k_on, k_stepsLeft, k_steps, k_down, k_written, k_order) r_81 (k_underWay_81, k_homesUnderWay_81, k_on_81, k_stepsLeft_81, k_steps_81, k_down_81, k_written, k_order)) (c_84 : ¬ r_81 = 0) (w_101 : po_Disk_writeHome a_b (a_b * 256) 16384 (k_underWay_81, k_homesUnderWay_81, k_on_81, k_stepsLeft_81, k_steps_81, k_down_81, k_written, k_order) ar_74 r_101 (k_underWay_101, k_homesUnderWay_101, k_on_101, k_stepsLeft_101, k_steps_101, k_down_81, k_written_101, k_order_101) ar_74) (c_104 : ¬ r_101 = 0) (w_111 : po_Disk_barrier (k_underWay_101, k_homesUnderWay_101, k_on_101, k_stepsLeft_101, k_steps_101, k_down_81, k_written_101, k_order_101) r_111 (k_underWay_111, k_homesUnderWay_111, k_on_111, k_stepsLeft_111, k_steps_111, k_down_111, k_written_101, k_order_101)) (c_114 : ¬ r_111 = 0) : po_direct a_b a_v (j_ringBlocks, j_running, j_revoked, j_now) (k_underWay, k_homesUnderWay, k_on, k_stepsLeft, k_steps, k_down, k_written, k_order) (g_size, g_imagesUsed, g_blocks, g_revokes, g_uses, g_firstImages, g_images) 0 (j_ringBlocks, j_running, j_revoked, ar_74) (k_underWay_111, k_homesUnderWay_111, k_on_111, k_stepsLeft_111, k_steps_111, k_down_111, k_written_101, k_order_101) (g_size, g_imagesUsed, g_blocks, g_revokes, g_uses, g_firstImages, g_images) := by
  intro σ hr hs
  obtain ⟨ring, run, rev, now, d, g⟩ := σ
  obtain ⟨e1, e2, e3, e4, hd1, hg⟩ := id hr
  obtain ⟨s1, s2, s3, s4⟩ := SW_wf hs
  obtain ⟨q, hq, rfl, hnb⟩ := isHome_of w_13 c_16
  have f1 : nI q * 256 = nI (q * 256) := pk_mul q 256
  have f2 : (nI q + 1) * 256 = nI ((q + 1) * 256) := by rw [nI_1]; exact pk_mul (q + 1) 256
  have hcl : (nI q).toNatClampNeg = q := nI_clamp (by omega)
  have wf := w_74 (q * 256) ((q + 1) * 256) f1 f2 (by omega) (by omega) (by decide)
  rw [pk_vb, show (q + 1) * 256 - q * 256 = 256 by omega] at wf
  have hv : ¬ (a_v < 0 ∨ 255 < a_v) := fun z => c_23 (Eq.trans w_20 (it0.mpr z))
  have hc : ¬ (nI q < 0 ∨ 64 ≤ nI q ∨ a_v < 0 ∨ 255 < a_v) := fun z => z.elim (fun y => hnb (Or.inl y)) (fun z => z.elim (fun y => hnb (Or.inr y)) hv)
  have wl : r_42 = sLying g := w_42 g hg s3
  have hbz : ¬ bitt ((run ||| rev) ||| sLying g) (nI q).toNatClampNeg = true := fun z => by
    have y := (bt_holds _ hq).mp (it0.mp (Eq.trans (Eq.symm w_47) c_50))
    rw [hcl] at z
    rw [e2, e3, wl, z] at y
    cases y
  rw [fD_go (on_t hd1 c_7) hc hbz, hcl]
  rw [e4] at wf
  obtain ⟨a1, b1⟩ := w_81 d hd1 s1
  have z1 := b2i_n0.mp (fun y => c_84 (a1.trans y))
  obtain ⟨a2, b2⟩ := w_101 _ q (q * 256) b1 (by rw [bar_nil z1]; decide) rfl hq f1 (by omega) (by decide)
  rw [wf] at a2 b2
  have z2 := b2i_n0.mp (fun y => c_104 (a2.trans y))
  have hf1 : sb_Fit now := by
    obtain ⟨u, on, fu, st, ba, ho⟩ := d
    exact hs.2.2.2.2.2.2.2.1
  have hfit : sb_Fit (fillF now (q * 256) 256 a_v.toInt8.toInt32) := by
    intro j
    unfold fillF
    split
    · exact pk_fb _
    · exact hf1 j
  obtain ⟨a3, b3⟩ := w_111 _ b2 (DW_home (DW_bar s1) (by rw [bar_nil z1]; exact hs_nil) hq hfit).1
  have z3 := b2i_n0.mp (fun y => c_114 (a3.trans y))
  rw [dg_3 z1 z2, z3]
  exact ⟨rfl, e1, e2, e3, wf, b3, hg⟩
theorem vc_direct_55_0 (a_b : Int32) (a_v : Int32) (j_ringBlocks : Int32) (j_running : Int64) (j_revoked : Int64) (j_now : Nat → Int32) (k_underWay : Int32) (k_homesUnderWay : Int64) (k_on : Int32) (k_stepsLeft : Int32) (k_steps : Int32) (k_down : Nat → Int32) (k_written : Nat → Int32) (k_order : Nat → Int32) (g_size : Int32) (g_imagesUsed : Int32) (g_blocks : Nat → Int64) (g_revokes : Nat → Int64) (g_uses : Nat → Int32) (g_firstImages : Nat → Int32) (g_images : Nat → Int32) (r_13 : Int32) (r_20 : Int32) (r_42 : Int64) (r_47 : Int32) (hpre : pr_direct a_b a_v (j_ringBlocks, j_running, j_revoked, j_now) (k_underWay, k_homesUnderWay, k_on, k_stepsLeft, k_steps, k_down, k_written, k_order) (g_size, g_imagesUsed, g_blocks, g_revokes, g_uses, g_firstImages, g_images)) (c_7 : ¬ k_on = 0) (w_13 : po_isHome a_b r_13) (c_16 : ¬ r_13 = 0) (w_20 : po_isValue a_v r_20) (c_23 : ¬ r_20 = 0) (w_42 : po_Log_lying (g_size, g_imagesUsed, g_blocks, g_revokes, g_uses, g_firstImages, g_images) r_42) (w_47 : po_holds ((j_running ||| j_revoked) ||| r_42) a_b r_47) (c_50 : ¬ r_47 = 0) : po_direct a_b a_v (j_ringBlocks, j_running, j_revoked, j_now) (k_underWay, k_homesUnderWay, k_on, k_stepsLeft, k_steps, k_down, k_written, k_order) (g_size, g_imagesUsed, g_blocks, g_revokes, g_uses, g_firstImages, g_images) (-2) (j_ringBlocks, j_running, j_revoked, j_now) (k_underWay, k_homesUnderWay, k_on, k_stepsLeft, k_steps, k_down, k_written, k_order) (g_size, g_imagesUsed, g_blocks, g_revokes, g_uses, g_firstImages, g_images) := by
  intro σ hr hs
  obtain ⟨ring, run, rev, now, d, g⟩ := σ
  obtain ⟨e1, e2, e3, e4, hd1, hg⟩ := id hr
  obtain ⟨s1, s2, s3, s4⟩ := SW_wf hs
  obtain ⟨q, hq, rfl, hnb⟩ := isHome_of w_13 c_16
  have hcl : (nI q).toNatClampNeg = q := nI_clamp (by omega)
  have hv : ¬ (a_v < 0 ∨ 255 < a_v) := fun z => c_23 (Eq.trans w_20 (it0.mpr z))
  have hc : ¬ (nI q < 0 ∨ 64 ≤ nI q ∨ a_v < 0 ∨ 255 < a_v) := fun z => z.elim (fun y => hnb (Or.inl y)) (fun z => z.elim (fun y => hnb (Or.inr y)) hv)
  have wl : r_42 = sLying g := w_42 g hg s3
  have hbz : bitt ((run ||| rev) ||| sLying g) (nI q).toNatClampNeg = true := by
    rw [hcl]
    cases z : bitt ((run ||| rev) ||| sLying g) q
    · exact absurd (Eq.trans w_47 (it0.mpr ((bt_holds _ hq).mpr (by rw [e2, e3, wl]; exact z)))) c_50
    · rfl
  rw [fD_busy (on_t hd1 c_7) hc hbz]
  exact ⟨rfl, hr⟩
theorem vc_direct_28_1 (a_b : Int32) (a_v : Int32) (j_ringBlocks : Int32) (j_running : Int64) (j_revoked : Int64) (j_now : Nat → Int32) (k_underWay : Int32) (k_homesUnderWay : Int64) (k_on : Int32) (k_stepsLeft : Int32) (k_steps : Int32) (k_down : Nat → Int32) (k_written : Nat → Int32) (k_order : Nat → Int32) (g_size : Int32) (g_imagesUsed : Int32) (g_blocks : Nat → Int64) (g_revokes : Nat → Int64) (g_uses : Nat → Int32) (g_firstImages : Nat → Int32) (g_images : Nat → Int32) (r_13 : Int32) (r_20 : Int32) (hpre : pr_direct a_b a_v (j_ringBlocks, j_running, j_revoked, j_now) (k_underWay, k_homesUnderWay, k_on, k_stepsLeft, k_steps, k_down, k_written, k_order) (g_size, g_imagesUsed, g_blocks, g_revokes, g_uses, g_firstImages, g_images)) (c_7 : ¬ k_on = 0) (w_13 : po_isHome a_b r_13) (c_16 : ¬ r_13 = 0) (w_20 : po_isValue a_v r_20) (c_23 : r_20 = 0) : po_direct a_b a_v (j_ringBlocks, j_running, j_revoked, j_now) (k_underWay, k_homesUnderWay, k_on, k_stepsLeft, k_steps, k_down, k_written, k_order) (g_size, g_imagesUsed, g_blocks, g_revokes, g_uses, g_firstImages, g_images) (-2) (j_ringBlocks, j_running, j_revoked, j_now) (k_underWay, k_homesUnderWay, k_on, k_stepsLeft, k_steps, k_down, k_written, k_order) (g_size, g_imagesUsed, g_blocks, g_revokes, g_uses, g_firstImages, g_images) := by
  intro σ hr hs
  obtain ⟨ring, run, rev, now, d, g⟩ := σ
  obtain ⟨e1, e2, e3, e4, hd1, hg⟩ := id hr
  obtain ⟨s1, s2, s3, s4⟩ := SW_wf hs
  have h := it0.mp (Eq.trans (Eq.symm w_20) c_23)
  rw [fD_bad (on_t hd1 c_7) (Or.inr (Or.inr h))]
  exact ⟨rfl, hr⟩
theorem vc_direct_11_0 (a_b : Int32) (a_v : Int32) (j_ringBlocks : Int32) (j_running : Int64) (j_revoked : Int64) (j_now : Nat → Int32) (k_underWay : Int32) (k_homesUnderWay : Int64) (k_on : Int32) (k_stepsLeft : Int32) (k_steps : Int32) (k_down : Nat → Int32) (k_written : Nat → Int32) (k_order : Nat → Int32) (g_size : Int32) (g_imagesUsed : Int32) (g_blocks : Nat → Int64) (g_revokes : Nat → Int64) (g_uses : Nat → Int32) (g_firstImages : Nat → Int32) (g_images : Nat → Int32) (hpre : pr_direct a_b a_v (j_ringBlocks, j_running, j_revoked, j_now) (k_underWay, k_homesUnderWay, k_on, k_stepsLeft, k_steps, k_down, k_written, k_order) (g_size, g_imagesUsed, g_blocks, g_revokes, g_uses, g_firstImages, g_images)) (c_7 : k_on = 0) : po_direct a_b a_v (j_ringBlocks, j_running, j_revoked, j_now) (k_underWay, k_homesUnderWay, k_on, k_stepsLeft, k_steps, k_down, k_written, k_order) (g_size, g_imagesUsed, g_blocks, g_revokes, g_uses, g_firstImages, g_images) (-1) (j_ringBlocks, j_running, j_revoked, j_now) (k_underWay, k_homesUnderWay, k_on, k_stepsLeft, k_steps, k_down, k_written, k_order) (g_size, g_imagesUsed, g_blocks, g_revokes, g_uses, g_firstImages, g_images) := by
  intro σ hr hs
  obtain ⟨ring, run, rev, now, d, g⟩ := σ
  obtain ⟨e1, e2, e3, e4, hd1, hg⟩ := id hr
  obtain ⟨s1, s2, s3, s4⟩ := SW_wf hs
  rw [fD_off (on_f hd1 c_7)]
  exact ⟨rfl, hr⟩
theorem vc_commit_29_0 (j_ringBlocks : Int32) (j_running : Int64) (j_revoked : Int64) (j_now : Nat → Int32) (k_underWay : Int32) (k_homesUnderWay : Int64) (k_on : Int32) (k_stepsLeft : Int32) (k_steps : Int32) (k_down : Nat → Int32) (k_written : Nat → Int32) (k_order : Nat → Int32) (g_size : Int32) (g_imagesUsed : Int32) (g_blocks : Nat → Int64) (g_revokes : Nat → Int64) (g_uses : Nat → Int32) (g_firstImages : Nat → Int32) (g_images : Nat → Int32) (hpre : pr_commit (j_ringBlocks, j_running, j_revoked, j_now) (k_underWay, k_homesUnderWay, k_on, k_stepsLeft, k_steps, k_down, k_written, k_order) (g_size, g_imagesUsed, g_blocks, g_revokes, g_uses, g_firstImages, g_images)) (c_7 : ¬ k_on = 0) (c_23 : ¬ (lg_cmp (j_running ||| j_revoked) 0) = 0) : pr_useOfRunning (j_ringBlocks, j_running, j_revoked, j_now) := by
  trivial
theorem vc_commit_37_0 (j_ringBlocks : Int32) (j_running : Int64) (j_revoked : Int64) (j_now : Nat → Int32) (k_underWay : Int32) (k_homesUnderWay : Int64) (k_on : Int32) (k_stepsLeft : Int32) (k_steps : Int32) (k_down : Nat → Int32) (k_written : Nat → Int32) (k_order : Nat → Int32) (g_size : Int32) (g_imagesUsed : Int32) (g_blocks : Nat → Int64) (g_revokes : Nat → Int64) (g_uses : Nat → Int32) (g_firstImages : Nat → Int32) (g_images : Nat → Int32) (r_29 : Int32) (hpre : pr_commit (j_ringBlocks, j_running, j_revoked, j_now) (k_underWay, k_homesUnderWay, k_on, k_stepsLeft, k_steps, k_down, k_written, k_order) (g_size, g_imagesUsed, g_blocks, g_revokes, g_uses, g_firstImages, g_images)) (c_7 : ¬ k_on = 0) (c_23 : ¬ (lg_cmp (j_running ||| j_revoked) 0) = 0) (w_29 : po_useOfRunning (j_ringBlocks, j_running, j_revoked, j_now) r_29) : pr_Log_used (g_size, g_imagesUsed, g_blocks, g_revokes, g_uses, g_firstImages, g_images) := by
  obtain ⟨⟨ring, run, rev, now, d, g⟩, hr, hs⟩ := hpre
  obtain ⟨e1, e2, e3, e4, hd1, hg⟩ := id hr
  obtain ⟨s1, s2, s3, s4⟩ := SW_wf hs
  exact ⟨g, hg, s3⟩
theorem vc_commit_63_0 (j_ringBlocks : Int32) (j_running : Int64) (j_revoked : Int64) (j_now : Nat → Int32) (k_underWay : Int32) (k_homesUnderWay : Int64) (k_on : Int32) (k_stepsLeft : Int32) (k_steps : Int32) (k_down : Nat → Int32) (k_written : Nat → Int32) (k_order : Nat → Int32) (g_size : Int32) (g_imagesUsed : Int32) (g_blocks : Nat → Int64) (g_revokes : Nat → Int64) (g_uses : Nat → Int32) (g_firstImages : Nat → Int32) (g_images : Nat → Int32) (r_29 : Int32) (r_37 : Int32) (hpre : pr_commit (j_ringBlocks, j_running, j_revoked, j_now) (k_underWay, k_homesUnderWay, k_on, k_stepsLeft, k_steps, k_down, k_written, k_order) (g_size, g_imagesUsed, g_blocks, g_revokes, g_uses, g_firstImages, g_images)) (c_7 : ¬ k_on = 0) (c_23 : ¬ (lg_cmp (j_running ||| j_revoked) 0) = 0) (w_29 : po_useOfRunning (j_ringBlocks, j_running, j_revoked, j_now) r_29) (w_37 : po_Log_used (g_size, g_imagesUsed, g_blocks, g_revokes, g_uses, g_firstImages, g_images) r_37) (c_48 : (r_37 + r_29) ≤ (j_ringBlocks - 1)) : pr_writeTransaction r_29 (j_ringBlocks, j_running, j_revoked, j_now) (k_underWay, k_homesUnderWay, k_on, k_stepsLeft, k_steps, k_down, k_written, k_order) (g_size, g_imagesUsed, g_blocks, g_revokes, g_uses, g_firstImages, g_images) := by
  obtain ⟨⟨ring, run, rev, now, d, g⟩, hr, hs⟩ := hpre
  obtain ⟨e1, e2, e3, e4, hd1, hg⟩ := id hr
  obtain ⟨s1, s2, s3, s4⟩ := SW_wf hs
  have hsw : 40 ≤ ring ∧ ring ≤ 200 ∧ cnt run ≤ 30 ∧ sb_Fit now ∧ LW ring g := by
    obtain ⟨u, on, fu, st, ba, ho⟩ := d
    obtain ⟨h1, h2, h3, h4, h5, h6, h7, h8, h9, h10, h11⟩ := hs
    exact ⟨h1, h2, h4, h8, h11⟩
  obtain ⟨x1, x2, x3, x4, x5⟩ := hsw
  have wu : r_29 = nI (sUse run rev) := by
    have w : r_29 = nI (sUse j_running j_revoked) := w_29
    rw [w, e2, e3]
  obtain ⟨u1, u2, u3⟩ := use_le (rev := rev) x3
  have wd : r_37 = nI (sUsed g) := w_37 g hg s3
  have hu : sUsed g ≤ 199 := by
    obtain ⟨n, blk, rvk, us, fst, im⟩ := g
    have := x5.2.2.1
    show sumN us n ≤ 199
    omega
  have er : j_ringBlocks - 1 = nI (ring - 1) := by rw [e1]; exact pk_sub (b := 1) (by omega)
  have hle : sUsed g + sUse run rev ≤ ring - 1 := by
    rw [wd, wu, nI_add, er] at c_48
    exact (nI_leI (by omega) (by omega)).mp c_48
  have hfit : fitT run (sUse run rev) now g := by
    refine ⟨s3, u1, by omega, x4, ?_⟩
    obtain ⟨n, blk, rvk, us, fst, im⟩ := g
    have := fst_used x5
    have hle : sumN us n + sUse run rev ≤ ring - 1 := hle
    show fst n + cnt run ≤ 200
    omega
  have hon := s4 (on_t hd1 c_7)
  rw [e2, e4]
  exact ⟨d, g, sUse run rev, hd1, s1, hon, hg, hfit, wu⟩
theorem vc_commit_74_0 (j_ringBlocks : Int32) (j_running : Int64) (j_revoked : Int64) (j_now : Nat → Int32) (k_underWay : Int32) (k_homesUnderWay : Int64) (k_on : Int32) (k_stepsLeft : Int32) (k_steps : Int32) (k_down : Nat → Int32) (k_written : Nat → Int32) (k_order : Nat → Int32) (g_size : Int32) (g_imagesUsed : Int32) (g_blocks : Nat → Int64) (g_revokes : Nat → Int64) (g_uses : Nat → Int32) (g_firstImages : Nat → Int32) (g_images : Nat → Int32) (r_29 : Int32) (r_37 : Int32) (r_63 : Int32) (j_running_63 : Int64) (j_revoked_63 : Int64) (k_underWay_63 : Int32) (k_homesUnderWay_63 : Int64) (k_on_63 : Int32) (k_stepsLeft_63 : Int32) (k_steps_63 : Int32) (k_down_63 : Nat → Int32) (k_order_63 : Nat → Int32) (g_size_63 : Int32) (g_imagesUsed_63 : Int32) (g_blocks_63 : Nat → Int64) (g_revokes_63 : Nat → Int64) (g_uses_63 : Nat → Int32) (g_firstImages_63 : Nat → Int32) (g_images_63 : Nat → Int32) (hpre : pr_commit (j_ringBlocks, j_running, j_revoked, j_now) (k_underWay, k_homesUnderWay, k_on, k_stepsLeft, k_steps, k_down, k_written, k_order) (g_size, g_imagesUsed, g_blocks, g_revokes, g_uses, g_firstImages, g_images)) (c_7 : ¬ k_on = 0) (c_23 : ¬ (lg_cmp (j_running ||| j_revoked) 0) = 0) (w_29 : po_useOfRunning (j_ringBlocks, j_running, j_revoked, j_now) r_29) (w_37 : po_Log_used (g_size, g_imagesUsed, g_blocks, g_revokes, g_uses, g_firstImages, g_images) r_37) (c_48 : (r_37 + r_29) ≤ (j_ringBlocks - 1)) (w_63 : po_writeTransaction r_29 (j_ringBlocks, j_running, j_revoked, j_now) (k_underWay, k_homesUnderWay, k_on, k_stepsLeft, k_steps, k_down, k_written, k_order) (g_size, g_imagesUsed, g_blocks, g_revokes, g_uses, g_firstImages, g_images) r_63 (j_ringBlocks, j_running_63, j_revoked_63, j_now) (k_underWay_63, k_homesUnderWay_63, k_on_63, k_stepsLeft_63, k_steps_63, k_down_63, k_written, k_order_63) (g_size_63, g_imagesUsed_63, g_blocks_63, g_revokes_63, g_uses_63, g_firstImages_63, g_images_63)) (c_66 : r_63 = 0) : po_commit (j_ringBlocks, j_running, j_revoked, j_now) (k_underWay, k_homesUnderWay, k_on, k_stepsLeft, k_steps, k_down, k_written, k_order) (g_size, g_imagesUsed, g_blocks, g_revokes, g_uses, g_firstImages, g_images) (-1) (j_ringBlocks, j_running_63, j_revoked_63, j_now) (k_underWay_63, k_homesUnderWay_63, k_on_63, k_stepsLeft_63, k_steps_63, k_down_63, k_written, k_order_63) (g_size_63, g_imagesUsed_63, g_blocks_63, g_revokes_63, g_uses_63, g_firstImages_63, g_images_63) := by
  intro σ hr hs
  obtain ⟨ring, run, rev, now, d, g⟩ := σ
  obtain ⟨e1, e2, e3, e4, hd1, hg⟩ := id hr
  obtain ⟨s1, s2, s3, s4⟩ := SW_wf hs
  have hsw : 40 ≤ ring ∧ ring ≤ 200 ∧ cnt run ≤ 30 ∧ sb_Fit now ∧ LW ring g := by
    obtain ⟨u, on, fu, st, ba, ho⟩ := d
    obtain ⟨h1, h2, h3, h4, h5, h6, h7, h8, h9, h10, h11⟩ := hs
    exact ⟨h1, h2, h4, h8, h11⟩
  obtain ⟨x1, x2, x3, x4, x5⟩ := hsw
  have wu : r_29 = nI (sUse run rev) := by
    have w : r_29 = nI (sUse j_running j_revoked) := w_29
    rw [w, e2, e3]
  obtain ⟨u1, u2, u3⟩ := use_le (rev := rev) x3
  have wd : r_37 = nI (sUsed g) := w_37 g hg s3
  have hu : sUsed g ≤ 199 := by
    obtain ⟨n, blk, rvk, us, fst, im⟩ := g
    have := x5.2.2.1
    show sumN us n ≤ 199
    omega
  have er : j_ringBlocks - 1 = nI (ring - 1) := by rw [e1]; exact pk_sub (b := 1) (by omega)
  have hle : sUsed g + sUse run rev ≤ ring - 1 := by
    rw [wd, wu, nI_add, er] at c_48
    exact (nI_leI (by omega) (by omega)).mp c_48
  have hfit : fitT run (sUse run rev) now g := by
    refine ⟨s3, u1, by omega, x4, ?_⟩
    obtain ⟨n, blk, rvk, us, fst, im⟩ := g
    have := fst_used x5
    have hle : sumN us n + sUse run rev ≤ ring - 1 := hle
    show fst n + cnt run ≤ 200
    omega
  have hon := s4 (on_t hd1 c_7)
  have hnz : ¬ run ||| rev = 0 := fun z => c_23 (lgc0.mpr (by rw [e2, e3]; exact z))
  obtain ⟨a, q1, q2, q3⟩ := w_63 d g (sUse run rev) hd1 s1 hon hg (by rw [e2, e4]; exact hfit) wu
  rw [e2, e3, e4] at a q1 q2 q3
  rw [fC_go1 (on_t hd1 c_7) hnz (by omega), cg_e rfl]
  have q4 := congrArg (fun z : JRt => z.2.1) q3
  have q5 := congrArg (fun z : JRt => z.2.2.1) q3
  have z := b2i_0.mp (a.symm.trans c_66)
  rw [z]
  exact ⟨rfl, e1, q4, q5, e4, q1, q2⟩
theorem vc_commit_74_1 (j_ringBlocks : Int32) (j_running : Int64) (j_revoked : Int64) (j_now : Nat → Int32) (k_underWay : Int32) (k_homesUnderWay : Int64) (k_on : Int32) (k_stepsLeft : Int32) (k_steps : Int32) (k_down : Nat → Int32) (k_written : Nat → Int32) (k_order : Nat → Int32) (g_size : Int32) (g_imagesUsed : Int32) (g_blocks : Nat → Int64) (g_revokes : Nat → Int64) (g_uses : Nat → Int32) (g_firstImages : Nat → Int32) (g_images : Nat → Int32) (r_29 : Int32) (r_37 : Int32) (r_63 : Int32) (j_running_63 : Int64) (j_revoked_63 : Int64) (k_underWay_63 : Int32) (k_homesUnderWay_63 : Int64) (k_on_63 : Int32) (k_stepsLeft_63 : Int32) (k_steps_63 : Int32) (k_down_63 : Nat → Int32) (k_order_63 : Nat → Int32) (g_size_63 : Int32) (g_imagesUsed_63 : Int32) (g_blocks_63 : Nat → Int64) (g_revokes_63 : Nat → Int64) (g_uses_63 : Nat → Int32) (g_firstImages_63 : Nat → Int32) (g_images_63 : Nat → Int32) (hpre : pr_commit (j_ringBlocks, j_running, j_revoked, j_now) (k_underWay, k_homesUnderWay, k_on, k_stepsLeft, k_steps, k_down, k_written, k_order) (g_size, g_imagesUsed, g_blocks, g_revokes, g_uses, g_firstImages, g_images)) (c_7 : ¬ k_on = 0) (c_23 : ¬ (lg_cmp (j_running ||| j_revoked) 0) = 0) (w_29 : po_useOfRunning (j_ringBlocks, j_running, j_revoked, j_now) r_29) (w_37 : po_Log_used (g_size, g_imagesUsed, g_blocks, g_revokes, g_uses, g_firstImages, g_images) r_37) (c_48 : (r_37 + r_29) ≤ (j_ringBlocks - 1)) (w_63 : po_writeTransaction r_29 (j_ringBlocks, j_running, j_revoked, j_now) (k_underWay, k_homesUnderWay, k_on, k_stepsLeft, k_steps, k_down, k_written, k_order) (g_size, g_imagesUsed, g_blocks, g_revokes, g_uses, g_firstImages, g_images) r_63 (j_ringBlocks, j_running_63, j_revoked_63, j_now) (k_underWay_63, k_homesUnderWay_63, k_on_63, k_stepsLeft_63, k_steps_63, k_down_63, k_written, k_order_63) (g_size_63, g_imagesUsed_63, g_blocks_63, g_revokes_63, g_uses_63, g_firstImages_63, g_images_63)) (c_66 : ¬ r_63 = 0) : po_commit (j_ringBlocks, j_running, j_revoked, j_now) (k_underWay, k_homesUnderWay, k_on, k_stepsLeft, k_steps, k_down, k_written, k_order) (g_size, g_imagesUsed, g_blocks, g_revokes, g_uses, g_firstImages, g_images) r_29 (j_ringBlocks, j_running_63, j_revoked_63, j_now) (k_underWay_63, k_homesUnderWay_63, k_on_63, k_stepsLeft_63, k_steps_63, k_down_63, k_written, k_order_63) (g_size_63, g_imagesUsed_63, g_blocks_63, g_revokes_63, g_uses_63, g_firstImages_63, g_images_63) := by
  intro σ hr hs
  obtain ⟨ring, run, rev, now, d, g⟩ := σ
  obtain ⟨e1, e2, e3, e4, hd1, hg⟩ := id hr
  obtain ⟨s1, s2, s3, s4⟩ := SW_wf hs
  have hsw : 40 ≤ ring ∧ ring ≤ 200 ∧ cnt run ≤ 30 ∧ sb_Fit now ∧ LW ring g := by
    obtain ⟨u, on, fu, st, ba, ho⟩ := d
    obtain ⟨h1, h2, h3, h4, h5, h6, h7, h8, h9, h10, h11⟩ := hs
    exact ⟨h1, h2, h4, h8, h11⟩
  obtain ⟨x1, x2, x3, x4, x5⟩ := hsw
  have wu : r_29 = nI (sUse run rev) := by
    have w : r_29 = nI (sUse j_running j_revoked) := w_29
    rw [w, e2, e3]
  obtain ⟨u1, u2, u3⟩ := use_le (rev := rev) x3
  have wd : r_37 = nI (sUsed g) := w_37 g hg s3
  have hu : sUsed g ≤ 199 := by
    obtain ⟨n, blk, rvk, us, fst, im⟩ := g
    have := x5.2.2.1
    show sumN us n ≤ 199
    omega
  have er : j_ringBlocks - 1 = nI (ring - 1) := by rw [e1]; exact pk_sub (b := 1) (by omega)
  have hle : sUsed g + sUse run rev ≤ ring - 1 := by
    rw [wd, wu, nI_add, er] at c_48
    exact (nI_leI (by omega) (by omega)).mp c_48
  have hfit : fitT run (sUse run rev) now g := by
    refine ⟨s3, u1, by omega, x4, ?_⟩
    obtain ⟨n, blk, rvk, us, fst, im⟩ := g
    have := fst_used x5
    have hle : sumN us n + sUse run rev ≤ ring - 1 := hle
    show fst n + cnt run ≤ 200
    omega
  have hon := s4 (on_t hd1 c_7)
  have hnz : ¬ run ||| rev = 0 := fun z => c_23 (lgc0.mpr (by rw [e2, e3]; exact z))
  obtain ⟨a, q1, q2, q3⟩ := w_63 d g (sUse run rev) hd1 s1 hon hg (by rw [e2, e4]; exact hfit) wu
  rw [e2, e3, e4] at a q1 q2 q3
  rw [fC_go1 (on_t hd1 c_7) hnz (by omega), cg_e rfl]
  have q4 := congrArg (fun z : JRt => z.2.1) q3
  have q5 := congrArg (fun z : JRt => z.2.2.1) q3
  have z := b2i_n0.mp (fun y => c_66 (a.trans y))
  rw [z]
  exact ⟨wu, e1, q4, q5, e4, q1, q2⟩
theorem vc_commit_52_0 (j_ringBlocks : Int32) (j_running : Int64) (j_revoked : Int64) (j_now : Nat → Int32) (k_underWay : Int32) (k_homesUnderWay : Int64) (k_on : Int32) (k_stepsLeft : Int32) (k_steps : Int32) (k_down : Nat → Int32) (k_written : Nat → Int32) (k_order : Nat → Int32) (g_size : Int32) (g_imagesUsed : Int32) (g_blocks : Nat → Int64) (g_revokes : Nat → Int64) (g_uses : Nat → Int32) (g_firstImages : Nat → Int32) (g_images : Nat → Int32) (r_29 : Int32) (r_37 : Int32) (hpre : pr_commit (j_ringBlocks, j_running, j_revoked, j_now) (k_underWay, k_homesUnderWay, k_on, k_stepsLeft, k_steps, k_down, k_written, k_order) (g_size, g_imagesUsed, g_blocks, g_revokes, g_uses, g_firstImages, g_images)) (c_7 : ¬ k_on = 0) (c_23 : ¬ (lg_cmp (j_running ||| j_revoked) 0) = 0) (w_29 : po_useOfRunning (j_ringBlocks, j_running, j_revoked, j_now) r_29) (w_37 : po_Log_used (g_size, g_imagesUsed, g_blocks, g_revokes, g_uses, g_firstImages, g_images) r_37) (c_48 : ¬ (r_37 + r_29) ≤ (j_ringBlocks - 1)) : pr_bringLogHome (j_ringBlocks, j_running, j_revoked, j_now) (k_underWay, k_homesUnderWay, k_on, k_stepsLeft, k_steps, k_down, k_written, k_order) (g_size, g_imagesUsed, g_blocks, g_revokes, g_uses, g_firstImages, g_images) := by
  obtain ⟨⟨ring, run, rev, now, d, g⟩, hr, hs⟩ := hpre
  obtain ⟨e1, e2, e3, e4, hd1, hg⟩ := id hr
  obtain ⟨s1, s2, s3, s4⟩ := SW_wf hs
  exact ⟨d, g, hd1, s1, s4 (on_t hd1 c_7), hg, s3⟩
theorem vc_commit_63_1 (j_ringBlocks : Int32) (j_running : Int64) (j_revoked : Int64) (j_now : Nat → Int32) (k_underWay : Int32) (k_homesUnderWay : Int64) (k_on : Int32) (k_stepsLeft : Int32) (k_steps : Int32) (k_down : Nat → Int32) (k_written : Nat → Int32) (k_order : Nat → Int32) (g_size : Int32) (g_imagesUsed : Int32) (g_blocks : Nat → Int64) (g_revokes : Nat → Int64) (g_uses : Nat → Int32) (g_firstImages : Nat → Int32) (g_images : Nat → Int32) (r_29 : Int32) (r_37 : Int32) (r_52 : Int32) (k_underWay_52 : Int32) (k_homesUnderWay_52 : Int64) (k_on_52 : Int32) (k_stepsLeft_52 : Int32) (k_steps_52 : Int32) (k_down_52 : Nat → Int32) (k_written_52 : Nat → Int32) (k_order_52 : Nat → Int32) (g_size_52 : Int32) (g_imagesUsed_52 : Int32) (hpre : pr_commit (j_ringBlocks, j_running, j_revoked, j_now) (k_underWay, k_homesUnderWay, k_on, k_stepsLeft, k_steps, k_down, k_written, k_order) (g_size, g_imagesUsed, g_blocks, g_revokes, g_uses, g_firstImages, g_images)) (c_7 : ¬ k_on = 0) (c_23 : ¬ (lg_cmp (j_running ||| j_revoked) 0) = 0) (w_29 : po_useOfRunning (j_ringBlocks, j_running, j_revoked, j_now) r_29) (w_37 : po_Log_used (g_size, g_imagesUsed, g_blocks, g_revokes, g_uses, g_firstImages, g_images) r_37) (c_48 : ¬ (r_37 + r_29) ≤ (j_ringBlocks - 1)) (w_52 : po_bringLogHome (j_ringBlocks, j_running, j_revoked, j_now) (k_underWay, k_homesUnderWay, k_on, k_stepsLeft, k_steps, k_down, k_written, k_order) (g_size, g_imagesUsed, g_blocks, g_revokes, g_uses, g_firstImages, g_images) r_52 (j_ringBlocks, j_running, j_revoked, j_now) (k_underWay_52, k_homesUnderWay_52, k_on_52, k_stepsLeft_52, k_steps_52, k_down_52, k_written_52, k_order_52) (g_size_52, g_imagesUsed_52, g_blocks, g_revokes, g_uses, g_firstImages, g_images)) (c_56 : ¬ r_52 = (-1)) : pr_writeTransaction r_29 (j_ringBlocks, j_running, j_revoked, j_now) (k_underWay_52, k_homesUnderWay_52, k_on_52, k_stepsLeft_52, k_steps_52, k_down_52, k_written_52, k_order_52) (g_size_52, g_imagesUsed_52, g_blocks, g_revokes, g_uses, g_firstImages, g_images) := by
  obtain ⟨⟨ring, run, rev, now, d, g⟩, hr, hs⟩ := hpre
  obtain ⟨e1, e2, e3, e4, hd1, hg⟩ := id hr
  obtain ⟨s1, s2, s3, s4⟩ := SW_wf hs
  have hsw : 40 ≤ ring ∧ ring ≤ 200 ∧ cnt run ≤ 30 ∧ sb_Fit now ∧ LW ring g := by
    obtain ⟨u, on, fu, st, ba, ho⟩ := d
    obtain ⟨h1, h2, h3, h4, h5, h6, h7, h8, h9, h10, h11⟩ := hs
    exact ⟨h1, h2, h4, h8, h11⟩
  obtain ⟨x1, x2, x3, x4, x5⟩ := hsw
  have wu : r_29 = nI (sUse run rev) := by
    have w : r_29 = nI (sUse j_running j_revoked) := w_29
    rw [w, e2, e3]
  obtain ⟨u1, u2, u3⟩ := use_le (rev := rev) x3
  have wd : r_37 = nI (sUsed g) := w_37 g hg s3
  have hu : sUsed g ≤ 199 := by
    obtain ⟨n, blk, rvk, us, fst, im⟩ := g
    have := x5.2.2.1
    show sumN us n ≤ 199
    omega
  have er : j_ringBlocks - 1 = nI (ring - 1) := by rw [e1]; exact pk_sub (b := 1) (by omega)
  have hon := s4 (on_t hd1 c_7)
  obtain ⟨b1, b2, b3⟩ := w_52 d g hd1 s1 hon hg s3
  obtain ⟨k1, k2, k3⟩ := clear_wf s1 hon s3
  have hly := cnt_le (sLying g)
  have hok : (sClear d g).1 = true := by
    cases z : (sClear d g).1
    · rw [z] at b1; exact absurd b1 c_56
    · rfl
  obtain ⟨k4, k5⟩ := k2 hok
  have hfit2 : fitT run (sUse run rev) now (sClear d g).2.2 := by
    rw [k5]
    refine ⟨okG_empty s3, u1, by omega, x4, ?_⟩
    have h0 := (okG_n (n := g.1) s3).2.2.1
    show g.2.2.2.2.1 0 + cnt run ≤ 200
    rw [h0]; omega
  rw [e2, e4]
  exact ⟨_, _, sUse run rev, b2, k1, k4, b3, hfit2, wu⟩
theorem vc_commit_74_2 (j_ringBlocks : Int32) (j_running : Int64) (j_revoked : Int64) (j_now : Nat → Int32) (k_underWay : Int32) (k_homesUnderWay : Int64) (k_on : Int32) (k_stepsLeft : Int32) (k_steps : Int32) (k_down : Nat → Int32) (k_written : Nat → Int32) (k_order : Nat → Int32) (g_size : Int32) (g_imagesUsed : Int32) (g_blocks : Nat → Int64) (g_revokes : Nat → Int64) (g_uses : Nat → Int32) (g_firstImages : Nat → Int32) (g_images : Nat → Int32) (r_29 : Int32) (r_37 : Int32) (r_52 : Int32) (k_underWay_52 : Int32) (k_homesUnderWay_52 : Int64) (k_on_52 : Int32) (k_stepsLeft_52 : Int32) (k_steps_52 : Int32) (k_down_52 : Nat → Int32) (k_written_52 : Nat → Int32) (k_order_52 : Nat → Int32) (g_size_52 : Int32) (g_imagesUsed_52 : Int32) (r_63 : Int32) (j_running_63 : Int64) (j_revoked_63 : Int64) (k_underWay_63 : Int32) (k_homesUnderWay_63 : Int64) (k_on_63 : Int32) (k_stepsLeft_63 : Int32) (k_steps_63 : Int32) (k_down_63 : Nat → Int32) (k_order_63 : Nat → Int32) (g_size_63 : Int32) (g_imagesUsed_63 : Int32) (g_blocks_63 : Nat → Int64) (g_revokes_63 : Nat → Int64) (g_uses_63 : Nat → Int32) (g_firstImages_63 : Nat → Int32) (g_images_63 : Nat → Int32) (hpre : pr_commit (j_ringBlocks, j_running, j_revoked, j_now) (k_underWay, k_homesUnderWay, k_on, k_stepsLeft, k_steps, k_down, k_written, k_order) (g_size, g_imagesUsed, g_blocks, g_revokes, g_uses, g_firstImages, g_images)) (c_7 : ¬ k_on = 0) (c_23 : ¬ (lg_cmp (j_running ||| j_revoked) 0) = 0) (w_29 : po_useOfRunning (j_ringBlocks, j_running, j_revoked, j_now) r_29) (w_37 : po_Log_used (g_size, g_imagesUsed, g_blocks, g_revokes, g_uses, g_firstImages, g_images) r_37) (c_48 : ¬ (r_37 + r_29) ≤ (j_ringBlocks - 1)) (w_52 : po_bringLogHome (j_ringBlocks, j_running, j_revoked, j_now) (k_underWay, k_homesUnderWay, k_on, k_stepsLeft, k_steps, k_down, k_written, k_order) (g_size, g_imagesUsed, g_blocks, g_revokes, g_uses, g_firstImages, g_images) r_52 (j_ringBlocks, j_running, j_revoked, j_now) (k_underWay_52, k_homesUnderWay_52, k_on_52, k_stepsLeft_52, k_steps_52, k_down_52, k_written_52, k_order_52) (g_size_52, g_imagesUsed_52, g_blocks, g_revokes, g_uses, g_firstImages, g_images)) (c_56 : ¬ r_52 = (-1)) (w_63 : po_writeTransaction r_29 (j_ringBlocks, j_running, j_revoked, j_now) (k_underWay_52, k_homesUnderWay_52, k_on_52, k_stepsLeft_52, k_steps_52, k_down_52, k_written_52, k_order_52) (g_size_52, g_imagesUsed_52, g_blocks, g_revokes, g_uses, g_firstImages, g_images) r_63 (j_ringBlocks, j_running_63, j_revoked_63, j_now) (k_underWay_63, k_homesUnderWay_63, k_on_63, k_stepsLeft_63, k_steps_63, k_down_63, k_written_52, k_order_63) (g_size_63, g_imagesUsed_63, g_blocks_63, g_revokes_63, g_uses_63, g_firstImages_63, g_images_63)) (c_66 : r_63 = 0) : po_commit (j_ringBlocks, j_running, j_revoked, j_now) (k_underWay, k_homesUnderWay, k_on, k_stepsLeft, k_steps, k_down, k_written, k_order) (g_size, g_imagesUsed, g_blocks, g_revokes, g_uses, g_firstImages, g_images) (-1) (j_ringBlocks, j_running_63, j_revoked_63, j_now) (k_underWay_63, k_homesUnderWay_63, k_on_63, k_stepsLeft_63, k_steps_63, k_down_63, k_written_52, k_order_63) (g_size_63, g_imagesUsed_63, g_blocks_63, g_revokes_63, g_uses_63, g_firstImages_63, g_images_63) := by
  intro σ hr hs
  obtain ⟨ring, run, rev, now, d, g⟩ := σ
  obtain ⟨e1, e2, e3, e4, hd1, hg⟩ := id hr
  obtain ⟨s1, s2, s3, s4⟩ := SW_wf hs
  have hsw : 40 ≤ ring ∧ ring ≤ 200 ∧ cnt run ≤ 30 ∧ sb_Fit now ∧ LW ring g := by
    obtain ⟨u, on, fu, st, ba, ho⟩ := d
    obtain ⟨h1, h2, h3, h4, h5, h6, h7, h8, h9, h10, h11⟩ := hs
    exact ⟨h1, h2, h4, h8, h11⟩
  obtain ⟨x1, x2, x3, x4, x5⟩ := hsw
  have wu : r_29 = nI (sUse run rev) := by
    have w : r_29 = nI (sUse j_running j_revoked) := w_29
    rw [w, e2, e3]
  obtain ⟨u1, u2, u3⟩ := use_le (rev := rev) x3
  have wd : r_37 = nI (sUsed g) := w_37 g hg s3
  have hu : sUsed g ≤ 199 := by
    obtain ⟨n, blk, rvk, us, fst, im⟩ := g
    have := x5.2.2.1
    show sumN us n ≤ 199
    omega
  have er : j_ringBlocks - 1 = nI (ring - 1) := by rw [e1]; exact pk_sub (b := 1) (by omega)
  have hgt : ring - 1 < sUsed g + sUse run rev := by
    rcases Nat.lt_or_ge (ring - 1) (sUsed g + sUse run rev) with z | z
    · exact z
    · exact absurd (by rw [wd, wu, nI_add, er]; exact nI_le z (by omega)) c_48
  have hon := s4 (on_t hd1 c_7)
  obtain ⟨b1, b2, b3⟩ := w_52 d g hd1 s1 hon hg s3
  obtain ⟨k1, k2, k3⟩ := clear_wf s1 hon s3
  have hly := cnt_le (sLying g)
  have hok : (sClear d g).1 = true := by
    cases z : (sClear d g).1
    · rw [z] at b1; exact absurd b1 c_56
    · rfl
  obtain ⟨k4, k5⟩ := k2 hok
  have hfit2 : fitT run (sUse run rev) now (sClear d g).2.2 := by
    rw [k5]
    refine ⟨okG_empty s3, u1, by omega, x4, ?_⟩
    have h0 := (okG_n (n := g.1) s3).2.2.1
    show g.2.2.2.2.1 0 + cnt run ≤ 200
    rw [h0]; omega
  have hnz : ¬ run ||| rev = 0 := fun z => c_23 (lgc0.mpr (by rw [e2, e3]; exact z))
  obtain ⟨a, q1, q2, q3⟩ := w_63 _ _ (sUse run rev) b2 k1 k4 b3 (by rw [e2, e4]; exact hfit2) wu
  rw [e2, e3, e4] at a q1 q2 q3
  rw [fC_go2 (on_t hd1 c_7) hnz hgt, if_pos hok, cg_e rfl]
  have q4 := congrArg (fun z : JRt => z.2.1) q3
  have q5 := congrArg (fun z : JRt => z.2.2.1) q3
  have z := b2i_0.mp (a.symm.trans c_66)
  rw [z]
  exact ⟨rfl, e1, q4, q5, e4, q1, q2⟩
theorem vc_commit_74_3 (j_ringBlocks : Int32) (j_running : Int64) (j_revoked : Int64) (j_now : Nat → Int32) (k_underWay : Int32) (k_homesUnderWay : Int64) (k_on : Int32) (k_stepsLeft : Int32) (k_steps : Int32) (k_down : Nat → Int32) (k_written : Nat → Int32) (k_order : Nat → Int32) (g_size : Int32) (g_imagesUsed : Int32) (g_blocks : Nat → Int64) (g_revokes : Nat → Int64) (g_uses : Nat → Int32) (g_firstImages : Nat → Int32) (g_images : Nat → Int32) (r_29 : Int32) (r_37 : Int32) (r_52 : Int32) (k_underWay_52 : Int32) (k_homesUnderWay_52 : Int64) (k_on_52 : Int32) (k_stepsLeft_52 : Int32) (k_steps_52 : Int32) (k_down_52 : Nat → Int32) (k_written_52 : Nat → Int32) (k_order_52 : Nat → Int32) (g_size_52 : Int32) (g_imagesUsed_52 : Int32) (r_63 : Int32) (j_running_63 : Int64) (j_revoked_63 : Int64) (k_underWay_63 : Int32) (k_homesUnderWay_63 : Int64) (k_on_63 : Int32) (k_stepsLeft_63 : Int32) (k_steps_63 : Int32) (k_down_63 : Nat → Int32) (k_order_63 : Nat → Int32) (g_size_63 : Int32) (g_imagesUsed_63 : Int32) (g_blocks_63 : Nat → Int64) (g_revokes_63 : Nat → Int64) (g_uses_63 : Nat → Int32) (g_firstImages_63 : Nat → Int32) (g_images_63 : Nat → Int32) (hpre : pr_commit (j_ringBlocks, j_running, j_revoked, j_now) (k_underWay, k_homesUnderWay, k_on, k_stepsLeft, k_steps, k_down, k_written, k_order) (g_size, g_imagesUsed, g_blocks, g_revokes, g_uses, g_firstImages, g_images)) (c_7 : ¬ k_on = 0) (c_23 : ¬ (lg_cmp (j_running ||| j_revoked) 0) = 0) (w_29 : po_useOfRunning (j_ringBlocks, j_running, j_revoked, j_now) r_29) (w_37 : po_Log_used (g_size, g_imagesUsed, g_blocks, g_revokes, g_uses, g_firstImages, g_images) r_37) (c_48 : ¬ (r_37 + r_29) ≤ (j_ringBlocks - 1)) (w_52 : po_bringLogHome (j_ringBlocks, j_running, j_revoked, j_now) (k_underWay, k_homesUnderWay, k_on, k_stepsLeft, k_steps, k_down, k_written, k_order) (g_size, g_imagesUsed, g_blocks, g_revokes, g_uses, g_firstImages, g_images) r_52 (j_ringBlocks, j_running, j_revoked, j_now) (k_underWay_52, k_homesUnderWay_52, k_on_52, k_stepsLeft_52, k_steps_52, k_down_52, k_written_52, k_order_52) (g_size_52, g_imagesUsed_52, g_blocks, g_revokes, g_uses, g_firstImages, g_images)) (c_56 : ¬ r_52 = (-1)) (w_63 : po_writeTransaction r_29 (j_ringBlocks, j_running, j_revoked, j_now) (k_underWay_52, k_homesUnderWay_52, k_on_52, k_stepsLeft_52, k_steps_52, k_down_52, k_written_52, k_order_52) (g_size_52, g_imagesUsed_52, g_blocks, g_revokes, g_uses, g_firstImages, g_images) r_63 (j_ringBlocks, j_running_63, j_revoked_63, j_now) (k_underWay_63, k_homesUnderWay_63, k_on_63, k_stepsLeft_63, k_steps_63, k_down_63, k_written_52, k_order_63) (g_size_63, g_imagesUsed_63, g_blocks_63, g_revokes_63, g_uses_63, g_firstImages_63, g_images_63)) (c_66 : ¬ r_63 = 0) : po_commit (j_ringBlocks, j_running, j_revoked, j_now) (k_underWay, k_homesUnderWay, k_on, k_stepsLeft, k_steps, k_down, k_written, k_order) (g_size, g_imagesUsed, g_blocks, g_revokes, g_uses, g_firstImages, g_images) r_29 (j_ringBlocks, j_running_63, j_revoked_63, j_now) (k_underWay_63, k_homesUnderWay_63, k_on_63, k_stepsLeft_63, k_steps_63, k_down_63, k_written_52, k_order_63) (g_size_63, g_imagesUsed_63, g_blocks_63, g_revokes_63, g_uses_63, g_firstImages_63, g_images_63) := by
  intro σ hr hs
  obtain ⟨ring, run, rev, now, d, g⟩ := σ
  obtain ⟨e1, e2, e3, e4, hd1, hg⟩ := id hr
  obtain ⟨s1, s2, s3, s4⟩ := SW_wf hs
  have hsw : 40 ≤ ring ∧ ring ≤ 200 ∧ cnt run ≤ 30 ∧ sb_Fit now ∧ LW ring g := by
    obtain ⟨u, on, fu, st, ba, ho⟩ := d
    obtain ⟨h1, h2, h3, h4, h5, h6, h7, h8, h9, h10, h11⟩ := hs
    exact ⟨h1, h2, h4, h8, h11⟩
  obtain ⟨x1, x2, x3, x4, x5⟩ := hsw
  have wu : r_29 = nI (sUse run rev) := by
    have w : r_29 = nI (sUse j_running j_revoked) := w_29
    rw [w, e2, e3]
  obtain ⟨u1, u2, u3⟩ := use_le (rev := rev) x3
  have wd : r_37 = nI (sUsed g) := w_37 g hg s3
  have hu : sUsed g ≤ 199 := by
    obtain ⟨n, blk, rvk, us, fst, im⟩ := g
    have := x5.2.2.1
    show sumN us n ≤ 199
    omega
  have er : j_ringBlocks - 1 = nI (ring - 1) := by rw [e1]; exact pk_sub (b := 1) (by omega)
  have hgt : ring - 1 < sUsed g + sUse run rev := by
    rcases Nat.lt_or_ge (ring - 1) (sUsed g + sUse run rev) with z | z
    · exact z
    · exact absurd (by rw [wd, wu, nI_add, er]; exact nI_le z (by omega)) c_48
  have hon := s4 (on_t hd1 c_7)
  obtain ⟨b1, b2, b3⟩ := w_52 d g hd1 s1 hon hg s3
  obtain ⟨k1, k2, k3⟩ := clear_wf s1 hon s3
  have hly := cnt_le (sLying g)
  have hok : (sClear d g).1 = true := by
    cases z : (sClear d g).1
    · rw [z] at b1; exact absurd b1 c_56
    · rfl
  obtain ⟨k4, k5⟩ := k2 hok
  have hfit2 : fitT run (sUse run rev) now (sClear d g).2.2 := by
    rw [k5]
    refine ⟨okG_empty s3, u1, by omega, x4, ?_⟩
    have h0 := (okG_n (n := g.1) s3).2.2.1
    show g.2.2.2.2.1 0 + cnt run ≤ 200
    rw [h0]; omega
  have hnz : ¬ run ||| rev = 0 := fun z => c_23 (lgc0.mpr (by rw [e2, e3]; exact z))
  obtain ⟨a, q1, q2, q3⟩ := w_63 _ _ (sUse run rev) b2 k1 k4 b3 (by rw [e2, e4]; exact hfit2) wu
  rw [e2, e3, e4] at a q1 q2 q3
  rw [fC_go2 (on_t hd1 c_7) hnz hgt, if_pos hok, cg_e rfl]
  have q4 := congrArg (fun z : JRt => z.2.1) q3
  have q5 := congrArg (fun z : JRt => z.2.2.1) q3
  have z := b2i_n0.mp (fun y => c_66 (a.trans y))
  rw [z]
  exact ⟨wu, e1, q4, q5, e4, q1, q2⟩
theorem vc_commit_60_0 (j_ringBlocks : Int32) (j_running : Int64) (j_revoked : Int64) (j_now : Nat → Int32) (k_underWay : Int32) (k_homesUnderWay : Int64) (k_on : Int32) (k_stepsLeft : Int32) (k_steps : Int32) (k_down : Nat → Int32) (k_written : Nat → Int32) (k_order : Nat → Int32) (g_size : Int32) (g_imagesUsed : Int32) (g_blocks : Nat → Int64) (g_revokes : Nat → Int64) (g_uses : Nat → Int32) (g_firstImages : Nat → Int32) (g_images : Nat → Int32) (r_29 : Int32) (r_37 : Int32) (r_52 : Int32) (k_underWay_52 : Int32) (k_homesUnderWay_52 : Int64) (k_on_52 : Int32) (k_stepsLeft_52 : Int32) (k_steps_52 : Int32) (k_down_52 : Nat → Int32) (k_written_52 : Nat → Int32) (k_order_52 : Nat → Int32) (g_size_52 : Int32) (g_imagesUsed_52 : Int32) (hpre : pr_commit (j_ringBlocks, j_running, j_revoked, j_now) (k_underWay, k_homesUnderWay, k_on, k_stepsLeft, k_steps, k_down, k_written, k_order) (g_size, g_imagesUsed, g_blocks, g_revokes, g_uses, g_firstImages, g_images)) (c_7 : ¬ k_on = 0) (c_23 : ¬ (lg_cmp (j_running ||| j_revoked) 0) = 0) (w_29 : po_useOfRunning (j_ringBlocks, j_running, j_revoked, j_now) r_29) (w_37 : po_Log_used (g_size, g_imagesUsed, g_blocks, g_revokes, g_uses, g_firstImages, g_images) r_37) (c_48 : ¬ (r_37 + r_29) ≤ (j_ringBlocks - 1)) (w_52 : po_bringLogHome (j_ringBlocks, j_running, j_revoked, j_now) (k_underWay, k_homesUnderWay, k_on, k_stepsLeft, k_steps, k_down, k_written, k_order) (g_size, g_imagesUsed, g_blocks, g_revokes, g_uses, g_firstImages, g_images) r_52 (j_ringBlocks, j_running, j_revoked, j_now) (k_underWay_52, k_homesUnderWay_52, k_on_52, k_stepsLeft_52, k_steps_52, k_down_52, k_written_52, k_order_52) (g_size_52, g_imagesUsed_52, g_blocks, g_revokes, g_uses, g_firstImages, g_images)) (c_56 : r_52 = (-1)) : po_commit (j_ringBlocks, j_running, j_revoked, j_now) (k_underWay, k_homesUnderWay, k_on, k_stepsLeft, k_steps, k_down, k_written, k_order) (g_size, g_imagesUsed, g_blocks, g_revokes, g_uses, g_firstImages, g_images) (-1) (j_ringBlocks, j_running, j_revoked, j_now) (k_underWay_52, k_homesUnderWay_52, k_on_52, k_stepsLeft_52, k_steps_52, k_down_52, k_written_52, k_order_52) (g_size_52, g_imagesUsed_52, g_blocks, g_revokes, g_uses, g_firstImages, g_images) := by
  intro σ hr hs
  obtain ⟨ring, run, rev, now, d, g⟩ := σ
  obtain ⟨e1, e2, e3, e4, hd1, hg⟩ := id hr
  obtain ⟨s1, s2, s3, s4⟩ := SW_wf hs
  have hsw : 40 ≤ ring ∧ ring ≤ 200 ∧ cnt run ≤ 30 ∧ sb_Fit now ∧ LW ring g := by
    obtain ⟨u, on, fu, st, ba, ho⟩ := d
    obtain ⟨h1, h2, h3, h4, h5, h6, h7, h8, h9, h10, h11⟩ := hs
    exact ⟨h1, h2, h4, h8, h11⟩
  obtain ⟨x1, x2, x3, x4, x5⟩ := hsw
  have wu : r_29 = nI (sUse run rev) := by
    have w : r_29 = nI (sUse j_running j_revoked) := w_29
    rw [w, e2, e3]
  obtain ⟨u1, u2, u3⟩ := use_le (rev := rev) x3
  have wd : r_37 = nI (sUsed g) := w_37 g hg s3
  have hu : sUsed g ≤ 199 := by
    obtain ⟨n, blk, rvk, us, fst, im⟩ := g
    have := x5.2.2.1
    show sumN us n ≤ 199
    omega
  have er : j_ringBlocks - 1 = nI (ring - 1) := by rw [e1]; exact pk_sub (b := 1) (by omega)
  have hgt : ring - 1 < sUsed g + sUse run rev := by
    rcases Nat.lt_or_ge (ring - 1) (sUsed g + sUse run rev) with z | z
    · exact z
    · exact absurd (by rw [wd, wu, nI_add, er]; exact nI_le z (by omega)) c_48
  have hon := s4 (on_t hd1 c_7)
  obtain ⟨b1, b2, b3⟩ := w_52 d g hd1 s1 hon hg s3
  obtain ⟨k1, k2, k3⟩ := clear_wf s1 hon s3
  have hly := cnt_le (sLying g)
  have hno : (sClear d g).1 = false := by
    cases z : (sClear d g).1
    · rfl
    · rw [z, c_56] at b1
      exact absurd (show (-1 : Int32) < 0 by decide) (by rw [b1]; exact nI_pos (by omega))
  have hnz : ¬ run ||| rev = 0 := fun z => c_23 (lgc0.mpr (by rw [e2, e3]; exact z))
  rw [fC_go2 (on_t hd1 c_7) hnz hgt, hno]
  exact ⟨rfl, e1, e2, e3, e4, b2, b3⟩
theorem vc_commit_27_0 (j_ringBlocks : Int32) (j_running : Int64) (j_revoked : Int64) (j_now : Nat → Int32) (k_underWay : Int32) (k_homesUnderWay : Int64) (k_on : Int32) (k_stepsLeft : Int32) (k_steps : Int32) (k_down : Nat → Int32) (k_written : Nat → Int32) (k_order : Nat → Int32) (g_size : Int32) (g_imagesUsed : Int32) (g_blocks : Nat → Int64) (g_revokes : Nat → Int64) (g_uses : Nat → Int32) (g_firstImages : Nat → Int32) (g_images : Nat → Int32) (hpre : pr_commit (j_ringBlocks, j_running, j_revoked, j_now) (k_underWay, k_homesUnderWay, k_on, k_stepsLeft, k_steps, k_down, k_written, k_order) (g_size, g_imagesUsed, g_blocks, g_revokes, g_uses, g_firstImages, g_images)) (c_7 : ¬ k_on = 0) (c_23 : (lg_cmp (j_running ||| j_revoked) 0) = 0) : po_commit (j_ringBlocks, j_running, j_revoked, j_now) (k_underWay, k_homesUnderWay, k_on, k_stepsLeft, k_steps, k_down, k_written, k_order) (g_size, g_imagesUsed, g_blocks, g_revokes, g_uses, g_firstImages, g_images) 0 (j_ringBlocks, j_running, j_revoked, j_now) (k_underWay, k_homesUnderWay, k_on, k_stepsLeft, k_steps, k_down, k_written, k_order) (g_size, g_imagesUsed, g_blocks, g_revokes, g_uses, g_firstImages, g_images) := by
  intro σ hr hs
  obtain ⟨ring, run, rev, now, d, g⟩ := σ
  obtain ⟨e1, e2, e3, e4, hd1, hg⟩ := id hr
  obtain ⟨s1, s2, s3, s4⟩ := SW_wf hs
  have hz : run ||| rev = 0 := by
    have := lgc0.mp c_23
    rw [e2, e3] at this; exact this
  rw [fC_none (on_t hd1 c_7) hz]
  exact ⟨rfl, hr⟩
theorem vc_commit_11_0 (j_ringBlocks : Int32) (j_running : Int64) (j_revoked : Int64) (j_now : Nat → Int32) (k_underWay : Int32) (k_homesUnderWay : Int64) (k_on : Int32) (k_stepsLeft : Int32) (k_steps : Int32) (k_down : Nat → Int32) (k_written : Nat → Int32) (k_order : Nat → Int32) (g_size : Int32) (g_imagesUsed : Int32) (g_blocks : Nat → Int64) (g_revokes : Nat → Int64) (g_uses : Nat → Int32) (g_firstImages : Nat → Int32) (g_images : Nat → Int32) (hpre : pr_commit (j_ringBlocks, j_running, j_revoked, j_now) (k_underWay, k_homesUnderWay, k_on, k_stepsLeft, k_steps, k_down, k_written, k_order) (g_size, g_imagesUsed, g_blocks, g_revokes, g_uses, g_firstImages, g_images)) (c_7 : k_on = 0) : po_commit (j_ringBlocks, j_running, j_revoked, j_now) (k_underWay, k_homesUnderWay, k_on, k_stepsLeft, k_steps, k_down, k_written, k_order) (g_size, g_imagesUsed, g_blocks, g_revokes, g_uses, g_firstImages, g_images) (-1) (j_ringBlocks, j_running, j_revoked, j_now) (k_underWay, k_homesUnderWay, k_on, k_stepsLeft, k_steps, k_down, k_written, k_order) (g_size, g_imagesUsed, g_blocks, g_revokes, g_uses, g_firstImages, g_images) := by
  intro σ hr hs
  obtain ⟨ring, run, rev, now, d, g⟩ := σ
  obtain ⟨e1, e2, e3, e4, hd1, hg⟩ := id hr
  obtain ⟨s1, s2, s3, s4⟩ := SW_wf hs
  rw [fC_off (on_f hd1 c_7)]
  exact ⟨rfl, hr⟩
theorem vc_clear_27_0 (j_ringBlocks : Int32) (j_running : Int64) (j_revoked : Int64) (j_now : Nat → Int32) (k_underWay : Int32) (k_homesUnderWay : Int64) (k_on : Int32) (k_stepsLeft : Int32) (k_steps : Int32) (k_down : Nat → Int32) (k_written : Nat → Int32) (k_order : Nat → Int32) (g_size : Int32) (g_imagesUsed : Int32) (g_blocks : Nat → Int64) (g_revokes : Nat → Int64) (g_uses : Nat → Int32) (g_firstImages : Nat → Int32) (g_images : Nat → Int32) (hpre : pr_clear (j_ringBlocks, j_running, j_revoked, j_now) (k_underWay, k_homesUnderWay, k_on, k_stepsLeft, k_steps, k_down, k_written, k_order) (g_size, g_imagesUsed, g_blocks, g_revokes, g_uses, g_firstImages, g_images)) (c_7 : ¬ k_on = 0) (c_19 : ¬ g_size = 0) : pr_bringLogHome (j_ringBlocks, j_running, j_revoked, j_now) (k_underWay, k_homesUnderWay, k_on, k_stepsLeft, k_steps, k_down, k_written, k_order) (g_size, g_imagesUsed, g_blocks, g_revokes, g_uses, g_firstImages, g_images) := by
  obtain ⟨⟨ring, run, rev, now, d, g⟩, hr, hs⟩ := hpre
  obtain ⟨e1, e2, e3, e4, hd1, hg⟩ := id hr
  obtain ⟨s1, s2, s3, s4⟩ := SW_wf hs
  exact ⟨d, g, hd1, s1, s4 (on_t hd1 c_7), hg, s3⟩
theorem vc_clear_30_0 (j_ringBlocks : Int32) (j_running : Int64) (j_revoked : Int64) (j_now : Nat → Int32) (k_underWay : Int32) (k_homesUnderWay : Int64) (k_on : Int32) (k_stepsLeft : Int32) (k_steps : Int32) (k_down : Nat → Int32) (k_written : Nat → Int32) (k_order : Nat → Int32) (g_size : Int32) (g_imagesUsed : Int32) (g_blocks : Nat → Int64) (g_revokes : Nat → Int64) (g_uses : Nat → Int32) (g_firstImages : Nat → Int32) (g_images : Nat → Int32) (r_27 : Int32) (k_underWay_27 : Int32) (k_homesUnderWay_27 : Int64) (k_on_27 : Int32) (k_stepsLeft_27 : Int32) (k_steps_27 : Int32) (k_down_27 : Nat → Int32) (k_written_27 : Nat → Int32) (k_order_27 : Nat → Int32) (g_size_27 : Int32) (g_imagesUsed_27 : Int32) (hpre : pr_clear (j_ringBlocks, j_running, j_revoked, j_now) (k_underWay, k_homesUnderWay, k_on, k_stepsLeft, k_steps, k_down, k_written, k_order) (g_size, g_imagesUsed, g_blocks, g_revokes, g_uses, g_firstImages, g_images)) (c_7 : ¬ k_on = 0) (c_19 : ¬ g_size = 0) (w_27 : po_bringLogHome (j_ringBlocks, j_running, j_revoked, j_now) (k_underWay, k_homesUnderWay, k_on, k_stepsLeft, k_steps, k_down, k_written, k_order) (g_size, g_imagesUsed, g_blocks, g_revokes, g_uses, g_firstImages, g_images) r_27 (j_ringBlocks, j_running, j_revoked, j_now) (k_underWay_27, k_homesUnderWay_27, k_on_27, k_stepsLeft_27, k_steps_27, k_down_27, k_written_27, k_order_27) (g_size_27, g_imagesUsed_27, g_blocks, g_revokes, g_uses, g_firstImages, g_images)) : po_clear (j_ringBlocks, j_running, j_revoked, j_now) (k_underWay, k_homesUnderWay, k_on, k_stepsLeft, k_steps, k_down, k_written, k_order) (g_size, g_imagesUsed, g_blocks, g_revokes, g_uses, g_firstImages, g_images) r_27 (j_ringBlocks, j_running, j_revoked, j_now) (k_underWay_27, k_homesUnderWay_27, k_on_27, k_stepsLeft_27, k_steps_27, k_down_27, k_written_27, k_order_27) (g_size_27, g_imagesUsed_27, g_blocks, g_revokes, g_uses, g_firstImages, g_images) := by
  intro σ hr hs
  obtain ⟨ring, run, rev, now, d, g⟩ := σ
  obtain ⟨e1, e2, e3, e4, hd1, hg⟩ := id hr
  obtain ⟨s1, s2, s3, s4⟩ := SW_wf hs
  have hz : ¬ g.1 = 0 := fun z => c_19 (by
    have : g_size = nI g.1 := hg.1
    rw [this, z]; rfl)
  obtain ⟨b1, b2, b3⟩ := w_27 d g hd1 s1 (s4 (on_t hd1 c_7)) hg s3
  rw [fCl_go (on_t hd1 c_7) hz]
  exact ⟨b1, e1, e2, e3, e4, b2, b3⟩
theorem vc_clear_30_1 (j_ringBlocks : Int32) (j_running : Int64) (j_revoked : Int64) (j_now : Nat → Int32) (k_underWay : Int32) (k_homesUnderWay : Int64) (k_on : Int32) (k_stepsLeft : Int32) (k_steps : Int32) (k_down : Nat → Int32) (k_written : Nat → Int32) (k_order : Nat → Int32) (g_size : Int32) (g_imagesUsed : Int32) (g_blocks : Nat → Int64) (g_revokes : Nat → Int64) (g_uses : Nat → Int32) (g_firstImages : Nat → Int32) (g_images : Nat → Int32) (hpre : pr_clear (j_ringBlocks, j_running, j_revoked, j_now) (k_underWay, k_homesUnderWay, k_on, k_stepsLeft, k_steps, k_down, k_written, k_order) (g_size, g_imagesUsed, g_blocks, g_revokes, g_uses, g_firstImages, g_images)) (c_7 : ¬ k_on = 0) (c_19 : g_size = 0) : po_clear (j_ringBlocks, j_running, j_revoked, j_now) (k_underWay, k_homesUnderWay, k_on, k_stepsLeft, k_steps, k_down, k_written, k_order) (g_size, g_imagesUsed, g_blocks, g_revokes, g_uses, g_firstImages, g_images) 0 (j_ringBlocks, j_running, j_revoked, j_now) (k_underWay, k_homesUnderWay, k_on, k_stepsLeft, k_steps, k_down, k_written, k_order) (g_size, g_imagesUsed, g_blocks, g_revokes, g_uses, g_firstImages, g_images) := by
  intro σ hr hs
  obtain ⟨ring, run, rev, now, d, g⟩ := σ
  obtain ⟨e1, e2, e3, e4, hd1, hg⟩ := id hr
  obtain ⟨s1, s2, s3, s4⟩ := SW_wf hs
  have hz : g.1 = 0 := by
    have h1 : g_size = nI g.1 := hg.1
    have h2 := (okG_n (n := g.1) s3).1
    exact (nI_eq (b := 0) (by omega) (by decide)).mp (h1.symm.trans c_19)
  rw [fCl_none (on_t hd1 c_7) hz]
  exact ⟨rfl, hr⟩
theorem vc_clear_11_0 (j_ringBlocks : Int32) (j_running : Int64) (j_revoked : Int64) (j_now : Nat → Int32) (k_underWay : Int32) (k_homesUnderWay : Int64) (k_on : Int32) (k_stepsLeft : Int32) (k_steps : Int32) (k_down : Nat → Int32) (k_written : Nat → Int32) (k_order : Nat → Int32) (g_size : Int32) (g_imagesUsed : Int32) (g_blocks : Nat → Int64) (g_revokes : Nat → Int64) (g_uses : Nat → Int32) (g_firstImages : Nat → Int32) (g_images : Nat → Int32) (hpre : pr_clear (j_ringBlocks, j_running, j_revoked, j_now) (k_underWay, k_homesUnderWay, k_on, k_stepsLeft, k_steps, k_down, k_written, k_order) (g_size, g_imagesUsed, g_blocks, g_revokes, g_uses, g_firstImages, g_images)) (c_7 : k_on = 0) : po_clear (j_ringBlocks, j_running, j_revoked, j_now) (k_underWay, k_homesUnderWay, k_on, k_stepsLeft, k_steps, k_down, k_written, k_order) (g_size, g_imagesUsed, g_blocks, g_revokes, g_uses, g_firstImages, g_images) (-1) (j_ringBlocks, j_running, j_revoked, j_now) (k_underWay, k_homesUnderWay, k_on, k_stepsLeft, k_steps, k_down, k_written, k_order) (g_size, g_imagesUsed, g_blocks, g_revokes, g_uses, g_firstImages, g_images) := by
  intro σ hr hs
  obtain ⟨ring, run, rev, now, d, g⟩ := σ
  obtain ⟨e1, e2, e3, e4, hd1, hg⟩ := id hr
  obtain ⟨s1, s2, s3, s4⟩ := SW_wf hs
  rw [fCl_off (on_f hd1 c_7)]
  exact ⟨rfl, hr⟩
theorem vc_fuse_25_0 (a_n : Int32) (j_ringBlocks : Int32) (j_running : Int64) (j_revoked : Int64) (j_now : Nat → Int32) (k_underWay : Int32) (k_homesUnderWay : Int64) (k_on : Int32) (k_stepsLeft : Int32) (k_steps : Int32) (k_down : Nat → Int32) (k_written : Nat → Int32) (k_order : Nat → Int32) (g_size : Int32) (g_imagesUsed : Int32) (g_blocks : Nat → Int64) (g_revokes : Nat → Int64) (g_uses : Nat → Int32) (g_firstImages : Nat → Int32) (g_images : Nat → Int32) (hpre : pr_fuse a_n (j_ringBlocks, j_running, j_revoked, j_now) (k_underWay, k_homesUnderWay, k_on, k_stepsLeft, k_steps, k_down, k_written, k_order) (g_size, g_imagesUsed, g_blocks, g_revokes, g_uses, g_firstImages, g_images)) (c_7 : ¬ k_on = 0) (c_14 : a_n < (-1)) : po_fuse a_n (j_ringBlocks, j_running, j_revoked, j_now) (k_underWay, k_homesUnderWay, k_on, k_stepsLeft, k_steps, k_down, k_written, k_order) (g_size, g_imagesUsed, g_blocks, g_revokes, g_uses, g_firstImages, g_images) (-2) (j_ringBlocks, j_running, j_revoked, j_now) (k_underWay, k_homesUnderWay, k_on, k_stepsLeft, k_steps, k_down, k_written, k_order) (g_size, g_imagesUsed, g_blocks, g_revokes, g_uses, g_firstImages, g_images) := by
  intro σ hr hs
  obtain ⟨ring, run, rev, now, ⟨u, on, fu, st, ba, ho⟩, g⟩ := σ
  obtain ⟨e1, e2, e3, e4, hd1, hg⟩ := id hr
  obtain ⟨b1, b2, b3, b4, b5, b6, b7, b8⟩ := id hd1
  have hon : on = true := on_t hd1 c_7
  subst hon
  have e : fFuse a_n (ring, run, rev, now, (u, true, fu, st, ba, ho), g) = (-2, (ring, run, rev, now, (u, true, fu, st, ba, ho), g)) := (if_pos (Or.inl c_14))
  rw [e]
  exact ⟨rfl, hr⟩
theorem vc_fuse_43_0 (a_n : Int32) (j_ringBlocks : Int32) (j_running : Int64) (j_revoked : Int64) (j_now : Nat → Int32) (k_underWay : Int32) (k_homesUnderWay : Int64) (k_on : Int32) (k_stepsLeft : Int32) (k_steps : Int32) (k_down : Nat → Int32) (k_written : Nat → Int32) (k_order : Nat → Int32) (g_size : Int32) (g_imagesUsed : Int32) (g_blocks : Nat → Int64) (g_revokes : Nat → Int64) (g_uses : Nat → Int32) (g_firstImages : Nat → Int32) (g_images : Nat → Int32) (hpre : pr_fuse a_n (j_ringBlocks, j_running, j_revoked, j_now) (k_underWay, k_homesUnderWay, k_on, k_stepsLeft, k_steps, k_down, k_written, k_order) (g_size, g_imagesUsed, g_blocks, g_revokes, g_uses, g_firstImages, g_images)) (c_7 : ¬ k_on = 0) (c_14 : ¬ a_n < (-1)) (c_20 : a_n ≤ 100000) : po_fuse a_n (j_ringBlocks, j_running, j_revoked, j_now) (k_underWay, k_homesUnderWay, k_on, k_stepsLeft, k_steps, k_down, k_written, k_order) (g_size, g_imagesUsed, g_blocks, g_revokes, g_uses, g_firstImages, g_images) k_stepsLeft (j_ringBlocks, j_running, j_revoked, j_now) (k_underWay, k_homesUnderWay, k_on, a_n, k_steps, k_down, k_written, k_order) (g_size, g_imagesUsed, g_blocks, g_revokes, g_uses, g_firstImages, g_images) := by
  intro σ hr hs
  obtain ⟨ring, run, rev, now, ⟨u, on, fu, st, ba, ho⟩, g⟩ := σ
  obtain ⟨e1, e2, e3, e4, hd1, hg⟩ := id hr
  obtain ⟨b1, b2, b3, b4, b5, b6, b7, b8⟩ := id hd1
  have hon : on = true := on_t hd1 c_7
  subst hon
  have e : fFuse a_n (ring, run, rev, now, (u, true, fu, st, ba, ho), g) = (fu, (ring, run, rev, now, (u, true, a_n, st, ba, ho), g)) := (if_neg (fun z => z.elim c_14 (fun y => absurd c_20 (Int32.not_le.mpr y))))
  rw [e]
  exact ⟨b5, e1, e2, e3, e4, ⟨b1, b2, b3, b4, rfl, b6, b7, b8⟩, hg⟩
theorem vc_fuse_25_1 (a_n : Int32) (j_ringBlocks : Int32) (j_running : Int64) (j_revoked : Int64) (j_now : Nat → Int32) (k_underWay : Int32) (k_homesUnderWay : Int64) (k_on : Int32) (k_stepsLeft : Int32) (k_steps : Int32) (k_down : Nat → Int32) (k_written : Nat → Int32) (k_order : Nat → Int32) (g_size : Int32) (g_imagesUsed : Int32) (g_blocks : Nat → Int64) (g_revokes : Nat → Int64) (g_uses : Nat → Int32) (g_firstImages : Nat → Int32) (g_images : Nat → Int32) (hpre : pr_fuse a_n (j_ringBlocks, j_running, j_revoked, j_now) (k_underWay, k_homesUnderWay, k_on, k_stepsLeft, k_steps, k_down, k_written, k_order) (g_size, g_imagesUsed, g_blocks, g_revokes, g_uses, g_firstImages, g_images)) (c_7 : ¬ k_on = 0) (c_14 : ¬ a_n < (-1)) (c_20 : ¬ a_n ≤ 100000) : po_fuse a_n (j_ringBlocks, j_running, j_revoked, j_now) (k_underWay, k_homesUnderWay, k_on, k_stepsLeft, k_steps, k_down, k_written, k_order) (g_size, g_imagesUsed, g_blocks, g_revokes, g_uses, g_firstImages, g_images) (-2) (j_ringBlocks, j_running, j_revoked, j_now) (k_underWay, k_homesUnderWay, k_on, k_stepsLeft, k_steps, k_down, k_written, k_order) (g_size, g_imagesUsed, g_blocks, g_revokes, g_uses, g_firstImages, g_images) := by
  intro σ hr hs
  obtain ⟨ring, run, rev, now, ⟨u, on, fu, st, ba, ho⟩, g⟩ := σ
  obtain ⟨e1, e2, e3, e4, hd1, hg⟩ := id hr
  obtain ⟨b1, b2, b3, b4, b5, b6, b7, b8⟩ := id hd1
  have hon : on = true := on_t hd1 c_7
  subst hon
  have e : fFuse a_n (ring, run, rev, now, (u, true, fu, st, ba, ho), g) = (-2, (ring, run, rev, now, (u, true, fu, st, ba, ho), g)) := (if_pos (Or.inr (Int32.not_le.mp c_20)))
  rw [e]
  exact ⟨rfl, hr⟩
theorem vc_fuse_11_0 (a_n : Int32) (j_ringBlocks : Int32) (j_running : Int64) (j_revoked : Int64) (j_now : Nat → Int32) (k_underWay : Int32) (k_homesUnderWay : Int64) (k_on : Int32) (k_stepsLeft : Int32) (k_steps : Int32) (k_down : Nat → Int32) (k_written : Nat → Int32) (k_order : Nat → Int32) (g_size : Int32) (g_imagesUsed : Int32) (g_blocks : Nat → Int64) (g_revokes : Nat → Int64) (g_uses : Nat → Int32) (g_firstImages : Nat → Int32) (g_images : Nat → Int32) (hpre : pr_fuse a_n (j_ringBlocks, j_running, j_revoked, j_now) (k_underWay, k_homesUnderWay, k_on, k_stepsLeft, k_steps, k_down, k_written, k_order) (g_size, g_imagesUsed, g_blocks, g_revokes, g_uses, g_firstImages, g_images)) (c_7 : k_on = 0) : po_fuse a_n (j_ringBlocks, j_running, j_revoked, j_now) (k_underWay, k_homesUnderWay, k_on, k_stepsLeft, k_steps, k_down, k_written, k_order) (g_size, g_imagesUsed, g_blocks, g_revokes, g_uses, g_firstImages, g_images) (-1) (j_ringBlocks, j_running, j_revoked, j_now) (k_underWay, k_homesUnderWay, k_on, k_stepsLeft, k_steps, k_down, k_written, k_order) (g_size, g_imagesUsed, g_blocks, g_revokes, g_uses, g_firstImages, g_images) := by
  intro σ hr hs
  obtain ⟨ring, run, rev, now, ⟨u, on, fu, st, ba, ho⟩, g⟩ := σ
  obtain ⟨e1, e2, e3, e4, hd1, hg⟩ := id hr
  obtain ⟨b1, b2, b3, b4, b5, b6, b7, b8⟩ := id hd1
  have hon : on = false := on_f hd1 c_7
  subst hon
  exact ⟨rfl, hr⟩
theorem vc_fail_27_0 (j_ringBlocks : Int32) (j_running : Int64) (j_revoked : Int64) (j_now : Nat → Int32) (k_underWay : Int32) (k_homesUnderWay : Int64) (k_on : Int32) (k_stepsLeft : Int32) (k_steps : Int32) (k_down : Nat → Int32) (k_written : Nat → Int32) (k_order : Nat → Int32) (g_size : Int32) (g_imagesUsed : Int32) (g_blocks : Nat → Int64) (g_revokes : Nat → Int64) (g_uses : Nat → Int32) (g_firstImages : Nat → Int32) (g_images : Nat → Int32) (hpre : pr_fail (j_ringBlocks, j_running, j_revoked, j_now) (k_underWay, k_homesUnderWay, k_on, k_stepsLeft, k_steps, k_down, k_written, k_order) (g_size, g_imagesUsed, g_blocks, g_revokes, g_uses, g_firstImages, g_images)) (c_7 : ¬ k_on = 0) : po_fail (j_ringBlocks, j_running, j_revoked, j_now) (k_underWay, k_homesUnderWay, k_on, k_stepsLeft, k_steps, k_down, k_written, k_order) (g_size, g_imagesUsed, g_blocks, g_revokes, g_uses, g_firstImages, g_images) k_underWay (j_ringBlocks, j_running, j_revoked, j_now) (k_underWay, k_homesUnderWay, 0, k_stepsLeft, k_steps, k_down, k_written, k_order) (g_size, g_imagesUsed, g_blocks, g_revokes, g_uses, g_firstImages, g_images) := by
  intro σ hr hs
  obtain ⟨ring, run, rev, now, ⟨u, on, fu, st, ba, ho⟩, g⟩ := σ
  obtain ⟨e1, e2, e3, e4, hd1, hg⟩ := id hr
  obtain ⟨b1, b2, b3, b4, b5, b6, b7, b8⟩ := id hd1
  have hon : on = true := on_t hd1 c_7
  subst hon
  have e : fFail (ring, run, rev, now, (u, true, fu, st, ba, ho), g) = (nI u.length, (ring, run, rev, now, (u, false, fu, st, ba, ho), g)) := rfl
  rw [e]
  exact ⟨b1, e1, e2, e3, e4, ⟨b1, b2, b3, rfl, b5, b6, b7, b8⟩, hg⟩
theorem vc_fail_11_0 (j_ringBlocks : Int32) (j_running : Int64) (j_revoked : Int64) (j_now : Nat → Int32) (k_underWay : Int32) (k_homesUnderWay : Int64) (k_on : Int32) (k_stepsLeft : Int32) (k_steps : Int32) (k_down : Nat → Int32) (k_written : Nat → Int32) (k_order : Nat → Int32) (g_size : Int32) (g_imagesUsed : Int32) (g_blocks : Nat → Int64) (g_revokes : Nat → Int64) (g_uses : Nat → Int32) (g_firstImages : Nat → Int32) (g_images : Nat → Int32) (hpre : pr_fail (j_ringBlocks, j_running, j_revoked, j_now) (k_underWay, k_homesUnderWay, k_on, k_stepsLeft, k_steps, k_down, k_written, k_order) (g_size, g_imagesUsed, g_blocks, g_revokes, g_uses, g_firstImages, g_images)) (c_7 : k_on = 0) : po_fail (j_ringBlocks, j_running, j_revoked, j_now) (k_underWay, k_homesUnderWay, k_on, k_stepsLeft, k_steps, k_down, k_written, k_order) (g_size, g_imagesUsed, g_blocks, g_revokes, g_uses, g_firstImages, g_images) (-1) (j_ringBlocks, j_running, j_revoked, j_now) (k_underWay, k_homesUnderWay, k_on, k_stepsLeft, k_steps, k_down, k_written, k_order) (g_size, g_imagesUsed, g_blocks, g_revokes, g_uses, g_firstImages, g_images) := by
  intro σ hr hs
  obtain ⟨ring, run, rev, now, ⟨u, on, fu, st, ba, ho⟩, g⟩ := σ
  obtain ⟨e1, e2, e3, e4, hd1, hg⟩ := id hr
  obtain ⟨b1, b2, b3, b4, b5, b6, b7, b8⟩ := id hd1
  have hon : on = false := on_f hd1 c_7
  subst hon
  exact ⟨rfl, hr⟩
theorem vc_mount_15_0 (a_bits : Int64) (j_ringBlocks : Int32) (j_running : Int64) (j_revoked : Int64) (j_now : Nat → Int32) (k_underWay : Int32) (k_homesUnderWay : Int64) (k_on : Int32) (k_stepsLeft : Int32) (k_steps : Int32) (k_down : Nat → Int32) (k_written : Nat → Int32) (k_order : Nat → Int32) (g_size : Int32) (g_imagesUsed : Int32) (g_blocks : Nat → Int64) (g_revokes : Nat → Int64) (g_uses : Nat → Int32) (g_firstImages : Nat → Int32) (g_images : Nat → Int32) (hpre : pr_mount a_bits (j_ringBlocks, j_running, j_revoked, j_now) (k_underWay, k_homesUnderWay, k_on, k_stepsLeft, k_steps, k_down, k_written, k_order) (g_size, g_imagesUsed, g_blocks, g_revokes, g_uses, g_firstImages, g_images)) (c_7 : k_on = 0) : pr_settleLog a_bits (j_ringBlocks, j_running, j_revoked, j_now) (k_underWay, k_homesUnderWay, k_on, k_stepsLeft, k_steps, k_down, k_written, k_order) (g_size, g_imagesUsed, g_blocks, g_revokes, g_uses, g_firstImages, g_images) := by
  obtain ⟨d, g, hd1, hw, hg, ho, hh, hn, hf⟩ := okS_wf hpre
  exact ⟨d, hd1, hw, g, hg, ho⟩
theorem vc_mount_23_0 (a_bits : Int64) (j_ringBlocks : Int32) (j_running : Int64) (j_revoked : Int64) (j_now : Nat → Int32) (k_underWay : Int32) (k_homesUnderWay : Int64) (k_on : Int32) (k_stepsLeft : Int32) (k_steps : Int32) (k_down : Nat → Int32) (k_written : Nat → Int32) (k_order : Nat → Int32) (g_size : Int32) (g_imagesUsed : Int32) (g_blocks : Nat → Int64) (g_revokes : Nat → Int64) (g_uses : Nat → Int32) (g_firstImages : Nat → Int32) (g_images : Nat → Int32) (g_size_15 : Int32) (g_imagesUsed_15 : Int32) (hpre : pr_mount a_bits (j_ringBlocks, j_running, j_revoked, j_now) (k_underWay, k_homesUnderWay, k_on, k_stepsLeft, k_steps, k_down, k_written, k_order) (g_size, g_imagesUsed, g_blocks, g_revokes, g_uses, g_firstImages, g_images)) (c_7 : k_on = 0) (w_15 : po_settleLog a_bits (j_ringBlocks, j_running, j_revoked, j_now) (k_underWay, k_homesUnderWay, k_on, k_stepsLeft, k_steps, k_down, k_written, k_order) (g_size, g_imagesUsed, g_blocks, g_revokes, g_uses, g_firstImages, g_images) (j_ringBlocks, j_running, j_revoked, j_now) (k_underWay, k_homesUnderWay, k_on, k_stepsLeft, k_steps, k_down, k_written, k_order) (g_size_15, g_imagesUsed_15, g_blocks, g_revokes, g_uses, g_firstImages, g_images)) : pr_Disk_settle a_bits (k_underWay, k_homesUnderWay, k_on, k_stepsLeft, k_steps, k_down, k_written, k_order) := by
  obtain ⟨d, g, hd1, hw, hg, ho, hh, hn, hf⟩ := okS_wf hpre
  exact ⟨d, hd1, hw, hh⟩
theorem vc_mount_35_0 (a_bits : Int64) (j_ringBlocks : Int32) (j_running : Int64) (j_revoked : Int64) (j_now : Nat → Int32) (k_underWay : Int32) (k_homesUnderWay : Int64) (k_on : Int32) (k_stepsLeft : Int32) (k_steps : Int32) (k_down : Nat → Int32) (k_written : Nat → Int32) (k_order : Nat → Int32) (g_size : Int32) (g_imagesUsed : Int32) (g_blocks : Nat → Int64) (g_revokes : Nat → Int64) (g_uses : Nat → Int32) (g_firstImages : Nat → Int32) (g_images : Nat → Int32) (g_size_15 : Int32) (g_imagesUsed_15 : Int32) (k_underWay_23 : Int32) (k_homesUnderWay_23 : Int64) (k_down_23 : Nat → Int32) (k_written_23 : Nat → Int32) (hpre : pr_mount a_bits (j_ringBlocks, j_running, j_revoked, j_now) (k_underWay, k_homesUnderWay, k_on, k_stepsLeft, k_steps, k_down, k_written, k_order) (g_size, g_imagesUsed, g_blocks, g_revokes, g_uses, g_firstImages, g_images)) (c_7 : k_on = 0) (w_15 : po_settleLog a_bits (j_ringBlocks, j_running, j_revoked, j_now) (k_underWay, k_homesUnderWay, k_on, k_stepsLeft, k_steps, k_down, k_written, k_order) (g_size, g_imagesUsed, g_blocks, g_revokes, g_uses, g_firstImages, g_images) (j_ringBlocks, j_running, j_revoked, j_now) (k_underWay, k_homesUnderWay, k_on, k_stepsLeft, k_steps, k_down, k_written, k_order) (g_size_15, g_imagesUsed_15, g_blocks, g_revokes, g_uses, g_firstImages, g_images)) (w_23 : po_Disk_settle a_bits (k_underWay, k_homesUnderWay, k_on, k_stepsLeft, k_steps, k_down, k_written, k_order) (k_underWay_23, k_homesUnderWay_23, k_on, k_stepsLeft, k_steps, k_down_23, k_written_23, k_order)) : pr_dropRunning (j_ringBlocks, j_running, j_revoked, j_now) := by
  trivial
theorem vc_mount_53_0 (a_bits : Int64) (j_ringBlocks : Int32) (j_running : Int64) (j_revoked : Int64) (j_now : Nat → Int32) (k_underWay : Int32) (k_homesUnderWay : Int64) (k_on : Int32) (k_stepsLeft : Int32) (k_steps : Int32) (k_down : Nat → Int32) (k_written : Nat → Int32) (k_order : Nat → Int32) (g_size : Int32) (g_imagesUsed : Int32) (g_blocks : Nat → Int64) (g_revokes : Nat → Int64) (g_uses : Nat → Int32) (g_firstImages : Nat → Int32) (g_images : Nat → Int32) (g_size_15 : Int32) (g_imagesUsed_15 : Int32) (k_underWay_23 : Int32) (k_homesUnderWay_23 : Int64) (k_down_23 : Nat → Int32) (k_written_23 : Nat → Int32) (j_running_35 : Int64) (j_revoked_35 : Int64) (hpre : pr_mount a_bits (j_ringBlocks, j_running, j_revoked, j_now) (k_underWay, k_homesUnderWay, k_on, k_stepsLeft, k_steps, k_down, k_written, k_order) (g_size, g_imagesUsed, g_blocks, g_revokes, g_uses, g_firstImages, g_images)) (c_7 : k_on = 0) (w_15 : po_settleLog a_bits (j_ringBlocks, j_running, j_revoked, j_now) (k_underWay, k_homesUnderWay, k_on, k_stepsLeft, k_steps, k_down, k_written, k_order) (g_size, g_imagesUsed, g_blocks, g_revokes, g_uses, g_firstImages, g_images) (j_ringBlocks, j_running, j_revoked, j_now) (k_underWay, k_homesUnderWay, k_on, k_stepsLeft, k_steps, k_down, k_written, k_order) (g_size_15, g_imagesUsed_15, g_blocks, g_revokes, g_uses, g_firstImages, g_images)) (w_23 : po_Disk_settle a_bits (k_underWay, k_homesUnderWay, k_on, k_stepsLeft, k_steps, k_down, k_written, k_order) (k_underWay_23, k_homesUnderWay_23, k_on, k_stepsLeft, k_steps, k_down_23, k_written_23, k_order)) (w_35 : po_dropRunning (j_ringBlocks, j_running, j_revoked, j_now) (j_ringBlocks, j_running_35, j_revoked_35, j_now)) (c_45 : ¬ g_size_15 = 0) : pr_replay (j_ringBlocks, j_running_35, j_revoked_35, j_now) (k_underWay_23, k_homesUnderWay_23, 1, k_stepsLeft, k_steps, k_down_23, k_written_23, k_order) (g_size_15, g_imagesUsed_15, g_blocks, g_revokes, g_uses, g_firstImages, g_images) := by
  obtain ⟨⟨ring, run, rev, now, ⟨u, on, fu, st, ba, ho⟩, g⟩, hr, hs⟩ := hpre
  obtain ⟨e1, e2, e3, e4, hd1, hg⟩ := id hr
  obtain ⟨s1, s2, s3, s4⟩ := SW_wf hs
  have wg := w_15 (u, on, fu, st, ba, ho) g hd1 s1 hg s3
  have wo : okG (sLogMount a_bits u g) := logM_wf s3
  have wk := w_23 (u, on, fu, st, ba, ho) hd1 s1 s2
  have wk2 : RD (sSettle a_bits (u, true, fu, st, ba, ho)) (k_underWay_23, k_homesUnderWay_23, 1, k_stepsLeft, k_steps, k_down_23, k_written_23, k_order) := by
    obtain ⟨c1, c2, c3, c4, c5, c6, c7, c8⟩ := wk
    exact ⟨c1, c2, c3, rfl, c5, c6, c7, c8⟩
  have wd : DW (sSettle a_bits (u, true, fu, st, ba, ho)) := settle_wf s1.2.2.1 s1.2.2.2
  exact ⟨_, _, wk2, wd, rfl, wg, wo⟩
theorem vc_mount_73_0 (a_bits : Int64) (j_ringBlocks : Int32) (j_running : Int64) (j_revoked : Int64) (j_now : Nat → Int32) (k_underWay : Int32) (k_homesUnderWay : Int64) (k_on : Int32) (k_stepsLeft : Int32) (k_steps : Int32) (k_down : Nat → Int32) (k_written : Nat → Int32) (k_order : Nat → Int32) (g_size : Int32) (g_imagesUsed : Int32) (g_blocks : Nat → Int64) (g_revokes : Nat → Int64) (g_uses : Nat → Int32) (g_firstImages : Nat → Int32) (g_images : Nat → Int32) (g_size_15 : Int32) (g_imagesUsed_15 : Int32) (k_underWay_23 : Int32) (k_homesUnderWay_23 : Int64) (k_down_23 : Nat → Int32) (k_written_23 : Nat → Int32) (j_running_35 : Int64) (j_revoked_35 : Int64) (r_53 : Int32) (k_underWay_53 : Int32) (k_homesUnderWay_53 : Int64) (k_on_53 : Int32) (k_stepsLeft_53 : Int32) (k_steps_53 : Int32) (k_down_53 : Nat → Int32) (k_written_53 : Nat → Int32) (k_order_53 : Nat → Int32) (g_size_53 : Int32) (g_imagesUsed_53 : Int32) (hpre : pr_mount a_bits (j_ringBlocks, j_running, j_revoked, j_now) (k_underWay, k_homesUnderWay, k_on, k_stepsLeft, k_steps, k_down, k_written, k_order) (g_size, g_imagesUsed, g_blocks, g_revokes, g_uses, g_firstImages, g_images)) (c_7 : k_on = 0) (w_15 : po_settleLog a_bits (j_ringBlocks, j_running, j_revoked, j_now) (k_underWay, k_homesUnderWay, k_on, k_stepsLeft, k_steps, k_down, k_written, k_order) (g_size, g_imagesUsed, g_blocks, g_revokes, g_uses, g_firstImages, g_images) (j_ringBlocks, j_running, j_revoked, j_now) (k_underWay, k_homesUnderWay, k_on, k_stepsLeft, k_steps, k_down, k_written, k_order) (g_size_15, g_imagesUsed_15, g_blocks, g_revokes, g_uses, g_firstImages, g_images)) (w_23 : po_Disk_settle a_bits (k_underWay, k_homesUnderWay, k_on, k_stepsLeft, k_steps, k_down, k_written, k_order) (k_underWay_23, k_homesUnderWay_23, k_on, k_stepsLeft, k_steps, k_down_23, k_written_23, k_order)) (w_35 : po_dropRunning (j_ringBlocks, j_running, j_revoked, j_now) (j_ringBlocks, j_running_35, j_revoked_35, j_now)) (c_45 : ¬ g_size_15 = 0) (w_53 : po_replay (j_ringBlocks, j_running_35, j_revoked_35, j_now) (k_underWay_23, k_homesUnderWay_23, 1, k_stepsLeft, k_steps, k_down_23, k_written_23, k_order) (g_size_15, g_imagesUsed_15, g_blocks, g_revokes, g_uses, g_firstImages, g_images) r_53 (j_ringBlocks, j_running_35, j_revoked_35, j_now) (k_underWay_53, k_homesUnderWay_53, k_on_53, k_stepsLeft_53, k_steps_53, k_down_53, k_written_53, k_order_53) (g_size_53, g_imagesUsed_53, g_blocks, g_revokes, g_uses, g_firstImages, g_images)) : ¬ (0 : Int32) < 0 ∧ ¬ (0 : Int32) < 0 ∧ ¬ (16384 : Int32) < 0 ∧ (0 : Int32).toNatClampNeg + (16384 : Int32).toNatClampNeg ≤ 16384 ∧ (0 : Int32).toNatClampNeg + (16384 : Int32).toNatClampNeg ≤ 16384 ∧ ∀ i, i < (16384 : Int32).toNatClampNeg → fits .byte (.int (k_written_53 ((0 : Int32).toNatClampNeg + i))) = true := by
  obtain ⟨⟨ring, run, rev, now, ⟨u, on, fu, st, ba, ho⟩, g⟩, hr, hs⟩ := hpre
  obtain ⟨e1, e2, e3, e4, hd1, hg⟩ := id hr
  obtain ⟨s1, s2, s3, s4⟩ := SW_wf hs
  have wg := w_15 (u, on, fu, st, ba, ho) g hd1 s1 hg s3
  have wo : okG (sLogMount a_bits u g) := logM_wf s3
  have wk := w_23 (u, on, fu, st, ba, ho) hd1 s1 s2
  have wk2 : RD (sSettle a_bits (u, true, fu, st, ba, ho)) (k_underWay_23, k_homesUnderWay_23, 1, k_stepsLeft, k_steps, k_down_23, k_written_23, k_order) := by
    obtain ⟨c1, c2, c3, c4, c5, c6, c7, c8⟩ := wk
    exact ⟨c1, c2, c3, rfl, c5, c6, c7, c8⟩
  have wd : DW (sSettle a_bits (u, true, fu, st, ba, ho)) := settle_wf s1.2.2.1 s1.2.2.2
  obtain ⟨a, q1, q2⟩ := w_53 _ _ wk2 wd rfl wg wo
  have hw := replay_wf wd rfl wo
  have z0 : (0 : Int32).toNatClampNeg = 0 := by decide
  have z1 : (16384 : Int32).toNatClampNeg = 16384 := by decide
  rw [z0, z1]
  have b8 : k_written_53 = (sReplay (sSettle a_bits (u, true, fu, st, ba, ho)) (sLogMount a_bits u g)).2.1.2.2.2.2.2 := q1.2.2.2.2.2.2.2
  exact ⟨by decide, by decide, by decide, by decide, by decide, fun i _ => by rw [b8]; exact hw.2.2.2 _⟩
theorem vc_mount_77_0 (a_bits : Int64) (j_ringBlocks : Int32) (j_running : Int64) (j_revoked : Int64) (j_now : Nat → Int32) (k_underWay : Int32) (k_homesUnderWay : Int64) (k_on : Int32) (k_stepsLeft : Int32) (k_steps : Int32) (k_down : Nat → Int32) (k_written : Nat → Int32) (k_order : Nat → Int32) (g_size : Int32) (g_imagesUsed : Int32) (g_blocks : Nat → Int64) (g_revokes : Nat → Int64) (g_uses : Nat → Int32) (g_firstImages : Nat → Int32) (g_images : Nat → Int32) (g_size_15 : Int32) (g_imagesUsed_15 : Int32) (k_underWay_23 : Int32) (k_homesUnderWay_23 : Int64) (k_down_23 : Nat → Int32) (k_written_23 : Nat → Int32) (j_running_35 : Int64) (j_revoked_35 : Int64) (r_53 : Int32) (k_underWay_53 : Int32) (k_homesUnderWay_53 : Int64) (k_on_53 : Int32) (k_stepsLeft_53 : Int32) (k_steps_53 : Int32) (k_down_53 : Nat → Int32) (k_written_53 : Nat → Int32) (k_order_53 : Nat → Int32) (g_size_53 : Int32) (g_imagesUsed_53 : Int32) (hpre : pr_mount a_bits (j_ringBlocks, j_running, j_revoked, j_now) (k_underWay, k_homesUnderWay, k_on, k_stepsLeft, k_steps, k_down, k_written, k_order) (g_size, g_imagesUsed, g_blocks, g_revokes, g_uses, g_firstImages, g_images)) (c_7 : k_on = 0) (w_15 : po_settleLog a_bits (j_ringBlocks, j_running, j_revoked, j_now) (k_underWay, k_homesUnderWay, k_on, k_stepsLeft, k_steps, k_down, k_written, k_order) (g_size, g_imagesUsed, g_blocks, g_revokes, g_uses, g_firstImages, g_images) (j_ringBlocks, j_running, j_revoked, j_now) (k_underWay, k_homesUnderWay, k_on, k_stepsLeft, k_steps, k_down, k_written, k_order) (g_size_15, g_imagesUsed_15, g_blocks, g_revokes, g_uses, g_firstImages, g_images)) (w_23 : po_Disk_settle a_bits (k_underWay, k_homesUnderWay, k_on, k_stepsLeft, k_steps, k_down, k_written, k_order) (k_underWay_23, k_homesUnderWay_23, k_on, k_stepsLeft, k_steps, k_down_23, k_written_23, k_order)) (w_35 : po_dropRunning (j_ringBlocks, j_running, j_revoked, j_now) (j_ringBlocks, j_running_35, j_revoked_35, j_now)) (c_45 : ¬ g_size_15 = 0) (w_53 : po_replay (j_ringBlocks, j_running_35, j_revoked_35, j_now) (k_underWay_23, k_homesUnderWay_23, 1, k_stepsLeft, k_steps, k_down_23, k_written_23, k_order) (g_size_15, g_imagesUsed_15, g_blocks, g_revokes, g_uses, g_firstImages, g_images) r_53 (j_ringBlocks, j_running_35, j_revoked_35, j_now) (k_underWay_53, k_homesUnderWay_53, k_on_53, k_stepsLeft_53, k_steps_53, k_down_53, k_written_53, k_order_53) (g_size_53, g_imagesUsed_53, g_blocks, g_revokes, g_uses, g_firstImages, g_images)) : po_mount a_bits (j_ringBlocks, j_running, j_revoked, j_now) (k_underWay, k_homesUnderWay, k_on, k_stepsLeft, k_steps, k_down, k_written, k_order) (g_size, g_imagesUsed, g_blocks, g_revokes, g_uses, g_firstImages, g_images) r_53 (j_ringBlocks, j_running_35, j_revoked_35, (va_cpy k_written_53 j_now (0 : Int32).toNatClampNeg (0 : Int32).toNatClampNeg (16384 : Int32).toNatClampNeg)) (k_underWay_53, k_homesUnderWay_53, k_on_53, k_stepsLeft_53, k_steps_53, k_down_53, k_written_53, k_order_53) (g_size_53, g_imagesUsed_53, g_blocks, g_revokes, g_uses, g_firstImages, g_images) := by
  intro σ hr hs
  obtain ⟨ring, run, rev, now, ⟨u, on, fu, st, ba, ho⟩, g⟩ := σ
  obtain ⟨e1, e2, e3, e4, hd1, hg⟩ := id hr
  obtain ⟨b1, b2, b3, b4, b5, b6, b7, b8⟩ := id hd1
  have hon : on = false := on_f hd1 c_7
  subst hon
  obtain ⟨s1, s2, s3, s4⟩ := SW_wf hs
  have wg := w_15 (u, false, fu, st, ba, ho) g hd1 s1 hg s3
  have wo : okG (sLogMount a_bits u g) := logM_wf s3
  have wk := w_23 (u, false, fu, st, ba, ho) hd1 s1 s2
  have wk2 : RD (sSettle a_bits (u, true, fu, st, ba, ho)) (k_underWay_23, k_homesUnderWay_23, 1, k_stepsLeft, k_steps, k_down_23, k_written_23, k_order) := by
    obtain ⟨c1, c2, c3, c4, c5, c6, c7, c8⟩ := wk
    exact ⟨c1, c2, c3, rfl, c5, c6, c7, c8⟩
  have wd : DW (sSettle a_bits (u, true, fu, st, ba, ho)) := settle_wf s1.2.2.1 s1.2.2.2
  have wj : (j_ringBlocks, j_running_35, j_revoked_35, j_now) = ((j_ringBlocks, 0, 0, j_now) : JRt) := w_35
  have j1 : j_running_35 = 0 := congrArg (fun z : JRt => z.2.1) wj
  have j2 : j_revoked_35 = 0 := congrArg (fun z : JRt => z.2.2.1) wj
  have en : g_size_15 = nI (sLogMount a_bits u g).1 := wg.1
  have hn := (okG_n (n := (sLogMount a_bits u g).1) wo).1
  have z0 : (0 : Int32).toNatClampNeg = 0 := by decide
  have z1 : (16384 : Int32).toNatClampNeg = 16384 := by decide
  obtain ⟨a, q1, q2⟩ := w_53 _ _ wk2 wd rfl wg wo
  have hz : ¬ (sLogMount a_bits u g).1 = 0 := fun z => c_45 (by rw [en, z]; rfl)
  have b8 : k_written_53 = (sReplay (sSettle a_bits (u, true, fu, st, ba, ho)) (sLogMount a_bits u g)).2.1.2.2.2.2.2 := q1.2.2.2.2.2.2.2
  have e : fMount a_bits (ring, run, rev, now, (u, false, fu, st, ba, ho), g) = ((sReplay (sSettle a_bits (u, true, fu, st, ba, ho)) (sLogMount a_bits u g)).1, (ring, 0, 0, va_cpy (sReplay (sSettle a_bits (u, true, fu, st, ba, ho)) (sLogMount a_bits u g)).2.1.2.2.2.2.2 now 0 0 16384, (sReplay (sSettle a_bits (u, true, fu, st, ba, ho)) (sLogMount a_bits u g)).2.1, (sReplay (sSettle a_bits (u, true, fu, st, ba, ho)) (sLogMount a_bits u g)).2.2)) := by
    show (match (if (sLogMount a_bits u g).1 = 0 then (0, sSettle a_bits (u, true, fu, st, ba, ho), sLogMount a_bits u g) else sReplay (sSettle a_bits (u, true, fu, st, ba, ho)) (sLogMount a_bits u g)) with
      | (r, d, g) => (r, ((ring, 0, 0, va_cpy d.2.2.2.2.2 now 0 0 16384, d, g) : Sp))) = _
    rw [if_neg hz]
  rw [e, j1, j2, z0, z1]
  exact ⟨a, e1, rfl, rfl, by rw [e4, b8], q1, q2⟩
theorem vc_mount_73_1 (a_bits : Int64) (j_ringBlocks : Int32) (j_running : Int64) (j_revoked : Int64) (j_now : Nat → Int32) (k_underWay : Int32) (k_homesUnderWay : Int64) (k_on : Int32) (k_stepsLeft : Int32) (k_steps : Int32) (k_down : Nat → Int32) (k_written : Nat → Int32) (k_order : Nat → Int32) (g_size : Int32) (g_imagesUsed : Int32) (g_blocks : Nat → Int64) (g_revokes : Nat → Int64) (g_uses : Nat → Int32) (g_firstImages : Nat → Int32) (g_images : Nat → Int32) (g_size_15 : Int32) (g_imagesUsed_15 : Int32) (k_underWay_23 : Int32) (k_homesUnderWay_23 : Int64) (k_down_23 : Nat → Int32) (k_written_23 : Nat → Int32) (j_running_35 : Int64) (j_revoked_35 : Int64) (hpre : pr_mount a_bits (j_ringBlocks, j_running, j_revoked, j_now) (k_underWay, k_homesUnderWay, k_on, k_stepsLeft, k_steps, k_down, k_written, k_order) (g_size, g_imagesUsed, g_blocks, g_revokes, g_uses, g_firstImages, g_images)) (c_7 : k_on = 0) (w_15 : po_settleLog a_bits (j_ringBlocks, j_running, j_revoked, j_now) (k_underWay, k_homesUnderWay, k_on, k_stepsLeft, k_steps, k_down, k_written, k_order) (g_size, g_imagesUsed, g_blocks, g_revokes, g_uses, g_firstImages, g_images) (j_ringBlocks, j_running, j_revoked, j_now) (k_underWay, k_homesUnderWay, k_on, k_stepsLeft, k_steps, k_down, k_written, k_order) (g_size_15, g_imagesUsed_15, g_blocks, g_revokes, g_uses, g_firstImages, g_images)) (w_23 : po_Disk_settle a_bits (k_underWay, k_homesUnderWay, k_on, k_stepsLeft, k_steps, k_down, k_written, k_order) (k_underWay_23, k_homesUnderWay_23, k_on, k_stepsLeft, k_steps, k_down_23, k_written_23, k_order)) (w_35 : po_dropRunning (j_ringBlocks, j_running, j_revoked, j_now) (j_ringBlocks, j_running_35, j_revoked_35, j_now)) (c_45 : g_size_15 = 0) : ¬ (0 : Int32) < 0 ∧ ¬ (0 : Int32) < 0 ∧ ¬ (16384 : Int32) < 0 ∧ (0 : Int32).toNatClampNeg + (16384 : Int32).toNatClampNeg ≤ 16384 ∧ (0 : Int32).toNatClampNeg + (16384 : Int32).toNatClampNeg ≤ 16384 ∧ ∀ i, i < (16384 : Int32).toNatClampNeg → fits .byte (.int (k_written_23 ((0 : Int32).toNatClampNeg + i))) = true := by
  obtain ⟨⟨ring, run, rev, now, ⟨u, on, fu, st, ba, ho⟩, g⟩, hr, hs⟩ := hpre
  obtain ⟨e1, e2, e3, e4, hd1, hg⟩ := id hr
  obtain ⟨s1, s2, s3, s4⟩ := SW_wf hs
  have wg := w_15 (u, on, fu, st, ba, ho) g hd1 s1 hg s3
  have wo : okG (sLogMount a_bits u g) := logM_wf s3
  have wk := w_23 (u, on, fu, st, ba, ho) hd1 s1 s2
  have wk2 : RD (sSettle a_bits (u, true, fu, st, ba, ho)) (k_underWay_23, k_homesUnderWay_23, 1, k_stepsLeft, k_steps, k_down_23, k_written_23, k_order) := by
    obtain ⟨c1, c2, c3, c4, c5, c6, c7, c8⟩ := wk
    exact ⟨c1, c2, c3, rfl, c5, c6, c7, c8⟩
  have wd : DW (sSettle a_bits (u, true, fu, st, ba, ho)) := settle_wf s1.2.2.1 s1.2.2.2
  have z0 : (0 : Int32).toNatClampNeg = 0 := by decide
  have z1 : (16384 : Int32).toNatClampNeg = 16384 := by decide
  rw [z0, z1]
  have b8 : k_written_23 = (sSettle a_bits (u, true, fu, st, ba, ho)).2.2.2.2.2 := wk2.2.2.2.2.2.2.2
  exact ⟨by decide, by decide, by decide, by decide, by decide, fun i _ => by rw [b8]; exact wd.2.2.2 _⟩
theorem vc_mount_77_1 (a_bits : Int64) (j_ringBlocks : Int32) (j_running : Int64) (j_revoked : Int64) (j_now : Nat → Int32) (k_underWay : Int32) (k_homesUnderWay : Int64) (k_on : Int32) (k_stepsLeft : Int32) (k_steps : Int32) (k_down : Nat → Int32) (k_written : Nat → Int32) (k_order : Nat → Int32) (g_size : Int32) (g_imagesUsed : Int32) (g_blocks : Nat → Int64) (g_revokes : Nat → Int64) (g_uses : Nat → Int32) (g_firstImages : Nat → Int32) (g_images : Nat → Int32) (g_size_15 : Int32) (g_imagesUsed_15 : Int32) (k_underWay_23 : Int32) (k_homesUnderWay_23 : Int64) (k_down_23 : Nat → Int32) (k_written_23 : Nat → Int32) (j_running_35 : Int64) (j_revoked_35 : Int64) (hpre : pr_mount a_bits (j_ringBlocks, j_running, j_revoked, j_now) (k_underWay, k_homesUnderWay, k_on, k_stepsLeft, k_steps, k_down, k_written, k_order) (g_size, g_imagesUsed, g_blocks, g_revokes, g_uses, g_firstImages, g_images)) (c_7 : k_on = 0) (w_15 : po_settleLog a_bits (j_ringBlocks, j_running, j_revoked, j_now) (k_underWay, k_homesUnderWay, k_on, k_stepsLeft, k_steps, k_down, k_written, k_order) (g_size, g_imagesUsed, g_blocks, g_revokes, g_uses, g_firstImages, g_images) (j_ringBlocks, j_running, j_revoked, j_now) (k_underWay, k_homesUnderWay, k_on, k_stepsLeft, k_steps, k_down, k_written, k_order) (g_size_15, g_imagesUsed_15, g_blocks, g_revokes, g_uses, g_firstImages, g_images)) (w_23 : po_Disk_settle a_bits (k_underWay, k_homesUnderWay, k_on, k_stepsLeft, k_steps, k_down, k_written, k_order) (k_underWay_23, k_homesUnderWay_23, k_on, k_stepsLeft, k_steps, k_down_23, k_written_23, k_order)) (w_35 : po_dropRunning (j_ringBlocks, j_running, j_revoked, j_now) (j_ringBlocks, j_running_35, j_revoked_35, j_now)) (c_45 : g_size_15 = 0) : po_mount a_bits (j_ringBlocks, j_running, j_revoked, j_now) (k_underWay, k_homesUnderWay, k_on, k_stepsLeft, k_steps, k_down, k_written, k_order) (g_size, g_imagesUsed, g_blocks, g_revokes, g_uses, g_firstImages, g_images) 0 (j_ringBlocks, j_running_35, j_revoked_35, (va_cpy k_written_23 j_now (0 : Int32).toNatClampNeg (0 : Int32).toNatClampNeg (16384 : Int32).toNatClampNeg)) (k_underWay_23, k_homesUnderWay_23, 1, k_stepsLeft, k_steps, k_down_23, k_written_23, k_order) (g_size_15, g_imagesUsed_15, g_blocks, g_revokes, g_uses, g_firstImages, g_images) := by
  intro σ hr hs
  obtain ⟨ring, run, rev, now, ⟨u, on, fu, st, ba, ho⟩, g⟩ := σ
  obtain ⟨e1, e2, e3, e4, hd1, hg⟩ := id hr
  obtain ⟨b1, b2, b3, b4, b5, b6, b7, b8⟩ := id hd1
  have hon : on = false := on_f hd1 c_7
  subst hon
  obtain ⟨s1, s2, s3, s4⟩ := SW_wf hs
  have wg := w_15 (u, false, fu, st, ba, ho) g hd1 s1 hg s3
  have wo : okG (sLogMount a_bits u g) := logM_wf s3
  have wk := w_23 (u, false, fu, st, ba, ho) hd1 s1 s2
  have wk2 : RD (sSettle a_bits (u, true, fu, st, ba, ho)) (k_underWay_23, k_homesUnderWay_23, 1, k_stepsLeft, k_steps, k_down_23, k_written_23, k_order) := by
    obtain ⟨c1, c2, c3, c4, c5, c6, c7, c8⟩ := wk
    exact ⟨c1, c2, c3, rfl, c5, c6, c7, c8⟩
  have wd : DW (sSettle a_bits (u, true, fu, st, ba, ho)) := settle_wf s1.2.2.1 s1.2.2.2
  have wj : (j_ringBlocks, j_running_35, j_revoked_35, j_now) = ((j_ringBlocks, 0, 0, j_now) : JRt) := w_35
  have j1 : j_running_35 = 0 := congrArg (fun z : JRt => z.2.1) wj
  have j2 : j_revoked_35 = 0 := congrArg (fun z : JRt => z.2.2.1) wj
  have en : g_size_15 = nI (sLogMount a_bits u g).1 := wg.1
  have hn := (okG_n (n := (sLogMount a_bits u g).1) wo).1
  have z0 : (0 : Int32).toNatClampNeg = 0 := by decide
  have z1 : (16384 : Int32).toNatClampNeg = 16384 := by decide
  have hz : (sLogMount a_bits u g).1 = 0 := (nI_eq (b := 0) (by omega) (by decide)).mp (en.symm.trans c_45)
  have b8 : k_written_23 = (sSettle a_bits (u, true, fu, st, ba, ho)).2.2.2.2.2 := wk2.2.2.2.2.2.2.2
  have e : fMount a_bits (ring, run, rev, now, (u, false, fu, st, ba, ho), g) = (0, (ring, 0, 0, va_cpy (sSettle a_bits (u, true, fu, st, ba, ho)).2.2.2.2.2 now 0 0 16384, sSettle a_bits (u, true, fu, st, ba, ho), sLogMount a_bits u g)) := by
    show (match (if (sLogMount a_bits u g).1 = 0 then (0, sSettle a_bits (u, true, fu, st, ba, ho), sLogMount a_bits u g) else sReplay (sSettle a_bits (u, true, fu, st, ba, ho)) (sLogMount a_bits u g)) with
      | (r, d, g) => (r, ((ring, 0, 0, va_cpy d.2.2.2.2.2 now 0 0 16384, d, g) : Sp))) = _
    rw [if_pos hz]
  rw [e, j1, j2, z0, z1]
  exact ⟨rfl, e1, rfl, rfl, by rw [e4, b8], wk2, wg⟩
theorem vc_mount_12_0 (a_bits : Int64) (j_ringBlocks : Int32) (j_running : Int64) (j_revoked : Int64) (j_now : Nat → Int32) (k_underWay : Int32) (k_homesUnderWay : Int64) (k_on : Int32) (k_stepsLeft : Int32) (k_steps : Int32) (k_down : Nat → Int32) (k_written : Nat → Int32) (k_order : Nat → Int32) (g_size : Int32) (g_imagesUsed : Int32) (g_blocks : Nat → Int64) (g_revokes : Nat → Int64) (g_uses : Nat → Int32) (g_firstImages : Nat → Int32) (g_images : Nat → Int32) (hpre : pr_mount a_bits (j_ringBlocks, j_running, j_revoked, j_now) (k_underWay, k_homesUnderWay, k_on, k_stepsLeft, k_steps, k_down, k_written, k_order) (g_size, g_imagesUsed, g_blocks, g_revokes, g_uses, g_firstImages, g_images)) (c_7 : ¬ k_on = 0) : po_mount a_bits (j_ringBlocks, j_running, j_revoked, j_now) (k_underWay, k_homesUnderWay, k_on, k_stepsLeft, k_steps, k_down, k_written, k_order) (g_size, g_imagesUsed, g_blocks, g_revokes, g_uses, g_firstImages, g_images) (-2) (j_ringBlocks, j_running, j_revoked, j_now) (k_underWay, k_homesUnderWay, k_on, k_stepsLeft, k_steps, k_down, k_written, k_order) (g_size, g_imagesUsed, g_blocks, g_revokes, g_uses, g_firstImages, g_images) := by
  intro σ hr hs
  obtain ⟨ring, run, rev, now, ⟨u, on, fu, st, ba, ho⟩, g⟩ := σ
  obtain ⟨e1, e2, e3, e4, hd1, hg⟩ := id hr
  obtain ⟨b1, b2, b3, b4, b5, b6, b7, b8⟩ := id hd1
  have hon : on = true := on_t hd1 c_7
  subst hon
  exact ⟨rfl, hr⟩
theorem vc_count_117_0 (a_w : Int32) (j_ringBlocks : Int32) (j_running : Int64) (j_revoked : Int64) (j_now : Nat → Int32) (k_underWay : Int32) (k_homesUnderWay : Int64) (k_on : Int32) (k_stepsLeft : Int32) (k_steps : Int32) (k_down : Nat → Int32) (k_written : Nat → Int32) (k_order : Nat → Int32) (g_size : Int32) (g_imagesUsed : Int32) (g_blocks : Nat → Int64) (g_revokes : Nat → Int64) (g_uses : Nat → Int32) (g_firstImages : Nat → Int32) (g_images : Nat → Int32) (hpre : pr_count a_w (j_ringBlocks, j_running, j_revoked, j_now) (k_underWay, k_homesUnderWay, k_on, k_stepsLeft, k_steps, k_down, k_written, k_order) (g_size, g_imagesUsed, g_blocks, g_revokes, g_uses, g_firstImages, g_images)) (c_7 : ¬ k_on = 0) (c_13 : (a_w.toInt < 0 ∨ 6 < a_w.toInt)) : po_count a_w (j_ringBlocks, j_running, j_revoked, j_now) (k_underWay, k_homesUnderWay, k_on, k_stepsLeft, k_steps, k_down, k_written, k_order) (g_size, g_imagesUsed, g_blocks, g_revokes, g_uses, g_firstImages, g_images) (-2) := by
  intro σ hr hs
  obtain ⟨ring, run, rev, now, ⟨u, on, fu, st, ba, ho⟩, g⟩ := σ
  obtain ⟨e1, e2, e3, e4, hd1, hg⟩ := id hr
  obtain ⟨b1, b2, b3, b4, b5, b6, b7, b8⟩ := id hd1
  have hon : on = true := on_t hd1 c_7
  subst hon
  have hne : ∀ k : Int32, (0 ≤ k.toInt ∧ k.toInt ≤ 6) → ¬ a_w = k := fun k hk z => by subst z; omega
  show (-2 : Int32) = if true = false then -1 else if a_w = 0 then _ else if a_w = 1 then _ else if a_w = 2 then _ else if a_w = 3 then _ else if a_w = 4 then _ else if a_w = 5 then _ else if a_w = 6 then _ else -2
  rw [if_neg (fun z => by cases z), if_neg (hne 0 (by decide)), if_neg (hne 1 (by decide)), if_neg (hne 2 (by decide)), if_neg (hne 3 (by decide)), if_neg (hne 4 (by decide)), if_neg (hne 5 (by decide)), if_neg (hne 6 (by decide))]
theorem vc_count_63_0 (a_w : Int32) (j_ringBlocks : Int32) (j_running : Int64) (j_revoked : Int64) (j_now : Nat → Int32) (k_underWay : Int32) (k_homesUnderWay : Int64) (k_on : Int32) (k_stepsLeft : Int32) (k_steps : Int32) (k_down : Nat → Int32) (k_written : Nat → Int32) (k_order : Nat → Int32) (g_size : Int32) (g_imagesUsed : Int32) (g_blocks : Nat → Int64) (g_revokes : Nat → Int64) (g_uses : Nat → Int32) (g_firstImages : Nat → Int32) (g_images : Nat → Int32) (hpre : pr_count a_w (j_ringBlocks, j_running, j_revoked, j_now) (k_underWay, k_homesUnderWay, k_on, k_stepsLeft, k_steps, k_down, k_written, k_order) (g_size, g_imagesUsed, g_blocks, g_revokes, g_uses, g_firstImages, g_images)) (c_7 : ¬ k_on = 0) (c_13 : a_w = 0) : po_count a_w (j_ringBlocks, j_running, j_revoked, j_now) (k_underWay, k_homesUnderWay, k_on, k_stepsLeft, k_steps, k_down, k_written, k_order) (g_size, g_imagesUsed, g_blocks, g_revokes, g_uses, g_firstImages, g_images) g_size := by
  intro σ hr hs
  obtain ⟨ring, run, rev, now, ⟨u, on, fu, st, ba, ho⟩, g⟩ := σ
  obtain ⟨e1, e2, e3, e4, hd1, hg⟩ := id hr
  obtain ⟨b1, b2, b3, b4, b5, b6, b7, b8⟩ := id hd1
  have hon : on = true := on_t hd1 c_7
  subst hon
  obtain ⟨s1, s2, s3, s4⟩ := SW_wf hs
  subst c_13
  exact hg.1
theorem vc_count_68_0 (a_w : Int32) (j_ringBlocks : Int32) (j_running : Int64) (j_revoked : Int64) (j_now : Nat → Int32) (k_underWay : Int32) (k_homesUnderWay : Int64) (k_on : Int32) (k_stepsLeft : Int32) (k_steps : Int32) (k_down : Nat → Int32) (k_written : Nat → Int32) (k_order : Nat → Int32) (g_size : Int32) (g_imagesUsed : Int32) (g_blocks : Nat → Int64) (g_revokes : Nat → Int64) (g_uses : Nat → Int32) (g_firstImages : Nat → Int32) (g_images : Nat → Int32) (hpre : pr_count a_w (j_ringBlocks, j_running, j_revoked, j_now) (k_underWay, k_homesUnderWay, k_on, k_stepsLeft, k_steps, k_down, k_written, k_order) (g_size, g_imagesUsed, g_blocks, g_revokes, g_uses, g_firstImages, g_images)) (c_7 : ¬ k_on = 0) (c_13 : a_w = 1) : pr_Log_used (g_size, g_imagesUsed, g_blocks, g_revokes, g_uses, g_firstImages, g_images) := by
  obtain ⟨d, g, hd1, hw, hg, ho, hh, hn, hf⟩ := okS_wf hpre
  exact ⟨g, hg, ho⟩
theorem vc_count_71_0 (a_w : Int32) (j_ringBlocks : Int32) (j_running : Int64) (j_revoked : Int64) (j_now : Nat → Int32) (k_underWay : Int32) (k_homesUnderWay : Int64) (k_on : Int32) (k_stepsLeft : Int32) (k_steps : Int32) (k_down : Nat → Int32) (k_written : Nat → Int32) (k_order : Nat → Int32) (g_size : Int32) (g_imagesUsed : Int32) (g_blocks : Nat → Int64) (g_revokes : Nat → Int64) (g_uses : Nat → Int32) (g_firstImages : Nat → Int32) (g_images : Nat → Int32) (r_68 : Int32) (hpre : pr_count a_w (j_ringBlocks, j_running, j_revoked, j_now) (k_underWay, k_homesUnderWay, k_on, k_stepsLeft, k_steps, k_down, k_written, k_order) (g_size, g_imagesUsed, g_blocks, g_revokes, g_uses, g_firstImages, g_images)) (c_7 : ¬ k_on = 0) (c_13 : a_w = 1) (w_68 : po_Log_used (g_size, g_imagesUsed, g_blocks, g_revokes, g_uses, g_firstImages, g_images) r_68) : po_count a_w (j_ringBlocks, j_running, j_revoked, j_now) (k_underWay, k_homesUnderWay, k_on, k_stepsLeft, k_steps, k_down, k_written, k_order) (g_size, g_imagesUsed, g_blocks, g_revokes, g_uses, g_firstImages, g_images) r_68 := by
  intro σ hr hs
  obtain ⟨ring, run, rev, now, ⟨u, on, fu, st, ba, ho⟩, g⟩ := σ
  obtain ⟨e1, e2, e3, e4, hd1, hg⟩ := id hr
  obtain ⟨b1, b2, b3, b4, b5, b6, b7, b8⟩ := id hd1
  have hon : on = true := on_t hd1 c_7
  subst hon
  obtain ⟨s1, s2, s3, s4⟩ := SW_wf hs
  subst c_13
  exact w_68 g hg s3
theorem vc_count_76_0 (a_w : Int32) (j_ringBlocks : Int32) (j_running : Int64) (j_revoked : Int64) (j_now : Nat → Int32) (k_underWay : Int32) (k_homesUnderWay : Int64) (k_on : Int32) (k_stepsLeft : Int32) (k_steps : Int32) (k_down : Nat → Int32) (k_written : Nat → Int32) (k_order : Nat → Int32) (g_size : Int32) (g_imagesUsed : Int32) (g_blocks : Nat → Int64) (g_revokes : Nat → Int64) (g_uses : Nat → Int32) (g_firstImages : Nat → Int32) (g_images : Nat → Int32) (hpre : pr_count a_w (j_ringBlocks, j_running, j_revoked, j_now) (k_underWay, k_homesUnderWay, k_on, k_stepsLeft, k_steps, k_down, k_written, k_order) (g_size, g_imagesUsed, g_blocks, g_revokes, g_uses, g_firstImages, g_images)) (c_7 : ¬ k_on = 0) (c_13 : a_w = 2) : pr_Log_lying (g_size, g_imagesUsed, g_blocks, g_revokes, g_uses, g_firstImages, g_images) := by
  obtain ⟨d, g, hd1, hw, hg, ho, hh, hn, hf⟩ := okS_wf hpre
  exact ⟨g, hg, ho⟩
theorem vc_count_79_0 (a_w : Int32) (j_ringBlocks : Int32) (j_running : Int64) (j_revoked : Int64) (j_now : Nat → Int32) (k_underWay : Int32) (k_homesUnderWay : Int64) (k_on : Int32) (k_stepsLeft : Int32) (k_steps : Int32) (k_down : Nat → Int32) (k_written : Nat → Int32) (k_order : Nat → Int32) (g_size : Int32) (g_imagesUsed : Int32) (g_blocks : Nat → Int64) (g_revokes : Nat → Int64) (g_uses : Nat → Int32) (g_firstImages : Nat → Int32) (g_images : Nat → Int32) (r_76 : Int64) (hpre : pr_count a_w (j_ringBlocks, j_running, j_revoked, j_now) (k_underWay, k_homesUnderWay, k_on, k_stepsLeft, k_steps, k_down, k_written, k_order) (g_size, g_imagesUsed, g_blocks, g_revokes, g_uses, g_firstImages, g_images)) (c_7 : ¬ k_on = 0) (c_13 : a_w = 2) (w_76 : po_Log_lying (g_size, g_imagesUsed, g_blocks, g_revokes, g_uses, g_firstImages, g_images) r_76) : pr_bitCount r_76 := by
  trivial
theorem vc_count_82_0 (a_w : Int32) (j_ringBlocks : Int32) (j_running : Int64) (j_revoked : Int64) (j_now : Nat → Int32) (k_underWay : Int32) (k_homesUnderWay : Int64) (k_on : Int32) (k_stepsLeft : Int32) (k_steps : Int32) (k_down : Nat → Int32) (k_written : Nat → Int32) (k_order : Nat → Int32) (g_size : Int32) (g_imagesUsed : Int32) (g_blocks : Nat → Int64) (g_revokes : Nat → Int64) (g_uses : Nat → Int32) (g_firstImages : Nat → Int32) (g_images : Nat → Int32) (r_76 : Int64) (r_79 : Int32) (hpre : pr_count a_w (j_ringBlocks, j_running, j_revoked, j_now) (k_underWay, k_homesUnderWay, k_on, k_stepsLeft, k_steps, k_down, k_written, k_order) (g_size, g_imagesUsed, g_blocks, g_revokes, g_uses, g_firstImages, g_images)) (c_7 : ¬ k_on = 0) (c_13 : a_w = 2) (w_76 : po_Log_lying (g_size, g_imagesUsed, g_blocks, g_revokes, g_uses, g_firstImages, g_images) r_76) (w_79 : po_bitCount r_76 r_79) : po_count a_w (j_ringBlocks, j_running, j_revoked, j_now) (k_underWay, k_homesUnderWay, k_on, k_stepsLeft, k_steps, k_down, k_written, k_order) (g_size, g_imagesUsed, g_blocks, g_revokes, g_uses, g_firstImages, g_images) r_79 := by
  intro σ hr hs
  obtain ⟨ring, run, rev, now, ⟨u, on, fu, st, ba, ho⟩, g⟩ := σ
  obtain ⟨e1, e2, e3, e4, hd1, hg⟩ := id hr
  obtain ⟨b1, b2, b3, b4, b5, b6, b7, b8⟩ := id hd1
  have hon : on = true := on_t hd1 c_7
  subst hon
  obtain ⟨s1, s2, s3, s4⟩ := SW_wf hs
  subst c_13
  have w1 : r_76 = sLying g := w_76 g hg s3
  have w2 : r_79 = nI (cnt r_76) := w_79
  rw [w2, w1]
  rfl
theorem vc_count_87_0 (a_w : Int32) (j_ringBlocks : Int32) (j_running : Int64) (j_revoked : Int64) (j_now : Nat → Int32) (k_underWay : Int32) (k_homesUnderWay : Int64) (k_on : Int32) (k_stepsLeft : Int32) (k_steps : Int32) (k_down : Nat → Int32) (k_written : Nat → Int32) (k_order : Nat → Int32) (g_size : Int32) (g_imagesUsed : Int32) (g_blocks : Nat → Int64) (g_revokes : Nat → Int64) (g_uses : Nat → Int32) (g_firstImages : Nat → Int32) (g_images : Nat → Int32) (hpre : pr_count a_w (j_ringBlocks, j_running, j_revoked, j_now) (k_underWay, k_homesUnderWay, k_on, k_stepsLeft, k_steps, k_down, k_written, k_order) (g_size, g_imagesUsed, g_blocks, g_revokes, g_uses, g_firstImages, g_images)) (c_7 : ¬ k_on = 0) (c_13 : a_w = 3) : pr_bitCount j_running := by
  trivial
theorem vc_count_90_0 (a_w : Int32) (j_ringBlocks : Int32) (j_running : Int64) (j_revoked : Int64) (j_now : Nat → Int32) (k_underWay : Int32) (k_homesUnderWay : Int64) (k_on : Int32) (k_stepsLeft : Int32) (k_steps : Int32) (k_down : Nat → Int32) (k_written : Nat → Int32) (k_order : Nat → Int32) (g_size : Int32) (g_imagesUsed : Int32) (g_blocks : Nat → Int64) (g_revokes : Nat → Int64) (g_uses : Nat → Int32) (g_firstImages : Nat → Int32) (g_images : Nat → Int32) (r_87 : Int32) (hpre : pr_count a_w (j_ringBlocks, j_running, j_revoked, j_now) (k_underWay, k_homesUnderWay, k_on, k_stepsLeft, k_steps, k_down, k_written, k_order) (g_size, g_imagesUsed, g_blocks, g_revokes, g_uses, g_firstImages, g_images)) (c_7 : ¬ k_on = 0) (c_13 : a_w = 3) (w_87 : po_bitCount j_running r_87) : po_count a_w (j_ringBlocks, j_running, j_revoked, j_now) (k_underWay, k_homesUnderWay, k_on, k_stepsLeft, k_steps, k_down, k_written, k_order) (g_size, g_imagesUsed, g_blocks, g_revokes, g_uses, g_firstImages, g_images) r_87 := by
  intro σ hr hs
  obtain ⟨ring, run, rev, now, ⟨u, on, fu, st, ba, ho⟩, g⟩ := σ
  obtain ⟨e1, e2, e3, e4, hd1, hg⟩ := id hr
  obtain ⟨b1, b2, b3, b4, b5, b6, b7, b8⟩ := id hd1
  have hon : on = true := on_t hd1 c_7
  subst hon
  obtain ⟨s1, s2, s3, s4⟩ := SW_wf hs
  subst c_13
  have w2 : r_87 = nI (cnt j_running) := w_87
  rw [w2, e2]
  rfl
theorem vc_count_95_0 (a_w : Int32) (j_ringBlocks : Int32) (j_running : Int64) (j_revoked : Int64) (j_now : Nat → Int32) (k_underWay : Int32) (k_homesUnderWay : Int64) (k_on : Int32) (k_stepsLeft : Int32) (k_steps : Int32) (k_down : Nat → Int32) (k_written : Nat → Int32) (k_order : Nat → Int32) (g_size : Int32) (g_imagesUsed : Int32) (g_blocks : Nat → Int64) (g_revokes : Nat → Int64) (g_uses : Nat → Int32) (g_firstImages : Nat → Int32) (g_images : Nat → Int32) (hpre : pr_count a_w (j_ringBlocks, j_running, j_revoked, j_now) (k_underWay, k_homesUnderWay, k_on, k_stepsLeft, k_steps, k_down, k_written, k_order) (g_size, g_imagesUsed, g_blocks, g_revokes, g_uses, g_firstImages, g_images)) (c_7 : ¬ k_on = 0) (c_13 : a_w = 4) : pr_bitCount j_revoked := by
  trivial
theorem vc_count_98_0 (a_w : Int32) (j_ringBlocks : Int32) (j_running : Int64) (j_revoked : Int64) (j_now : Nat → Int32) (k_underWay : Int32) (k_homesUnderWay : Int64) (k_on : Int32) (k_stepsLeft : Int32) (k_steps : Int32) (k_down : Nat → Int32) (k_written : Nat → Int32) (k_order : Nat → Int32) (g_size : Int32) (g_imagesUsed : Int32) (g_blocks : Nat → Int64) (g_revokes : Nat → Int64) (g_uses : Nat → Int32) (g_firstImages : Nat → Int32) (g_images : Nat → Int32) (r_95 : Int32) (hpre : pr_count a_w (j_ringBlocks, j_running, j_revoked, j_now) (k_underWay, k_homesUnderWay, k_on, k_stepsLeft, k_steps, k_down, k_written, k_order) (g_size, g_imagesUsed, g_blocks, g_revokes, g_uses, g_firstImages, g_images)) (c_7 : ¬ k_on = 0) (c_13 : a_w = 4) (w_95 : po_bitCount j_revoked r_95) : po_count a_w (j_ringBlocks, j_running, j_revoked, j_now) (k_underWay, k_homesUnderWay, k_on, k_stepsLeft, k_steps, k_down, k_written, k_order) (g_size, g_imagesUsed, g_blocks, g_revokes, g_uses, g_firstImages, g_images) r_95 := by
  intro σ hr hs
  obtain ⟨ring, run, rev, now, ⟨u, on, fu, st, ba, ho⟩, g⟩ := σ
  obtain ⟨e1, e2, e3, e4, hd1, hg⟩ := id hr
  obtain ⟨b1, b2, b3, b4, b5, b6, b7, b8⟩ := id hd1
  have hon : on = true := on_t hd1 c_7
  subst hon
  obtain ⟨s1, s2, s3, s4⟩ := SW_wf hs
  subst c_13
  have w2 : r_95 = nI (cnt j_revoked) := w_95
  rw [w2, e3]
  rfl
theorem vc_count_106_0 (a_w : Int32) (j_ringBlocks : Int32) (j_running : Int64) (j_revoked : Int64) (j_now : Nat → Int32) (k_underWay : Int32) (k_homesUnderWay : Int64) (k_on : Int32) (k_stepsLeft : Int32) (k_steps : Int32) (k_down : Nat → Int32) (k_written : Nat → Int32) (k_order : Nat → Int32) (g_size : Int32) (g_imagesUsed : Int32) (g_blocks : Nat → Int64) (g_revokes : Nat → Int64) (g_uses : Nat → Int32) (g_firstImages : Nat → Int32) (g_images : Nat → Int32) (hpre : pr_count a_w (j_ringBlocks, j_running, j_revoked, j_now) (k_underWay, k_homesUnderWay, k_on, k_stepsLeft, k_steps, k_down, k_written, k_order) (g_size, g_imagesUsed, g_blocks, g_revokes, g_uses, g_firstImages, g_images)) (c_7 : ¬ k_on = 0) (c_13 : a_w = 5) : po_count a_w (j_ringBlocks, j_running, j_revoked, j_now) (k_underWay, k_homesUnderWay, k_on, k_stepsLeft, k_steps, k_down, k_written, k_order) (g_size, g_imagesUsed, g_blocks, g_revokes, g_uses, g_firstImages, g_images) k_steps := by
  intro σ hr hs
  obtain ⟨ring, run, rev, now, ⟨u, on, fu, st, ba, ho⟩, g⟩ := σ
  obtain ⟨e1, e2, e3, e4, hd1, hg⟩ := id hr
  obtain ⟨b1, b2, b3, b4, b5, b6, b7, b8⟩ := id hd1
  have hon : on = true := on_t hd1 c_7
  subst hon
  obtain ⟨s1, s2, s3, s4⟩ := SW_wf hs
  subst c_13
  exact b6
theorem vc_count_114_0 (a_w : Int32) (j_ringBlocks : Int32) (j_running : Int64) (j_revoked : Int64) (j_now : Nat → Int32) (k_underWay : Int32) (k_homesUnderWay : Int64) (k_on : Int32) (k_stepsLeft : Int32) (k_steps : Int32) (k_down : Nat → Int32) (k_written : Nat → Int32) (k_order : Nat → Int32) (g_size : Int32) (g_imagesUsed : Int32) (g_blocks : Nat → Int64) (g_revokes : Nat → Int64) (g_uses : Nat → Int32) (g_firstImages : Nat → Int32) (g_images : Nat → Int32) (hpre : pr_count a_w (j_ringBlocks, j_running, j_revoked, j_now) (k_underWay, k_homesUnderWay, k_on, k_stepsLeft, k_steps, k_down, k_written, k_order) (g_size, g_imagesUsed, g_blocks, g_revokes, g_uses, g_firstImages, g_images)) (c_7 : ¬ k_on = 0) (c_13 : a_w = 6) : po_count a_w (j_ringBlocks, j_running, j_revoked, j_now) (k_underWay, k_homesUnderWay, k_on, k_stepsLeft, k_steps, k_down, k_written, k_order) (g_size, g_imagesUsed, g_blocks, g_revokes, g_uses, g_firstImages, g_images) k_underWay := by
  intro σ hr hs
  obtain ⟨ring, run, rev, now, ⟨u, on, fu, st, ba, ho⟩, g⟩ := σ
  obtain ⟨e1, e2, e3, e4, hd1, hg⟩ := id hr
  obtain ⟨b1, b2, b3, b4, b5, b6, b7, b8⟩ := id hd1
  have hon : on = true := on_t hd1 c_7
  subst hon
  obtain ⟨s1, s2, s3, s4⟩ := SW_wf hs
  subst c_13
  exact b1
theorem vc_count_11_0 (a_w : Int32) (j_ringBlocks : Int32) (j_running : Int64) (j_revoked : Int64) (j_now : Nat → Int32) (k_underWay : Int32) (k_homesUnderWay : Int64) (k_on : Int32) (k_stepsLeft : Int32) (k_steps : Int32) (k_down : Nat → Int32) (k_written : Nat → Int32) (k_order : Nat → Int32) (g_size : Int32) (g_imagesUsed : Int32) (g_blocks : Nat → Int64) (g_revokes : Nat → Int64) (g_uses : Nat → Int32) (g_firstImages : Nat → Int32) (g_images : Nat → Int32) (hpre : pr_count a_w (j_ringBlocks, j_running, j_revoked, j_now) (k_underWay, k_homesUnderWay, k_on, k_stepsLeft, k_steps, k_down, k_written, k_order) (g_size, g_imagesUsed, g_blocks, g_revokes, g_uses, g_firstImages, g_images)) (c_7 : k_on = 0) : po_count a_w (j_ringBlocks, j_running, j_revoked, j_now) (k_underWay, k_homesUnderWay, k_on, k_stepsLeft, k_steps, k_down, k_written, k_order) (g_size, g_imagesUsed, g_blocks, g_revokes, g_uses, g_firstImages, g_images) (-1) := by
  intro σ hr hs
  obtain ⟨ring, run, rev, now, ⟨u, on, fu, st, ba, ho⟩, g⟩ := σ
  obtain ⟨e1, e2, e3, e4, hd1, hg⟩ := id hr
  obtain ⟨b1, b2, b3, b4, b5, b6, b7, b8⟩ := id hd1
  have hon : on = false := on_f hd1 c_7
  subst hon
  rfl
