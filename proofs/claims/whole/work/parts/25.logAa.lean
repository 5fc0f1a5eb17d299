def aR (has rev : Int64) (use : Int32) (now : Nat → Int32) (b : Nat) : Lg → LGt → Prop
  | (n, blk, rvk, us, fst, im), (sz, iu, bl, rv, uu, fi, img) => sz = nI (n + 1) ∧ iu = nI (fst n + rk has b) ∧ (∀ t, t < n + 1 → bl t = vp_updL blk n has t ∧ rv t = vp_updL rvk n rev t ∧ (∀ u : Nat, use = nI u → uu t = nI (if t = n then u else us t)) ∧ fi t = nI (if t = n + 1 then fst n + cnt has else fst t)) ∧ imN has now b (64 - b) (fst n + rk has b) img = imN has now 0 64 (fst n) im
def iv_Log_append_85 (has rev : Int64) (use : Int32) (_ : Nat) (x0 : LGt) (now : Nat → Int32) (x7 : Int32) (x : LGt) (_ : Nat → Int32) : Prop := ∃ b : Nat, b ≤ 64 ∧ x7 = nI b ∧ ∀ g : Lg, RL g x0 → okG g → aR has rev use now b g x
def mu_Log_append_85 (_ _ : Int64) (_ : Int32) (_ : Nat) (_ : LGt) (_ : Nat → Int32) (x7 : Int32) (_ : LGt) (_ : Nat → Int32) : Nat := 64 - x7.toNatClampNeg
theorem rk_0 (x : Int64) : rk x 0 = 0 := rfl
theorem rk_s (x : Int64) (b : Nat) : rk x (b + 1) = rk x b + (if bitt x b = true then 1 else 0) := rfl
theorem rk_64 (x : Int64) : rk x 64 = cnt x := rfl
theorem rk_le {x : Int64} {b : Nat} (h : b ≤ 64) : rk x b ≤ cnt x := cntB_mono h
theorem rk_lt {x : Int64} {b : Nat} (h : b < 64) (hb : bitt x b = true) : rk x b < cnt x := cntB_lt h hb

theorem vc_Log_append_143_0 (a_has : Int64) (a_rev : Int64) (a_use : Int32) (nar : Nat) (g_size : Int32) (g_imagesUsed : Int32) (g_blocks : Nat → Int64) (g_revokes : Nat → Int64) (g_uses : Nat → Int32) (g_firstImages : Nat → Int32) (g_images : Nat → Int32) (ar : Nat → Int32) (x7 : Int32) (g_size_i : Int32) (g_imagesUsed_i : Int32) (g_blocks_i : Nat → Int64) (g_revokes_i : Nat → Int64) (g_uses_i : Nat → Int32) (g_firstImages_i : Nat → Int32) (g_images_i : Nat → Int32) (hpre : pr_Log_append a_has a_rev a_use nar (g_size, g_imagesUsed, g_blocks, g_revokes, g_uses, g_firstImages, g_images) ar) (hinv : iv_Log_append_85 a_has a_rev a_use nar (g_size, g_imagesUsed, g_blocks, g_revokes, g_uses, g_firstImages, g_images) ar x7 (g_size_i, g_imagesUsed_i, g_blocks_i, g_revokes_i, g_uses_i, g_firstImages_i, g_images_i) ar) (c_89 : 64 ≤ x7) : po_Log_append a_has a_rev a_use nar (g_size, g_imagesUsed, g_blocks, g_revokes, g_uses, g_firstImages, g_images) ar (g_size_i, g_imagesUsed_i, g_blocks_i, g_revokes_i, g_uses_i, g_firstImages_i, g_images_i) ar := by
  intro g u hg ho eu
  obtain ⟨b, hb, rfl, h⟩ := hinv
  have hb2 : 64 ≤ b := (nI_leI (a := 64) (by decide) (by omega)).mp c_89
  have e : b = 64 := by omega
  subst e
  have h := h g hg ho
  obtain ⟨n, blk, rvk, us, fst, im⟩ := g
  obtain ⟨h1, h2, h3, h4⟩ := h
  refine ⟨h1, ?_, fun t ht => ?_, ?_⟩
  · rw [h2, rk_64]
    show _ = nI (if n + 1 = n + 1 then fst n + cnt a_has else fst (n + 1))
    rw [if_pos rfl]
  · obtain ⟨q1, q2, q3, q4⟩ := h3 t ht
    exact ⟨q1, q2, q3 u eu, q4⟩
  · exact h4
theorem vc_Log_append_95_0 (a_has : Int64) (a_rev : Int64) (a_use : Int32) (nar : Nat) (g_size : Int32) (g_imagesUsed : Int32) (g_blocks : Nat → Int64) (g_revokes : Nat → Int64) (g_uses : Nat → Int32) (g_firstImages : Nat → Int32) (g_images : Nat → Int32) (ar : Nat → Int32) (x7 : Int32) (g_size_i : Int32) (g_imagesUsed_i : Int32) (g_blocks_i : Nat → Int64) (g_revokes_i : Nat → Int64) (g_uses_i : Nat → Int32) (g_firstImages_i : Nat → Int32) (g_images_i : Nat → Int32) (hpre : pr_Log_append a_has a_rev a_use nar (g_size, g_imagesUsed, g_blocks, g_revokes, g_uses, g_firstImages, g_images) ar) (hinv : iv_Log_append_85 a_has a_rev a_use nar (g_size, g_imagesUsed, g_blocks, g_revokes, g_uses, g_firstImages, g_images) ar x7 (g_size_i, g_imagesUsed_i, g_blocks_i, g_revokes_i, g_uses_i, g_firstImages_i, g_images_i) ar) (c_89 : ¬ 64 ≤ x7) : pr_holds a_has x7 := by
  trivial
theorem vc_Log_append_140_0 (a_has : Int64) (a_rev : Int64) (a_use : Int32) (nar : Nat) (g_size : Int32) (g_imagesUsed : Int32) (g_blocks : Nat → Int64) (g_revokes : Nat → Int64) (g_uses : Nat → Int32) (g_firstImages : Nat → Int32) (g_images : Nat → Int32) (ar : Nat → Int32) (x7 : Int32) (g_size_i : Int32) (g_imagesUsed_i : Int32) (g_blocks_i : Nat → Int64) (g_revokes_i : Nat → Int64) (g_uses_i : Nat → Int32) (g_firstImages_i : Nat → Int32) (g_images_i : Nat → Int32) (r_95 : Int32) (v_137 : Int32) (hpre : pr_Log_append a_has a_rev a_use nar (g_size, g_imagesUsed, g_blocks, g_revokes, g_uses, g_firstImages, g_images) ar) (hinv : iv_Log_append_85 a_has a_rev a_use nar (g_size, g_imagesUsed, g_blocks, g_revokes, g_uses, g_firstImages, g_images) ar x7 (g_size_i, g_imagesUsed_i, g_blocks_i, g_revokes_i, g_uses_i, g_firstImages_i, g_images_i) ar) (c_89 : ¬ 64 ≤ x7) (w_95 : po_holds a_has x7 r_95) (c_98 : r_95 = 0) (e_137 : v_137 = x7 + 1) : iv_Log_append_85 a_has a_rev a_use nar (g_size, g_imagesUsed, g_blocks, g_revokes, g_uses, g_firstImages, g_images) ar v_137 (g_size_i, g_imagesUsed_i, g_blocks_i, g_revokes_i, g_uses_i, g_firstImages_i, g_images_i) ar ∧ mu_Log_append_85 a_has a_rev a_use nar (g_size, g_imagesUsed, g_blocks, g_revokes, g_uses, g_firstImages, g_images) ar v_137 (g_size_i, g_imagesUsed_i, g_blocks_i, g_revokes_i, g_uses_i, g_firstImages_i, g_images_i) ar < mu_Log_append_85 a_has a_rev a_use nar (g_size, g_imagesUsed, g_blocks, g_revokes, g_uses, g_firstImages, g_images) ar x7 (g_size_i, g_imagesUsed_i, g_blocks_i, g_revokes_i, g_uses_i, g_firstImages_i, g_images_i) ar := by
  obtain ⟨b, hb, rfl, h⟩ := hinv
  have hb2 : ¬ 64 ≤ b := fun z => c_89 (nI_le (a := 64) z (by omega))
  have hf : bitt a_has b = false := (bt_holds _ (by omega)).mp (it0.mp (Eq.trans (Eq.symm w_95) c_98))
  refine ⟨⟨b + 1, by omega, by rw [e_137]; exact nI_1 b, fun g hg ho => ?_⟩, ?_⟩
  · have h := h g hg ho
    obtain ⟨n, blk, rvk, us, fst, im⟩ := g
    obtain ⟨h1, h2, h3, h4⟩ := h
    have er : rk a_has (b + 1) = rk a_has b := by rw [rk_s, hf]; rfl
    refine ⟨h1, by rw [er]; exact h2, h3, ?_⟩
    rw [er, ← h4, show 64 - b = (64 - (b + 1)) + 1 by omega]
    show _ = (if bitt a_has b = true then _ else _)
    rw [hf]
    rfl
  · show 64 - v_137.toNatClampNeg < 64 - (nI b).toNatClampNeg
    rw [e_137, nI_1, nI_clamp (by omega), nI_clamp (by omega)]
    omega
theorem vc_Log_append_124_0 (a_has : Int64) (a_rev : Int64) (a_use : Int32) (nar : Nat) (g_size : Int32) (g_imagesUsed : Int32) (g_blocks : Nat → Int64) (g_revokes : Nat → Int64) (g_uses : Nat → Int32) (g_firstImages : Nat → Int32) (g_images : Nat → Int32) (ar : Nat → Int32) (x7 : Int32) (g_size_i : Int32) (g_imagesUsed_i : Int32) (g_blocks_i : Nat → Int64) (g_revokes_i : Nat → Int64) (g_uses_i : Nat → Int32) (g_firstImages_i : Nat → Int32) (g_images_i : Nat → Int32) (r_95 : Int32) (hpre : pr_Log_append a_has a_rev a_use nar (g_size, g_imagesUsed, g_blocks, g_revokes, g_uses, g_firstImages, g_images) ar) (hinv : iv_Log_append_85 a_has a_rev a_use nar (g_size, g_imagesUsed, g_blocks, g_revokes, g_uses, g_firstImages, g_images) ar x7 (g_size_i, g_imagesUsed_i, g_blocks_i, g_revokes_i, g_uses_i, g_firstImages_i, g_images_i) ar) (c_89 : ¬ 64 ≤ x7) (w_95 : po_holds a_has x7 r_95) (c_98 : ¬ r_95 = 0) : ¬ (x7 * 256) < 0 ∧ ¬ (g_imagesUsed_i * 256) < 0 ∧ ¬ (256 : Int32) < 0 ∧ ((x7 * 256)).toNatClampNeg + (256 : Int32).toNatClampNeg ≤ nar ∧ ((g_imagesUsed_i * 256)).toNatClampNeg + (256 : Int32).toNatClampNeg ≤ 51200 ∧ ∀ i, i < (256 : Int32).toNatClampNeg → fits .byte (.int (ar (((x7 * 256)).toNatClampNeg + i))) = true := by
  obtain ⟨hn1, hn2, hf, g, hg, ho, hc⟩ := hpre
  obtain ⟨b, hb, rfl, h⟩ := hinv
  have hb2 : ¬ 64 ≤ b := fun z => c_89 (nI_le (a := 64) z (by omega))
  have ht : bitt a_has b = true := by
    cases z : bitt a_has b
    · exact absurd (Eq.trans w_95 (it0.mpr ((bt_holds _ (by omega)).mpr z))) c_98
    · rfl
  have h := h g hg ho
  obtain ⟨n, blk, rvk, us, fst, im⟩ := g
  obtain ⟨h1, h2, h3, h4⟩ := h
  have hlt := rk_lt (by omega) ht
  have hc : fst n + cnt a_has ≤ 200 := hc
  rw [h2]
  have e : nI b * 256 = nI (b * 256) := pk_mul b 256
  have e3 : nI (fst n + rk a_has b) * 256 = nI ((fst n + rk a_has b) * 256) := pk_mul _ 256
  have e2 : (256 : Int32).toNatClampNeg = 256 := by decide
  rw [e, e2, e3, nI_clamp (n := b * 256) (by omega), nI_clamp (n := (fst n + rk a_has b) * 256) (by omega)]
  exact ⟨nI_pos (by omega), nI_pos (by omega), by decide, by omega, by omega, fun i _ => hf _⟩
theorem vc_Log_append_140_1 (a_has : Int64) (a_rev : Int64) (a_use : Int32) (nar : Nat) (g_size : Int32) (g_imagesUsed : Int32) (g_blocks : Nat → Int64) (g_revokes : Nat → Int64) (g_uses : Nat → Int32) (g_firstImages : Nat → Int32) (g_images : Nat → Int32) (ar : Nat → Int32) (x7 : Int32) (g_size_i : Int32) (g_imagesUsed_i : Int32) (g_blocks_i : Nat → Int64) (g_revokes_i : Nat → Int64) (g_uses_i : Nat → Int32) (g_firstImages_i : Nat → Int32) (g_images_i : Nat → Int32) (r_95 : Int32) (v_134 : Int32) (v_137 : Int32) (hpre : pr_Log_append a_has a_rev a_use nar (g_size, g_imagesUsed, g_blocks, g_revokes, g_uses, g_firstImages, g_images) ar) (hinv : iv_Log_append_85 a_has a_rev a_use nar (g_size, g_imagesUsed, g_blocks, g_revokes, g_uses, g_firstImages, g_images) ar x7 (g_size_i, g_imagesUsed_i, g_blocks_i, g_revokes_i, g_uses_i, g_firstImages_i, g_images_i) ar) (c_89 : ¬ 64 ≤ x7) (w_95 : po_holds a_has x7 r_95) (c_98 : ¬ r_95 = 0) (e_134 : v_134 = (g_imagesUsed_i + 1)) (e_137 : v_137 = x7 + 1) : iv_Log_append_85 a_has a_rev a_use nar (g_size, g_imagesUsed, g_blocks, g_revokes, g_uses, g_firstImages, g_images) ar v_137 (g_size_i, v_134, g_blocks_i, g_revokes_i, g_uses_i, g_firstImages_i, (va_cpy ar g_images_i ((x7 * 256)).toNatClampNeg ((g_imagesUsed_i * 256)).toNatClampNeg (256 : Int32).toNatClampNeg)) ar ∧ mu_Log_append_85 a_has a_rev a_use nar (g_size, g_imagesUsed, g_blocks, g_revokes, g_uses, g_firstImages, g_images) ar v_137 (g_size_i, v_134, g_blocks_i, g_revokes_i, g_uses_i, g_firstImages_i, (va_cpy ar g_images_i ((x7 * 256)).toNatClampNeg ((g_imagesUsed_i * 256)).toNatClampNeg (256 : Int32).toNatClampNeg)) ar < mu_Log_append_85 a_has a_rev a_use nar (g_size, g_imagesUsed, g_blocks, g_revokes, g_uses, g_firstImages, g_images) ar x7 (g_size_i, g_imagesUsed_i, g_blocks_i, g_revokes_i, g_uses_i, g_firstImages_i, g_images_i) ar := by
  obtain ⟨hn1, hn2, hf, g0, hg0, ho0, hc0⟩ := hpre
  obtain ⟨b, hb, rfl, h⟩ := hinv
  have hb2 : ¬ 64 ≤ b := fun z => c_89 (nI_le (a := 64) z (by omega))
  have ht : bitt a_has b = true := by
    cases z : bitt a_has b
    · exact absurd (Eq.trans w_95 (it0.mpr ((bt_holds _ (by omega)).mpr z))) c_98
    · rfl
  have hc1 := cnt_le a_has
  refine ⟨⟨b + 1, by omega, by rw [e_137]; exact nI_1 b, fun g hg ho => ?_⟩, ?_⟩
  · have h := h g hg ho
    have on := okG_n (n := g.1) ho
    obtain ⟨n, blk, rvk, us, fst, im⟩ := g
    obtain ⟨h1, h2, h3, h4⟩ := h
    have hlt := rk_lt (by omega) ht
    have on2 : fst n + n ≤ 199 := on.2.1
    have er : rk a_has (b + 1) = rk a_has b + 1 := by rw [rk_s, ht]; rfl
    have e : nI b * 256 = nI (b * 256) := pk_mul b 256
    have e3 : nI (fst n + rk a_has b) * 256 = nI ((fst n + rk a_has b) * 256) := pk_mul _ 256
    have e2 : (256 : Int32).toNatClampNeg = 256 := by decide
    refine ⟨h1, by rw [er, e_134, h2, nI_1]; rfl, h3, ?_⟩
    rw [h2, e, e2, e3, nI_clamp (n := b * 256) (by omega), nI_clamp (n := (fst n + rk a_has b) * 256) (by omega), er, ← h4, show 64 - b = (64 - (b + 1)) + 1 by omega]
    show _ = (if bitt a_has b = true then imN a_has ar (b + 1) (64 - (b + 1)) (fst n + rk a_has b + 1) (va_cpy ar g_images_i (256 * b) (256 * (fst n + rk a_has b)) 256) else _)
    rw [ht, Nat.mul_comm b 256, Nat.mul_comm (fst n + rk a_has b) 256]
    rfl
  · show 64 - v_137.toNatClampNeg < 64 - (nI b).toNatClampNeg
    rw [e_137, nI_1, nI_clamp (by omega), nI_clamp (by omega)]
    omega
theorem vc_Log_append_27_0 (a_has : Int64) (a_rev : Int64) (a_use : Int32) (nar : Nat) (g_size : Int32) (g_imagesUsed : Int32) (g_blocks : Nat → Int64) (g_revokes : Nat → Int64) (g_uses : Nat → Int32) (g_firstImages : Nat → Int32) (g_images : Nat → Int32) (ar : Nat → Int32) (hpre : pr_Log_append a_has a_rev a_use nar (g_size, g_imagesUsed, g_blocks, g_revokes, g_uses, g_firstImages, g_images) ar) (c_9 : 100 ≤ g_size) : po_Log_append a_has a_rev a_use nar (g_size, g_imagesUsed, g_blocks, g_revokes, g_uses, g_firstImages, g_images) ar (g_size, g_imagesUsed, g_blocks, g_revokes, g_uses, g_firstImages, g_images) ar := by
  obtain ⟨hn1, hn2, hf, g, hg, ho, hc⟩ := hpre
  have on := okG_n (n := g.1) ho
  have e : g_size = nI g.1 := hg.1
  rw [e] at c_9
  exact absurd c_9 (nI_ge (b := 100) (by omega) (by decide))
theorem vc_Log_append_17_0 (a_has : Int64) (a_rev : Int64) (a_use : Int32) (nar : Nat) (g_size : Int32) (g_imagesUsed : Int32) (g_blocks : Nat → Int64) (g_revokes : Nat → Int64) (g_uses : Nat → Int32) (g_firstImages : Nat → Int32) (g_images : Nat → Int32) (ar : Nat → Int32) (hpre : pr_Log_append a_has a_rev a_use nar (g_size, g_imagesUsed, g_blocks, g_revokes, g_uses, g_firstImages, g_images) ar) (c_9 : ¬ 100 ≤ g_size) : pr_bitCount a_has := by
  trivial
theorem vc_Log_append_37_0 (a_has : Int64) (a_rev : Int64) (a_use : Int32) (nar : Nat) (g_size : Int32) (g_imagesUsed : Int32) (g_blocks : Nat → Int64) (g_revokes : Nat → Int64) (g_uses : Nat → Int32) (g_firstImages : Nat → Int32) (g_images : Nat → Int32) (ar : Nat → Int32) (r_17 : Int32) (hpre : pr_Log_append a_has a_rev a_use nar (g_size, g_imagesUsed, g_blocks, g_revokes, g_uses, g_firstImages, g_images) ar) (c_9 : ¬ 100 ≤ g_size) (w_17 : po_bitCount a_has r_17) (c_24 : (g_imagesUsed + r_17) ≤ 200) : vp_in g_size 100 := by
  obtain ⟨hn1, hn2, hf, g, hg, ho, hc⟩ := hpre
  have on := okG_n (n := g.1) ho
  have e : g_size = nI g.1 := hg.1
  rw [e]
  exact vp_in_nI (by omega) (by decide)
theorem vc_Log_append_47_0 (a_has : Int64) (a_rev : Int64) (a_use : Int32) (nar : Nat) (g_size : Int32) (g_imagesUsed : Int32) (g_blocks : Nat → Int64) (g_revokes : Nat → Int64) (g_uses : Nat → Int32) (g_firstImages : Nat → Int32) (g_images : Nat → Int32) (ar : Nat → Int32) (r_17 : Int32) (hpre : pr_Log_append a_has a_rev a_use nar (g_size, g_imagesUsed, g_blocks, g_revokes, g_uses, g_firstImages, g_images) ar) (c_9 : ¬ 100 ≤ g_size) (w_17 : po_bitCount a_has r_17) (c_24 : (g_imagesUsed + r_17) ≤ 200) : vp_in g_size 100 := by
  obtain ⟨hn1, hn2, hf, g, hg, ho, hc⟩ := hpre
  have on := okG_n (n := g.1) ho
  have e : g_size = nI g.1 := hg.1
  rw [e]
  exact vp_in_nI (by omega) (by decide)
theorem vc_Log_append_58_0 (a_has : Int64) (a_rev : Int64) (a_use : Int32) (nar : Nat) (g_size : Int32) (g_imagesUsed : Int32) (g_blocks : Nat → Int64) (g_revokes : Nat → Int64) (g_uses : Nat → Int32) (g_firstImages : Nat → Int32) (g_images : Nat → Int32) (ar : Nat → Int32) (r_17 : Int32) (hpre : pr_Log_append a_has a_rev a_use nar (g_size, g_imagesUsed, g_blocks, g_revokes, g_uses, g_firstImages, g_images) ar) (c_9 : ¬ 100 ≤ g_size) (w_17 : po_bitCount a_has r_17) (c_24 : (g_imagesUsed + r_17) ≤ 200) : vp_in g_size 100 := by
  obtain ⟨hn1, hn2, hf, g, hg, ho, hc⟩ := hpre
  have on := okG_n (n := g.1) ho
  have e : g_size = nI g.1 := hg.1
  rw [e]
  exact vp_in_nI (by omega) (by decide)
theorem vc_Log_append_71_0 (a_has : Int64) (a_rev : Int64) (a_use : Int32) (nar : Nat) (g_size : Int32) (g_imagesUsed : Int32) (g_blocks : Nat → Int64) (g_revokes : Nat → Int64) (g_uses : Nat → Int32) (g_firstImages : Nat → Int32) (g_images : Nat → Int32) (ar : Nat → Int32) (r_17 : Int32) (hpre : pr_Log_append a_has a_rev a_use nar (g_size, g_imagesUsed, g_blocks, g_revokes, g_uses, g_firstImages, g_images) ar) (c_9 : ¬ 100 ≤ g_size) (w_17 : po_bitCount a_has r_17) (c_24 : (g_imagesUsed + r_17) ≤ 200) : vp_in g_size 100 := by
  obtain ⟨hn1, hn2, hf, g, hg, ho, hc⟩ := hpre
  have on := okG_n (n := g.1) ho
  have e : g_size = nI g.1 := hg.1
  rw [e]
  exact vp_in_nI (by omega) (by decide)
theorem vc_Log_append_83_0 (a_has : Int64) (a_rev : Int64) (a_use : Int32) (nar : Nat) (g_size : Int32) (g_imagesUsed : Int32) (g_blocks : Nat → Int64) (g_revokes : Nat → Int64) (g_uses : Nat → Int32) (g_firstImages : Nat → Int32) (g_images : Nat → Int32) (ar : Nat → Int32) (r_17 : Int32) (v_79 : Int32) (hpre : pr_Log_append a_has a_rev a_use nar (g_size, g_imagesUsed, g_blocks, g_revokes, g_uses, g_firstImages, g_images) ar) (c_9 : ¬ 100 ≤ g_size) (w_17 : po_bitCount a_has r_17) (c_24 : (g_imagesUsed + r_17) ≤ 200) (e_79 : v_79 = (g_size + 1)) : iv_Log_append_85 a_has a_rev a_use nar (g_size, g_imagesUsed, g_blocks, g_revokes, g_uses, g_firstImages, g_images) ar 0 (v_79, g_imagesUsed, (vp_updL g_blocks (g_size).toNatClampNeg a_has), (vp_updL g_revokes (g_size).toNatClampNeg a_rev), (upd g_uses (g_size).toNatClampNeg a_use), (upd g_firstImages (g_size).toNatClampNeg g_imagesUsed), g_images) ar ∧ True := by
  refine ⟨⟨0, by omega, rfl, fun g hg ho => ?_⟩, trivial⟩
  have on := okG_n (n := g.1) ho
  obtain ⟨n, blk, rvk, us, fst, im⟩ := g
  have on1 : n ≤ 99 := on.1
  obtain ⟨h1, h2, h3, h4⟩ := hg
  rw [h1, nI_clamp (by omega)]
  refine ⟨by rw [e_79, h1]; exact nI_1 n, by rw [rk_0, Nat.add_zero]; exact h2, fun t ht => ?_, by rw [h4]; rfl⟩
  by_cases q : t = n
  · subst q
    refine ⟨by rw [pk_uLs, pk_uLs], by rw [pk_uLs, pk_uLs], fun u hu => by rw [pk_us, if_pos rfl]; exact hu, ?_⟩
    rw [pk_us, if_neg (by omega)]
    exact h2
  · obtain ⟨q1, q2, q3, q4⟩ := h3 t (by omega)
    refine ⟨by rw [pk_uLn q, pk_uLn q]; exact q1, by rw [pk_uLn q, pk_uLn q]; exact q2, fun u hu => by rw [pk_un q, if_neg q]; exact q3, ?_⟩
    rw [pk_un q, if_neg (by omega)]
    exact q4
theorem vc_Log_append_27_1 (a_has : Int64) (a_rev : Int64) (a_use : Int32) (nar : Nat) (g_size : Int32) (g_imagesUsed : Int32) (g_blocks : Nat → Int64) (g_revokes : Nat → Int64) (g_uses : Nat → Int32) (g_firstImages : Nat → Int32) (g_images : Nat → Int32) (ar : Nat → Int32) (r_17 : Int32) (hpre : pr_Log_append a_has a_rev a_use nar (g_size, g_imagesUsed, g_blocks, g_revokes, g_uses, g_firstImages, g_images) ar) (c_9 : ¬ 100 ≤ g_size) (w_17 : po_bitCount a_has r_17) (c_24 : ¬ (g_imagesUsed + r_17) ≤ 200) : po_Log_append a_has a_rev a_use nar (g_size, g_imagesUsed, g_blocks, g_revokes, g_uses, g_firstImages, g_images) ar (g_size, g_imagesUsed, g_blocks, g_revokes, g_uses, g_firstImages, g_images) ar := by
  obtain ⟨hn1, hn2, hf, g, hg, ho, hc⟩ := hpre
  have on := okG_n (n := g.1) ho
  obtain ⟨n, blk, rvk, us, fst, im⟩ := g
  have hc : fst n + cnt a_has ≤ 200 := hc
  have w : r_17 = nI (cnt a_has) := w_17
  have e : g_imagesUsed = nI (fst n) := hg.2.1
  rw [e, w, nI_add] at c_24
  exact absurd (nI_le (b := 200) hc (by decide)) c_24
