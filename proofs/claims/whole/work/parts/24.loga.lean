/-! Log: what each method asks and gives -/
def okG (g : Lg) : Prop := ∃ ring : Nat, LW ring g ∧ ring ≤ 200
def okL (x : LGt) : Prop := ∃ g : Lg, RL g x ∧ okG g
theorem sum_ge2 {f : Nat → Nat} : ∀ n, (∀ t, t < n → 2 ≤ f t) → 2 * n ≤ sumN f n := by
  intro n
  induction n with
  | zero => intro _; exact Nat.le_refl _
  | succ n ih =>
    intro h
    have h1 := ih (fun t ht => h t (by omega))
    have h2 := h n (by omega)
    show 2 * (n + 1) ≤ sumN f n + f n
    omega
theorem sum_fst {blk : Nat → Int64} {use fst : Nat → Nat} (h0 : fst 0 = 0) : ∀ n, (∀ t, t < n → fst (t + 1) = fst t + cnt (blk t) ∧ cnt (blk t) + 1 ≤ use t) → fst n + n ≤ sumN use n := by
  intro n
  induction n with
  | zero => intro _; rw [h0]; exact Nat.le_refl _
  | succ n ih =>
    intro h
    have h1 := ih (fun t ht => h t (by omega))
    have h2 := h n (by omega)
    show fst (n + 1) + (n + 1) ≤ sumN use n + use n
    omega
theorem okG_n {n : Nat} {blk rvk : Nat → Int64} {use fst : Nat → Nat} {im : Nat → Int32} (h : okG (n, blk, rvk, use, fst, im)) : n ≤ 99 ∧ fst n + n ≤ 199 ∧ fst 0 = 0 ∧ sb_Fit im := by
  obtain ⟨ring, ⟨h1, h2, h3, h4⟩, h5⟩ := h
  have a := sum_ge2 n (fun t ht => (h2 t ht).2.2.1)
  have b := sum_fst h1 n (fun t ht => ⟨(h2 t ht).1, (h2 t ht).2.1⟩)
  exact ⟨by omega, by omega, h1, h4⟩
def pr_Log_makeEmpty (_ : LGt) : Prop := True
def po_Log_makeEmpty : LGt → LGt → Prop
  | (_, _, bl, rv, us, fi, im), x => x = (0, 0, bl, rv, us, fi, im)
def pr_Log_used (x : LGt) : Prop := okL x
def po_Log_used (x : LGt) (r : Int32) : Prop := ∀ g : Lg, RL g x → okG g → r = nI (sUsed g)
def pr_Log_lying (x : LGt) : Prop := okL x
def po_Log_lying (x : LGt) (r : Int64) : Prop := ∀ g : Lg, RL g x → okG g → r = sLying g
def pr_Log_living (t : Int32) (x : LGt) : Prop := ∃ (g : Lg) (i : Nat), RL g x ∧ okG g ∧ t = nI i ∧ i < g.1
def po_Log_living (t : Int32) (x : LGt) (r : Int64) : Prop := ∀ (g : Lg) (i : Nat), RL g x → okG g → i < g.1 → t = nI i → r = sLiving g i
def pr_Log_imageOf (t b : Int32) (x : LGt) : Prop := ∃ (g : Lg) (i q : Nat), RL g x ∧ okG g ∧ t = nI i ∧ i < g.1 ∧ b = nI q ∧ q < 64 ∧ bitt (g.2.1 i) q = true
def po_Log_imageOf (t b : Int32) (x : LGt) (r : Int32) : Prop := ∀ (g : Lg) (i q : Nat), RL g x → okG g → i < g.1 → t = nI i → b = nI q → q < 64 → bitt (g.2.1 i) q = true → r = nI (sImg g i q)
def pr_Log_latestImage (b : Int32) (x : LGt) : Prop := ∃ (g : Lg) (q t : Nat), RL g x ∧ okG g ∧ b = nI q ∧ q < 64 ∧ laN g.2.1 q g.1 = some t
def po_Log_latestImage (b : Int32) (x : LGt) (r : Int32) : Prop := ∀ (g : Lg) (q t : Nat), RL g x → okG g → b = nI q → q < 64 → laN g.2.1 q g.1 = some t → r = nI (sLate g q)
def pr_Log_append (has _ : Int64) (_ : Int32) (nA : Nat) (x : LGt) (now : Nat → Int32) : Prop := 16384 ≤ nA ∧ nA < 2 ^ 31 ∧ sb_Fit now ∧ ∃ g : Lg, RL g x ∧ okG g ∧ g.2.2.2.2.1 g.1 + cnt has ≤ 200
def po_Log_append (has rev : Int64) (use : Int32) (_ : Nat) (x : LGt) (now : Nat → Int32) (x2 : LGt) (_ : Nat → Int32) : Prop := ∀ (g : Lg) (u : Nat), RL g x → okG g → use = nI u → RL (sAppend has rev u now g) x2
def pr_Log_dropLatest (x : LGt) : Prop := okL x
def po_Log_dropLatest (x x2 : LGt) : Prop := ∀ g : Lg, RL g x → okG g → RL (sDrop g) x2
/-- of a log in the cells: how many transactions -/
theorem RL_n {g g2 : Lg} {x : LGt} (h : RL g x) (o : okG g) (h2 : RL g2 x) (o2 : okG g2) : g.1 = g2.1 := by
  obtain ⟨n, blk, rvk, use, fst, im⟩ := g
  obtain ⟨n2, blk2, rvk2, use2, fst2, im2⟩ := g2
  obtain ⟨sz, iu, bl, rv, us, fi, img⟩ := x
  have a := (okG_n o).1
  have b := (okG_n o2).1
  exact (nI_eq (by omega) (by omega)).mp (h.1.symm.trans h2.1)

theorem vc_Log_makeEmpty_10_0 (g_size : Int32) (g_imagesUsed : Int32) (g_blocks : Nat → Int64) (g_revokes : Nat → Int64) (g_uses : Nat → Int32) (g_firstImages : Nat → Int32) (g_images : Nat → Int32) (hpre : pr_Log_makeEmpty (g_size, g_imagesUsed, g_blocks, g_revokes, g_uses, g_firstImages, g_images)) : po_Log_makeEmpty (g_size, g_imagesUsed, g_blocks, g_revokes, g_uses, g_firstImages, g_images) (0, 0, g_blocks, g_revokes, g_uses, g_firstImages, g_images) := by
  rfl
def iv_Log_used_4 (x0 : LGt) (x1 x2 : Int32) (_ : LGt) : Prop := ∃ n i : Nat, n ≤ 99 ∧ x0.1 = nI n ∧ x2 = nI i ∧ i ≤ n ∧ ∀ g : Lg, RL g x0 → okG g → g.1 = n ∧ x1 = nI (sumN g.2.2.2.1 i)
def mu_Log_used_4 (x0 : LGt) (_ x2 : Int32) (_ : LGt) : Nat := x0.1.toNatClampNeg - x2.toNatClampNeg

theorem vc_Log_used_28_0 (g_size : Int32) (g_imagesUsed : Int32) (g_blocks : Nat → Int64) (g_revokes : Nat → Int64) (g_uses : Nat → Int32) (g_firstImages : Nat → Int32) (g_images : Nat → Int32) (x1 : Int32) (x2 : Int32) (hpre : pr_Log_used (g_size, g_imagesUsed, g_blocks, g_revokes, g_uses, g_firstImages, g_images)) (hinv : iv_Log_used_4 (g_size, g_imagesUsed, g_blocks, g_revokes, g_uses, g_firstImages, g_images) x1 x2 (g_size, g_imagesUsed, g_blocks, g_revokes, g_uses, g_firstImages, g_images)) (c_9 : g_size ≤ x2) : po_Log_used (g_size, g_imagesUsed, g_blocks, g_revokes, g_uses, g_firstImages, g_images) x1 := by
  intro g hg ho
  obtain ⟨n, i, hn, e, rfl, hi, h⟩ := hinv
  have e : g_size = nI n := e
  obtain ⟨h1, h2⟩ := h g hg ho
  rw [e] at c_9
  have h3 : n ≤ i := (nI_leI (by omega) (by omega)).mp c_9
  obtain ⟨n2, blk, rvk, use, fst, im⟩ := g
  have h1 : n2 = n := h1
  subst h1
  rw [h2, show i = n2 by omega]
  rfl
theorem vc_Log_used_18_0 (g_size : Int32) (g_imagesUsed : Int32) (g_blocks : Nat → Int64) (g_revokes : Nat → Int64) (g_uses : Nat → Int32) (g_firstImages : Nat → Int32) (g_images : Nat → Int32) (x1 : Int32) (x2 : Int32) (hpre : pr_Log_used (g_size, g_imagesUsed, g_blocks, g_revokes, g_uses, g_firstImages, g_images)) (hinv : iv_Log_used_4 (g_size, g_imagesUsed, g_blocks, g_revokes, g_uses, g_firstImages, g_images) x1 x2 (g_size, g_imagesUsed, g_blocks, g_revokes, g_uses, g_firstImages, g_images)) (c_9 : ¬ g_size ≤ x2) : vp_in x2 100 := by
  obtain ⟨n, i, hn, e, rfl, hi, h⟩ := hinv
  have e : g_size = nI n := e
  have h3 : ¬ n ≤ i := fun z => c_9 (by rw [e]; exact nI_le z (by omega))
  exact vp_in_nI (by omega) (by decide)
theorem vc_Log_used_24_0 (g_size : Int32) (g_imagesUsed : Int32) (g_blocks : Nat → Int64) (g_revokes : Nat → Int64) (g_uses : Nat → Int32) (g_firstImages : Nat → Int32) (g_images : Nat → Int32) (x1 : Int32) (x2 : Int32) (v_18 : Int32) (v_20 : Int32) (v_21 : Int32) (hpre : pr_Log_used (g_size, g_imagesUsed, g_blocks, g_revokes, g_uses, g_firstImages, g_images)) (hinv : iv_Log_used_4 (g_size, g_imagesUsed, g_blocks, g_revokes, g_uses, g_firstImages, g_images) x1 x2 (g_size, g_imagesUsed, g_blocks, g_revokes, g_uses, g_firstImages, g_images)) (c_9 : ¬ g_size ≤ x2) (e_18 : v_18 = (g_uses (x2).toNatClampNeg)) (e_20 : v_20 = (x1 + v_18)) (e_21 : v_21 = x2 + 1) : iv_Log_used_4 (g_size, g_imagesUsed, g_blocks, g_revokes, g_uses, g_firstImages, g_images) v_20 v_21 (g_size, g_imagesUsed, g_blocks, g_revokes, g_uses, g_firstImages, g_images) ∧ mu_Log_used_4 (g_size, g_imagesUsed, g_blocks, g_revokes, g_uses, g_firstImages, g_images) v_20 v_21 (g_size, g_imagesUsed, g_blocks, g_revokes, g_uses, g_firstImages, g_images) < mu_Log_used_4 (g_size, g_imagesUsed, g_blocks, g_revokes, g_uses, g_firstImages, g_images) x1 x2 (g_size, g_imagesUsed, g_blocks, g_revokes, g_uses, g_firstImages, g_images) := by
  obtain ⟨n, i, hn, e, rfl, hi, h⟩ := hinv
  have e : g_size = nI n := e
  have h3 : ¬ n ≤ i := fun z => c_9 (by rw [e]; exact nI_le z (by omega))
  refine ⟨⟨n, i + 1, hn, e, by rw [e_21]; exact nI_1 i, by omega, fun g hg ho => ?_⟩, ?_⟩
  · obtain ⟨h1, h2⟩ := h g hg ho
    refine ⟨h1, ?_⟩
    obtain ⟨n2, blk, rvk, use, fst, im⟩ := g
    have h1 : n2 = n := h1
    subst h1
    have u := (hg.2.2.1 i (by omega)).2.2.1
    rw [e_20, e_18, nI_clamp (by omega), u, h2, nI_add]
    rfl
  · show g_size.toNatClampNeg - v_21.toNatClampNeg < g_size.toNatClampNeg - (nI i).toNatClampNeg
    rw [e_21, nI_1, e, nI_clamp (n := n) (by omega), nI_clamp (n := i + 1) (by omega), nI_clamp (n := i) (by omega)]
    omega
theorem vc_Log_used_3_0 (g_size : Int32) (g_imagesUsed : Int32) (g_blocks : Nat → Int64) (g_revokes : Nat → Int64) (g_uses : Nat → Int32) (g_firstImages : Nat → Int32) (g_images : Nat → Int32) (hpre : pr_Log_used (g_size, g_imagesUsed, g_blocks, g_revokes, g_uses, g_firstImages, g_images)) : iv_Log_used_4 (g_size, g_imagesUsed, g_blocks, g_revokes, g_uses, g_firstImages, g_images) 0 0 (g_size, g_imagesUsed, g_blocks, g_revokes, g_uses, g_firstImages, g_images) ∧ True := by
  obtain ⟨g0, hg0, ho0⟩ := hpre
  have hn := (okG_n (n := g0.1) ho0).1
  exact ⟨⟨g0.1, 0, hn, hg0.1, rfl, Nat.zero_le _, fun g hg ho => ⟨RL_n hg ho hg0 ho0, rfl⟩⟩, trivial⟩
def iv_Log_lying_4 (x0 : LGt) (x1 : Int64) (x3 : Int32) (_ : LGt) : Prop := ∃ n i : Nat, n ≤ 99 ∧ x0.1 = nI n ∧ x3 = nI i ∧ i ≤ n ∧ ∀ g : Lg, RL g x0 → okG g → g.1 = n ∧ x1 = lyN g.2.1 g.2.2.1 i
def mu_Log_lying_4 (x0 : LGt) (_ : Int64) (x3 : Int32) (_ : LGt) : Nat := x0.1.toNatClampNeg - x3.toNatClampNeg

theorem vc_Log_lying_39_0 (g_size : Int32) (g_imagesUsed : Int32) (g_blocks : Nat → Int64) (g_revokes : Nat → Int64) (g_uses : Nat → Int32) (g_firstImages : Nat → Int32) (g_images : Nat → Int32) (x1 : Int64) (x3 : Int32) (hpre : pr_Log_lying (g_size, g_imagesUsed, g_blocks, g_revokes, g_uses, g_firstImages, g_images)) (hinv : iv_Log_lying_4 (g_size, g_imagesUsed, g_blocks, g_revokes, g_uses, g_firstImages, g_images) x1 x3 (g_size, g_imagesUsed, g_blocks, g_revokes, g_uses, g_firstImages, g_images)) (c_9 : g_size ≤ x3) : po_Log_lying (g_size, g_imagesUsed, g_blocks, g_revokes, g_uses, g_firstImages, g_images) x1 := by
  intro g hg ho
  obtain ⟨n, i, hn, e, rfl, hi, h⟩ := hinv
  have e : g_size = nI n := e
  obtain ⟨h1, h2⟩ := h g hg ho
  rw [e] at c_9
  have h3 : n ≤ i := (nI_leI (by omega) (by omega)).mp c_9
  obtain ⟨n2, blk, rvk, use, fst, im⟩ := g
  have h1 : n2 = n := h1
  subst h1
  rw [h2, show i = n2 by omega]
  rfl
theorem vc_Log_lying_18_0 (g_size : Int32) (g_imagesUsed : Int32) (g_blocks : Nat → Int64) (g_revokes : Nat → Int64) (g_uses : Nat → Int32) (g_firstImages : Nat → Int32) (g_images : Nat → Int32) (x1 : Int64) (x3 : Int32) (hpre : pr_Log_lying (g_size, g_imagesUsed, g_blocks, g_revokes, g_uses, g_firstImages, g_images)) (hinv : iv_Log_lying_4 (g_size, g_imagesUsed, g_blocks, g_revokes, g_uses, g_firstImages, g_images) x1 x3 (g_size, g_imagesUsed, g_blocks, g_revokes, g_uses, g_firstImages, g_images)) (c_9 : ¬ g_size ≤ x3) : vp_in x3 100 := by
  obtain ⟨n, i, hn, e, rfl, hi, h⟩ := hinv
  have e : g_size = nI n := e
  have h3 : ¬ n ≤ i := fun z => c_9 (by rw [e]; exact nI_le z (by omega))
  exact vp_in_nI (by omega) (by decide)
theorem vc_Log_lying_29_0 (g_size : Int32) (g_imagesUsed : Int32) (g_blocks : Nat → Int64) (g_revokes : Nat → Int64) (g_uses : Nat → Int32) (g_firstImages : Nat → Int32) (g_images : Nat → Int32) (x1 : Int64) (x3 : Int32) (v_18 : Int64) (hpre : pr_Log_lying (g_size, g_imagesUsed, g_blocks, g_revokes, g_uses, g_firstImages, g_images)) (hinv : iv_Log_lying_4 (g_size, g_imagesUsed, g_blocks, g_revokes, g_uses, g_firstImages, g_images) x1 x3 (g_size, g_imagesUsed, g_blocks, g_revokes, g_uses, g_firstImages, g_images)) (c_9 : ¬ g_size ≤ x3) (e_18 : v_18 = (g_revokes (x3).toNatClampNeg)) : vp_in x3 100 := by
  obtain ⟨n, i, hn, e, rfl, hi, h⟩ := hinv
  have e : g_size = nI n := e
  have h3 : ¬ n ≤ i := fun z => c_9 (by rw [e]; exact nI_le z (by omega))
  exact vp_in_nI (by omega) (by decide)
theorem vc_Log_lying_35_0 (g_size : Int32) (g_imagesUsed : Int32) (g_blocks : Nat → Int64) (g_revokes : Nat → Int64) (g_uses : Nat → Int32) (g_firstImages : Nat → Int32) (g_images : Nat → Int32) (x1 : Int64) (x3 : Int32) (v_18 : Int64) (v_29 : Int64) (v_31 : Int64) (v_32 : Int32) (hpre : pr_Log_lying (g_size, g_imagesUsed, g_blocks, g_revokes, g_uses, g_firstImages, g_images)) (hinv : iv_Log_lying_4 (g_size, g_imagesUsed, g_blocks, g_revokes, g_uses, g_firstImages, g_images) x1 x3 (g_size, g_imagesUsed, g_blocks, g_revokes, g_uses, g_firstImages, g_images)) (c_9 : ¬ g_size ≤ x3) (e_18 : v_18 = (g_revokes (x3).toNatClampNeg)) (e_29 : v_29 = (g_blocks (x3).toNatClampNeg)) (e_31 : v_31 = ((x1 &&& (v_18 ^^^ (-1))) ||| v_29)) (e_32 : v_32 = x3 + 1) : iv_Log_lying_4 (g_size, g_imagesUsed, g_blocks, g_revokes, g_uses, g_firstImages, g_images) v_31 v_32 (g_size, g_imagesUsed, g_blocks, g_revokes, g_uses, g_firstImages, g_images) ∧ mu_Log_lying_4 (g_size, g_imagesUsed, g_blocks, g_revokes, g_uses, g_firstImages, g_images) v_31 v_32 (g_size, g_imagesUsed, g_blocks, g_revokes, g_uses, g_firstImages, g_images) < mu_Log_lying_4 (g_size, g_imagesUsed, g_blocks, g_revokes, g_uses, g_firstImages, g_images) x1 x3 (g_size, g_imagesUsed, g_blocks, g_revokes, g_uses, g_firstImages, g_images) := by
  obtain ⟨n, i, hn, e, rfl, hi, h⟩ := hinv
  have e : g_size = nI n := e
  have h3 : ¬ n ≤ i := fun z => c_9 (by rw [e]; exact nI_le z (by omega))
  refine ⟨⟨n, i + 1, hn, e, by rw [e_32]; exact nI_1 i, by omega, fun g hg ho => ?_⟩, ?_⟩
  · obtain ⟨h1, h2⟩ := h g hg ho
    refine ⟨h1, ?_⟩
    obtain ⟨n2, blk, rvk, use, fst, im⟩ := g
    have h1 : n2 = n := h1
    subst h1
    obtain ⟨u1, u2, -⟩ := hg.2.2.1 i (by omega)
    rw [e_31, e_18, e_29, nI_clamp (by omega), u1, u2, h2]
    rfl
  · show g_size.toNatClampNeg - v_32.toNatClampNeg < g_size.toNatClampNeg - (nI i).toNatClampNeg
    rw [e_32, nI_1, e, nI_clamp (n := n) (by omega), nI_clamp (n := i + 1) (by omega), nI_clamp (n := i) (by omega)]
    omega
theorem vc_Log_lying_3_0 (g_size : Int32) (g_imagesUsed : Int32) (g_blocks : Nat → Int64) (g_revokes : Nat → Int64) (g_uses : Nat → Int32) (g_firstImages : Nat → Int32) (g_images : Nat → Int32) (hpre : pr_Log_lying (g_size, g_imagesUsed, g_blocks, g_revokes, g_uses, g_firstImages, g_images)) : iv_Log_lying_4 (g_size, g_imagesUsed, g_blocks, g_revokes, g_uses, g_firstImages, g_images) 0 0 (g_size, g_imagesUsed, g_blocks, g_revokes, g_uses, g_firstImages, g_images) ∧ True := by
  obtain ⟨g0, hg0, ho0⟩ := hpre
  have hn := (okG_n (n := g0.1) ho0).1
  exact ⟨⟨g0.1, 0, hn, hg0.1, rfl, Nat.zero_le _, fun g hg ho => ⟨RL_n hg ho hg0 ho0, rfl⟩⟩, trivial⟩
def iv_Log_living_24 (t : Int32) (x0 : LGt) (x2 : Int64) (x4 : Int32) (_ : LGt) : Prop := ∃ n i a : Nat, n ≤ 99 ∧ x0.1 = nI n ∧ x4 = nI i ∧ i ≤ n ∧ t = nI a ∧ a < n ∧ ∀ g : Lg, RL g x0 → okG g → g.1 = n ∧ lvN g.2.2.1 x2 i (n - i) = sLiving g a
def mu_Log_living_24 (_ : Int32) (x0 : LGt) (_ : Int64) (x4 : Int32) (_ : LGt) : Nat := x0.1.toNatClampNeg - x4.toNatClampNeg

theorem vc_Log_living_54_0 (a_t : Int32) (g_size : Int32) (g_imagesUsed : Int32) (g_blocks : Nat → Int64) (g_revokes : Nat → Int64) (g_uses : Nat → Int32) (g_firstImages : Nat → Int32) (g_images : Nat → Int32) (x2 : Int64) (x4 : Int32) (hpre : pr_Log_living a_t (g_size, g_imagesUsed, g_blocks, g_revokes, g_uses, g_firstImages, g_images)) (hinv : iv_Log_living_24 a_t (g_size, g_imagesUsed, g_blocks, g_revokes, g_uses, g_firstImages, g_images) x2 x4 (g_size, g_imagesUsed, g_blocks, g_revokes, g_uses, g_firstImages, g_images)) (c_30 : g_size ≤ x4) : po_Log_living a_t (g_size, g_imagesUsed, g_blocks, g_revokes, g_uses, g_firstImages, g_images) x2 := by
  intro g j hg ho hj ej
  obtain ⟨n, i, a, hn, e, rfl, hi, ea, ha, h⟩ := hinv
  have e : g_size = nI n := e
  obtain ⟨h1, h2⟩ := h g hg ho
  rw [e] at c_30
  have h3 : n ≤ i := (nI_leI (by omega) (by omega)).mp c_30
  have h4 : a = j := (nI_eq (by omega) (by omega)).mp (ea.symm.trans ej)
  rw [show n - i = 0 by omega] at h2
  rw [← h4]
  exact h2
theorem vc_Log_living_40_0 (a_t : Int32) (g_size : Int32) (g_imagesUsed : Int32) (g_blocks : Nat → Int64) (g_revokes : Nat → Int64) (g_uses : Nat → Int32) (g_firstImages : Nat → Int32) (g_images : Nat → Int32) (x2 : Int64) (x4 : Int32) (hpre : pr_Log_living a_t (g_size, g_imagesUsed, g_blocks, g_revokes, g_uses, g_firstImages, g_images)) (hinv : iv_Log_living_24 a_t (g_size, g_imagesUsed, g_blocks, g_revokes, g_uses, g_firstImages, g_images) x2 x4 (g_size, g_imagesUsed, g_blocks, g_revokes, g_uses, g_firstImages, g_images)) (c_30 : ¬ g_size ≤ x4) : vp_in x4 100 := by
  obtain ⟨n, i, a, hn, e, rfl, hi, ea, ha, h⟩ := hinv
  have e : g_size = nI n := e
  have h3 : ¬ n ≤ i := fun z => c_30 (by rw [e]; exact nI_le z (by omega))
  exact vp_in_nI (by omega) (by decide)
theorem vc_Log_living_50_0 (a_t : Int32) (g_size : Int32) (g_imagesUsed : Int32) (g_blocks : Nat → Int64) (g_revokes : Nat → Int64) (g_uses : Nat → Int32) (g_firstImages : Nat → Int32) (g_images : Nat → Int32) (x2 : Int64) (x4 : Int32) (v_40 : Int64) (v_46 : Int64) (v_47 : Int32) (hpre : pr_Log_living a_t (g_size, g_imagesUsed, g_blocks, g_revokes, g_uses, g_firstImages, g_images)) (hinv : iv_Log_living_24 a_t (g_size, g_imagesUsed, g_blocks, g_revokes, g_uses, g_firstImages, g_images) x2 x4 (g_size, g_imagesUsed, g_blocks, g_revokes, g_uses, g_firstImages, g_images)) (c_30 : ¬ g_size ≤ x4) (e_40 : v_40 = (g_revokes (x4).toNatClampNeg)) (e_46 : v_46 = (x2 &&& (v_40 ^^^ (-1)))) (e_47 : v_47 = x4 + 1) : iv_Log_living_24 a_t (g_size, g_imagesUsed, g_blocks, g_revokes, g_uses, g_firstImages, g_images) v_46 v_47 (g_size, g_imagesUsed, g_blocks, g_revokes, g_uses, g_firstImages, g_images) ∧ mu_Log_living_24 a_t (g_size, g_imagesUsed, g_blocks, g_revokes, g_uses, g_firstImages, g_images) v_46 v_47 (g_size, g_imagesUsed, g_blocks, g_revokes, g_uses, g_firstImages, g_images) < mu_Log_living_24 a_t (g_size, g_imagesUsed, g_blocks, g_revokes, g_uses, g_firstImages, g_images) x2 x4 (g_size, g_imagesUsed, g_blocks, g_revokes, g_uses, g_firstImages, g_images) := by
  obtain ⟨n, i, a, hn, e, rfl, hi, ea, ha, h⟩ := hinv
  have e : g_size = nI n := e
  have h3 : ¬ n ≤ i := fun z => c_30 (by rw [e]; exact nI_le z (by omega))
  refine ⟨⟨n, i + 1, a, hn, e, by rw [e_47]; exact nI_1 i, by omega, ea, ha, fun g hg ho => ?_⟩, ?_⟩
  · obtain ⟨h1, h2⟩ := h g hg ho
    refine ⟨h1, ?_⟩
    rw [← h2]
    obtain ⟨n2, blk, rvk, use, fst, im⟩ := g
    have h1 : n2 = n := h1
    subst h1
    obtain ⟨u1, u2, -⟩ := hg.2.2.1 i (by omega)
    rw [e_46, e_40, nI_clamp (by omega), u2, show n2 - i = (n2 - (i + 1)) + 1 by omega]
    rfl
  · show g_size.toNatClampNeg - v_47.toNatClampNeg < g_size.toNatClampNeg - (nI i).toNatClampNeg
    rw [e_47, nI_1, e, nI_clamp (n := n) (by omega), nI_clamp (n := i + 1) (by omega), nI_clamp (n := i) (by omega)]
    omega
theorem vc_Log_living_13_0 (a_t : Int32) (g_size : Int32) (g_imagesUsed : Int32) (g_blocks : Nat → Int64) (g_revokes : Nat → Int64) (g_uses : Nat → Int32) (g_firstImages : Nat → Int32) (g_images : Nat → Int32) (hpre : pr_Log_living a_t (g_size, g_imagesUsed, g_blocks, g_revokes, g_uses, g_firstImages, g_images)) (c_1 : a_t < 0) : po_Log_living a_t (g_size, g_imagesUsed, g_blocks, g_revokes, g_uses, g_firstImages, g_images) 0 := by
  obtain ⟨g, i, hg, ho, rfl, hi⟩ := hpre
  have hn := (okG_n (n := g.1) ho).1
  exact absurd c_1 (nI_pos (by omega))
theorem vc_Log_living_19_0 (a_t : Int32) (g_size : Int32) (g_imagesUsed : Int32) (g_blocks : Nat → Int64) (g_revokes : Nat → Int64) (g_uses : Nat → Int32) (g_firstImages : Nat → Int32) (g_images : Nat → Int32) (hpre : pr_Log_living a_t (g_size, g_imagesUsed, g_blocks, g_revokes, g_uses, g_firstImages, g_images)) (c_1 : ¬ a_t < 0) (c_9 : a_t < g_size) : vp_in a_t 100 := by
  obtain ⟨g, i, hg, ho, rfl, hi⟩ := hpre
  have hn := (okG_n (n := g.1) ho).1
  exact vp_in_nI (by omega) (by decide)
theorem vc_Log_living_22_0 (a_t : Int32) (g_size : Int32) (g_imagesUsed : Int32) (g_blocks : Nat → Int64) (g_revokes : Nat → Int64) (g_uses : Nat → Int32) (g_firstImages : Nat → Int32) (g_images : Nat → Int32) (v_19 : Int64) (hpre : pr_Log_living a_t (g_size, g_imagesUsed, g_blocks, g_revokes, g_uses, g_firstImages, g_images)) (c_1 : ¬ a_t < 0) (c_9 : a_t < g_size) (e_19 : v_19 = (g_blocks (a_t).toNatClampNeg)) : iv_Log_living_24 a_t (g_size, g_imagesUsed, g_blocks, g_revokes, g_uses, g_firstImages, g_images) v_19 a_t (g_size, g_imagesUsed, g_blocks, g_revokes, g_uses, g_firstImages, g_images) ∧ True := by
  obtain ⟨g0, i, hg0, ho0, rfl, hi⟩ := hpre
  have hn := (okG_n (n := g0.1) ho0).1
  refine ⟨⟨g0.1, i, i, hn, hg0.1, rfl, by omega, rfl, hi, fun g hg ho => ?_⟩, trivial⟩
  have h1 := RL_n hg ho hg0 ho0
  refine ⟨h1, ?_⟩
  rw [← h1] at hi ⊢
  obtain ⟨n2, blk, rvk, use, fst, im⟩ := g
  obtain ⟨u1, -⟩ := hg.2.2.1 i hi
  have hi : i < n2 := hi
  rw [e_19, nI_clamp (by omega), u1]
  rfl
theorem vc_Log_living_13_1 (a_t : Int32) (g_size : Int32) (g_imagesUsed : Int32) (g_blocks : Nat → Int64) (g_revokes : Nat → Int64) (g_uses : Nat → Int32) (g_firstImages : Nat → Int32) (g_images : Nat → Int32) (hpre : pr_Log_living a_t (g_size, g_imagesUsed, g_blocks, g_revokes, g_uses, g_firstImages, g_images)) (c_1 : ¬ a_t < 0) (c_9 : ¬ a_t < g_size) : po_Log_living a_t (g_size, g_imagesUsed, g_blocks, g_revokes, g_uses, g_firstImages, g_images) 0 := by
  obtain ⟨g, i, hg, ho, rfl, hi⟩ := hpre
  have hn := (okG_n (n := g.1) ho).1
  have e : g_size = nI g.1 := hg.1
  exact absurd (by rw [e]; exact nI_lt hi (by omega)) c_9
theorem vc_Log_imageOf_26_0 (a_t : Int32) (a_b : Int32) (g_size : Int32) (g_imagesUsed : Int32) (g_blocks : Nat → Int64) (g_revokes : Nat → Int64) (g_uses : Nat → Int32) (g_firstImages : Nat → Int32) (g_images : Nat → Int32) (hpre : pr_Log_imageOf a_t a_b (g_size, g_imagesUsed, g_blocks, g_revokes, g_uses, g_firstImages, g_images)) (c_1 : a_t < 0) : po_Log_imageOf a_t a_b (g_size, g_imagesUsed, g_blocks, g_revokes, g_uses, g_firstImages, g_images) (-1) := by
  obtain ⟨g, i, q, hg, ho, rfl, hi, rfl, hq, hb⟩ := hpre
  have hn := (okG_n (n := g.1) ho).1
  exact absurd c_1 (nI_pos (by omega))
theorem vc_Log_imageOf_26_1 (a_t : Int32) (a_b : Int32) (g_size : Int32) (g_imagesUsed : Int32) (g_blocks : Nat → Int64) (g_revokes : Nat → Int64) (g_uses : Nat → Int32) (g_firstImages : Nat → Int32) (g_images : Nat → Int32) (hpre : pr_Log_imageOf a_t a_b (g_size, g_imagesUsed, g_blocks, g_revokes, g_uses, g_firstImages, g_images)) (c_1 : ¬ a_t < 0) (c_9 : g_size ≤ a_t) : po_Log_imageOf a_t a_b (g_size, g_imagesUsed, g_blocks, g_revokes, g_uses, g_firstImages, g_images) (-1) := by
  obtain ⟨g, i, q, hg, ho, rfl, hi, rfl, hq, hb⟩ := hpre
  have hn := (okG_n (n := g.1) ho).1
  have e : g_size = nI g.1 := hg.1
  rw [e] at c_9
  exact absurd c_9 (nI_ge hi (by omega))
theorem vc_Log_imageOf_17_0 (a_t : Int32) (a_b : Int32) (g_size : Int32) (g_imagesUsed : Int32) (g_blocks : Nat → Int64) (g_revokes : Nat → Int64) (g_uses : Nat → Int32) (g_firstImages : Nat → Int32) (g_images : Nat → Int32) (hpre : pr_Log_imageOf a_t a_b (g_size, g_imagesUsed, g_blocks, g_revokes, g_uses, g_firstImages, g_images)) (c_1 : ¬ a_t < 0) (c_9 : ¬ g_size ≤ a_t) : vp_in a_t 100 := by
  obtain ⟨g, i, q, hg, ho, rfl, hi, rfl, hq, hb⟩ := hpre
  have hn := (okG_n (n := g.1) ho).1
  exact vp_in_nI (by omega) (by decide)
theorem vc_Log_imageOf_19_0 (a_t : Int32) (a_b : Int32) (g_size : Int32) (g_imagesUsed : Int32) (g_blocks : Nat → Int64) (g_revokes : Nat → Int64) (g_uses : Nat → Int32) (g_firstImages : Nat → Int32) (g_images : Nat → Int32) (v_17 : Int64) (hpre : pr_Log_imageOf a_t a_b (g_size, g_imagesUsed, g_blocks, g_revokes, g_uses, g_firstImages, g_images)) (c_1 : ¬ a_t < 0) (c_9 : ¬ g_size ≤ a_t) (e_17 : v_17 = (g_blocks (a_t).toNatClampNeg)) : pr_holds v_17 a_b := by
  trivial
theorem vc_Log_imageOf_32_0 (a_t : Int32) (a_b : Int32) (g_size : Int32) (g_imagesUsed : Int32) (g_blocks : Nat → Int64) (g_revokes : Nat → Int64) (g_uses : Nat → Int32) (g_firstImages : Nat → Int32) (g_images : Nat → Int32) (v_17 : Int64) (r_19 : Int32) (hpre : pr_Log_imageOf a_t a_b (g_size, g_imagesUsed, g_blocks, g_revokes, g_uses, g_firstImages, g_images)) (c_1 : ¬ a_t < 0) (c_9 : ¬ g_size ≤ a_t) (e_17 : v_17 = (g_blocks (a_t).toNatClampNeg)) (w_19 : po_holds v_17 a_b r_19) (c_22 : ¬ r_19 = 0) : vp_in a_t 100 := by
  obtain ⟨g, i, q, hg, ho, rfl, hi, rfl, hq, hb⟩ := hpre
  have hn := (okG_n (n := g.1) ho).1
  exact vp_in_nI (by omega) (by decide)
theorem vc_Log_imageOf_34_0 (a_t : Int32) (a_b : Int32) (g_size : Int32) (g_imagesUsed : Int32) (g_blocks : Nat → Int64) (g_revokes : Nat → Int64) (g_uses : Nat → Int32) (g_firstImages : Nat → Int32) (g_images : Nat → Int32) (v_17 : Int64) (r_19 : Int32) (v_32 : Int64) (hpre : pr_Log_imageOf a_t a_b (g_size, g_imagesUsed, g_blocks, g_revokes, g_uses, g_firstImages, g_images)) (c_1 : ¬ a_t < 0) (c_9 : ¬ g_size ≤ a_t) (e_17 : v_17 = (g_blocks (a_t).toNatClampNeg)) (w_19 : po_holds v_17 a_b r_19) (c_22 : ¬ r_19 = 0) (e_32 : v_32 = (g_blocks (a_t).toNatClampNeg)) : pr_bit a_b := by
  trivial
theorem vc_Log_imageOf_40_0 (a_t : Int32) (a_b : Int32) (g_size : Int32) (g_imagesUsed : Int32) (g_blocks : Nat → Int64) (g_revokes : Nat → Int64) (g_uses : Nat → Int32) (g_firstImages : Nat → Int32) (g_images : Nat → Int32) (v_17 : Int64) (r_19 : Int32) (v_32 : Int64) (r_34 : Int64) (hpre : pr_Log_imageOf a_t a_b (g_size, g_imagesUsed, g_blocks, g_revokes, g_uses, g_firstImages, g_images)) (c_1 : ¬ a_t < 0) (c_9 : ¬ g_size ≤ a_t) (e_17 : v_17 = (g_blocks (a_t).toNatClampNeg)) (w_19 : po_holds v_17 a_b r_19) (c_22 : ¬ r_19 = 0) (e_32 : v_32 = (g_blocks (a_t).toNatClampNeg)) (w_34 : po_bit a_b r_34) : pr_bitCount (v_32 &&& (r_34 - 1)) := by
  trivial
theorem vc_Log_imageOf_49_0 (a_t : Int32) (a_b : Int32) (g_size : Int32) (g_imagesUsed : Int32) (g_blocks : Nat → Int64) (g_revokes : Nat → Int64) (g_uses : Nat → Int32) (g_firstImages : Nat → Int32) (g_images : Nat → Int32) (v_17 : Int64) (r_19 : Int32) (v_32 : Int64) (r_34 : Int64) (r_40 : Int32) (hpre : pr_Log_imageOf a_t a_b (g_size, g_imagesUsed, g_blocks, g_revokes, g_uses, g_firstImages, g_images)) (c_1 : ¬ a_t < 0) (c_9 : ¬ g_size ≤ a_t) (e_17 : v_17 = (g_blocks (a_t).toNatClampNeg)) (w_19 : po_holds v_17 a_b r_19) (c_22 : ¬ r_19 = 0) (e_32 : v_32 = (g_blocks (a_t).toNatClampNeg)) (w_34 : po_bit a_b r_34) (w_40 : po_bitCount (v_32 &&& (r_34 - 1)) r_40) : vp_in a_t 100 := by
  obtain ⟨g, i, q, hg, ho, rfl, hi, rfl, hq, hb⟩ := hpre
  have hn := (okG_n (n := g.1) ho).1
  exact vp_in_nI (by omega) (by decide)
theorem vc_Log_imageOf_56_0 (a_t : Int32) (a_b : Int32) (g_size : Int32) (g_imagesUsed : Int32) (g_blocks : Nat → Int64) (g_revokes : Nat → Int64) (g_uses : Nat → Int32) (g_firstImages : Nat → Int32) (g_images : Nat → Int32) (v_17 : Int64) (r_19 : Int32) (v_32 : Int64) (r_34 : Int64) (r_40 : Int32) (v_49 : Int32) (hpre : pr_Log_imageOf a_t a_b (g_size, g_imagesUsed, g_blocks, g_revokes, g_uses, g_firstImages, g_images)) (c_1 : ¬ a_t < 0) (c_9 : ¬ g_size ≤ a_t) (e_17 : v_17 = (g_blocks (a_t).toNatClampNeg)) (w_19 : po_holds v_17 a_b r_19) (c_22 : ¬ r_19 = 0) (e_32 : v_32 = (g_blocks (a_t).toNatClampNeg)) (w_34 : po_bit a_b r_34) (w_40 : po_bitCount (v_32 &&& (r_34 - 1)) r_40) (e_49 : v_49 = (g_firstImages (a_t).toNatClampNeg)) : po_Log_imageOf a_t a_b (g_size, g_imagesUsed, g_blocks, g_revokes, g_uses, g_firstImages, g_images) ((v_49 + r_40) * 256) := by
  intro g i q hg ho hi et eb hq hb
  subst et eb
  have hn := (okG_n (n := g.1) ho).1
  obtain ⟨n, blk, rvk, use, fst, im⟩ := g
  have hn : n ≤ 99 := hn
  have hi : i < n := hi
  obtain ⟨u1, u2, u3, u4⟩ := hg.2.2.1 i hi
  have w34 : r_34 = bit1 q := w_34
  have w40 : r_40 = nI (cnt (v_32 &&& (r_34 - 1))) := w_40
  rw [w40, e_49, w34, e_32, nI_clamp (by omega), u1, u4, cnt_mask _ hq, nI_add, n256, pk_mul]
  rfl
theorem vc_Log_imageOf_26_2 (a_t : Int32) (a_b : Int32) (g_size : Int32) (g_imagesUsed : Int32) (g_blocks : Nat → Int64) (g_revokes : Nat → Int64) (g_uses : Nat → Int32) (g_firstImages : Nat → Int32) (g_images : Nat → Int32) (v_17 : Int64) (r_19 : Int32) (hpre : pr_Log_imageOf a_t a_b (g_size, g_imagesUsed, g_blocks, g_revokes, g_uses, g_firstImages, g_images)) (c_1 : ¬ a_t < 0) (c_9 : ¬ g_size ≤ a_t) (e_17 : v_17 = (g_blocks (a_t).toNatClampNeg)) (w_19 : po_holds v_17 a_b r_19) (c_22 : r_19 = 0) : po_Log_imageOf a_t a_b (g_size, g_imagesUsed, g_blocks, g_revokes, g_uses, g_firstImages, g_images) (-1) := by
  intro g i q hg ho hi et eb hq hb
  subst et eb
  have hn := (okG_n (n := g.1) ho).1
  obtain ⟨n, blk, rvk, use, fst, im⟩ := g
  have hn : n ≤ 99 := hn
  have hi : i < n := hi
  obtain ⟨u1, -⟩ := hg.2.2.1 i hi
  have h := it0.mp (Eq.trans (Eq.symm w_19) c_22)
  have h2 : bitt v_17 q = false := (bt_holds _ hq).mp h
  rw [e_17, nI_clamp (by omega), u1] at h2
  have hb : bitt (blk i) q = true := hb
  rw [hb] at h2
  cases h2
def iv_Log_latestImage_7 (b : Int32) (x0 : LGt) (x2 : Int32) (_ : LGt) : Prop := ∃ n i q : Nat, n ≤ 99 ∧ x0.1 = nI n ∧ x2 = nI i - 1 ∧ i ≤ n ∧ b = nI q ∧ q < 64 ∧ (∀ g : Lg, RL g x0 → okG g → g.1 = n ∧ laN g.2.1 q n = laN g.2.1 q i) ∧ ∃ (g : Lg) (t : Nat), RL g x0 ∧ okG g ∧ laN g.2.1 q g.1 = some t
def mu_Log_latestImage_7 (_ : Int32) (_ : LGt) (x2 : Int32) (_ : LGt) : Nat := (x2 + 1).toNatClampNeg
theorem nI_m1p (i : Nat) : nI i - 1 + 1 = nI i := by
  rw [Int32.sub_add_cancel]
theorem nI_s1 {i : Nat} (h : 0 < i) : nI i - 1 = nI (i - 1) := pk_sub (b := 1) h
theorem nI_neg1 : nI 0 - 1 < 0 := by decide

theorem vc_Log_latestImage_38_0 (a_b : Int32) (g_size : Int32) (g_imagesUsed : Int32) (g_blocks : Nat → Int64) (g_revokes : Nat → Int64) (g_uses : Nat → Int32) (g_firstImages : Nat → Int32) (g_images : Nat → Int32) (x2 : Int32) (hpre : pr_Log_latestImage a_b (g_size, g_imagesUsed, g_blocks, g_revokes, g_uses, g_firstImages, g_images)) (hinv : iv_Log_latestImage_7 a_b (g_size, g_imagesUsed, g_blocks, g_revokes, g_uses, g_firstImages, g_images) x2 (g_size, g_imagesUsed, g_blocks, g_revokes, g_uses, g_firstImages, g_images)) (c_8 : x2 < 0) : po_Log_latestImage a_b (g_size, g_imagesUsed, g_blocks, g_revokes, g_uses, g_firstImages, g_images) (-1) := by
  obtain ⟨n, i, q, hn, e, rfl, hi, rfl, hq, h, g0, t0, hg0, ho0, ht0⟩ := hinv
  have hz : i = 0 := by
    rcases Nat.eq_zero_or_pos i with z | z
    · exact z
    · rw [nI_s1 z] at c_8
      exact absurd c_8 (nI_pos (by omega))
  obtain ⟨h1, h2⟩ := h g0 hg0 ho0
  rw [h1, h2, hz] at ht0
  cases ht0
theorem vc_Log_latestImage_16_0 (a_b : Int32) (g_size : Int32) (g_imagesUsed : Int32) (g_blocks : Nat → Int64) (g_revokes : Nat → Int64) (g_uses : Nat → Int32) (g_firstImages : Nat → Int32) (g_images : Nat → Int32) (x2 : Int32) (hpre : pr_Log_latestImage a_b (g_size, g_imagesUsed, g_blocks, g_revokes, g_uses, g_firstImages, g_images)) (hinv : iv_Log_latestImage_7 a_b (g_size, g_imagesUsed, g_blocks, g_revokes, g_uses, g_firstImages, g_images) x2 (g_size, g_imagesUsed, g_blocks, g_revokes, g_uses, g_firstImages, g_images)) (c_8 : ¬ x2 < 0) : vp_in x2 100 := by
  obtain ⟨n, i, q, hn, e, rfl, hi, rfl, hq, h, g0, t0, hg0, ho0, ht0⟩ := hinv
  have hz : 0 < i := Nat.pos_of_ne_zero (fun z => c_8 (by rw [z]; exact nI_neg1))
  rw [nI_s1 hz]
  exact vp_in_nI (by omega) (by decide)
theorem vc_Log_latestImage_18_0 (a_b : Int32) (g_size : Int32) (g_imagesUsed : Int32) (g_blocks : Nat → Int64) (g_revokes : Nat → Int64) (g_uses : Nat → Int32) (g_firstImages : Nat → Int32) (g_images : Nat → Int32) (x2 : Int32) (v_16 : Int64) (hpre : pr_Log_latestImage a_b (g_size, g_imagesUsed, g_blocks, g_revokes, g_uses, g_firstImages, g_images)) (hinv : iv_Log_latestImage_7 a_b (g_size, g_imagesUsed, g_blocks, g_revokes, g_uses, g_firstImages, g_images) x2 (g_size, g_imagesUsed, g_blocks, g_revokes, g_uses, g_firstImages, g_images)) (c_8 : ¬ x2 < 0) (e_16 : v_16 = (g_blocks (x2).toNatClampNeg)) : pr_holds v_16 a_b := by
  trivial
theorem vc_Log_latestImage_34_0 (a_b : Int32) (g_size : Int32) (g_imagesUsed : Int32) (g_blocks : Nat → Int64) (g_revokes : Nat → Int64) (g_uses : Nat → Int32) (g_firstImages : Nat → Int32) (g_images : Nat → Int32) (x2 : Int32) (v_16 : Int64) (r_18 : Int32) (v_31 : Int32) (hpre : pr_Log_latestImage a_b (g_size, g_imagesUsed, g_blocks, g_revokes, g_uses, g_firstImages, g_images)) (hinv : iv_Log_latestImage_7 a_b (g_size, g_imagesUsed, g_blocks, g_revokes, g_uses, g_firstImages, g_images) x2 (g_size, g_imagesUsed, g_blocks, g_revokes, g_uses, g_firstImages, g_images)) (c_8 : ¬ x2 < 0) (e_16 : v_16 = (g_blocks (x2).toNatClampNeg)) (w_18 : po_holds v_16 a_b r_18) (c_21 : r_18 = 0) (e_31 : v_31 = x2 + (-1)) : iv_Log_latestImage_7 a_b (g_size, g_imagesUsed, g_blocks, g_revokes, g_uses, g_firstImages, g_images) v_31 (g_size, g_imagesUsed, g_blocks, g_revokes, g_uses, g_firstImages, g_images) ∧ mu_Log_latestImage_7 a_b (g_size, g_imagesUsed, g_blocks, g_revokes, g_uses, g_firstImages, g_images) v_31 (g_size, g_imagesUsed, g_blocks, g_revokes, g_uses, g_firstImages, g_images) < mu_Log_latestImage_7 a_b (g_size, g_imagesUsed, g_blocks, g_revokes, g_uses, g_firstImages, g_images) x2 (g_size, g_imagesUsed, g_blocks, g_revokes, g_uses, g_firstImages, g_images) := by
  obtain ⟨n, i, q, hn, e, rfl, hi, rfl, hq, h, hex⟩ := hinv
  have hz : 0 < i := Nat.pos_of_ne_zero (fun z => c_8 (by rw [z]; exact nI_neg1))
  rw [nI_s1 hz, nI_clamp (by omega)] at e_16
  have ev : v_31 = nI (i - 1) - 1 := by rw [e_31, nI_s1 hz, Int32.sub_eq_add_neg]
  refine ⟨⟨n, i - 1, q, hn, e, ev, by omega, rfl, hq, fun g hg ho => ?_, hex⟩, ?_⟩
  · obtain ⟨h1, h2⟩ := h g hg ho
    refine ⟨h1, h2.trans ?_⟩
    obtain ⟨n2, blk, rvk, use, fst, im⟩ := g
    have h1 : n2 = n := h1
    subst h1
    obtain ⟨u1, -⟩ := hg.2.2.1 (i - 1) (by omega)
    have hh := it0.mp (Eq.trans (Eq.symm w_18) c_21)
    have h3 : bitt v_16 q = false := (bt_holds _ hq).mp hh
    rw [e_16, u1] at h3
    show laN blk q i = laN blk q (i - 1)
    obtain ⟨k, rfl⟩ : ∃ k, i = k + 1 := ⟨i - 1, by omega⟩
    have h3 : bitt (blk k) q = false := h3
    show (if bitt (blk k) q = true then some k else laN blk q k) = laN blk q k
    rw [h3]
    rfl
  · show (v_31 + 1).toNatClampNeg < (nI i - 1 + 1).toNatClampNeg
    rw [ev, nI_m1p, nI_m1p, nI_clamp (by omega), nI_clamp (by omega)]
    omega
theorem vc_Log_latestImage_27_0 (a_b : Int32) (g_size : Int32) (g_imagesUsed : Int32) (g_blocks : Nat → Int64) (g_revokes : Nat → Int64) (g_uses : Nat → Int32) (g_firstImages : Nat → Int32) (g_images : Nat → Int32) (x2 : Int32) (v_16 : Int64) (r_18 : Int32) (hpre : pr_Log_latestImage a_b (g_size, g_imagesUsed, g_blocks, g_revokes, g_uses, g_firstImages, g_images)) (hinv : iv_Log_latestImage_7 a_b (g_size, g_imagesUsed, g_blocks, g_revokes, g_uses, g_firstImages, g_images) x2 (g_size, g_imagesUsed, g_blocks, g_revokes, g_uses, g_firstImages, g_images)) (c_8 : ¬ x2 < 0) (e_16 : v_16 = (g_blocks (x2).toNatClampNeg)) (w_18 : po_holds v_16 a_b r_18) (c_21 : ¬ r_18 = 0) : pr_Log_imageOf x2 a_b (g_size, g_imagesUsed, g_blocks, g_revokes, g_uses, g_firstImages, g_images) := by
  obtain ⟨n, i, q, hn, e, rfl, hi, rfl, hq, h, g0, t0, hg0, ho0, ht0⟩ := hinv
  have hz : 0 < i := Nat.pos_of_ne_zero (fun z => c_8 (by rw [z]; exact nI_neg1))
  rw [nI_s1 hz, nI_clamp (by omega)] at e_16
  obtain ⟨h1, h2⟩ := h g0 hg0 ho0
  have hh := it1.mp (fun z => c_21 (Eq.trans w_18 z))
  have h3 : bitt v_16 q = true := by
    cases z : bitt v_16 q
    · exact absurd ((bt_holds _ hq).mpr z) hh
    · rfl
  refine ⟨g0, i - 1, q, hg0, ho0, nI_s1 hz, by omega, rfl, hq, ?_⟩
  obtain ⟨n2, blk, rvk, use, fst, im⟩ := g0
  have h1 : n2 = n := h1
  subst h1
  obtain ⟨u1, -⟩ := hg0.2.2.1 (i - 1) (by omega)
  rw [e_16, u1] at h3
  exact h3
theorem vc_Log_latestImage_30_0 (a_b : Int32) (g_size : Int32) (g_imagesUsed : Int32) (g_blocks : Nat → Int64) (g_revokes : Nat → Int64) (g_uses : Nat → Int32) (g_firstImages : Nat → Int32) (g_images : Nat → Int32) (x2 : Int32) (v_16 : Int64) (r_18 : Int32) (r_27 : Int32) (hpre : pr_Log_latestImage a_b (g_size, g_imagesUsed, g_blocks, g_revokes, g_uses, g_firstImages, g_images)) (hinv : iv_Log_latestImage_7 a_b (g_size, g_imagesUsed, g_blocks, g_revokes, g_uses, g_firstImages, g_images) x2 (g_size, g_imagesUsed, g_blocks, g_revokes, g_uses, g_firstImages, g_images)) (c_8 : ¬ x2 < 0) (e_16 : v_16 = (g_blocks (x2).toNatClampNeg)) (w_18 : po_holds v_16 a_b r_18) (c_21 : ¬ r_18 = 0) (w_27 : po_Log_imageOf x2 a_b (g_size, g_imagesUsed, g_blocks, g_revokes, g_uses, g_firstImages, g_images) r_27) : po_Log_latestImage a_b (g_size, g_imagesUsed, g_blocks, g_revokes, g_uses, g_firstImages, g_images) r_27 := by
  intro g q2 t hg ho eb hq2 ht
  obtain ⟨n, i, q, hn, e, rfl, hi, rfl, hq, h, hex⟩ := hinv
  have hz : 0 < i := Nat.pos_of_ne_zero (fun z => c_8 (by rw [z]; exact nI_neg1))
  rw [nI_s1 hz, nI_clamp (by omega)] at e_16
  have eq := (nI_eq (by omega) (by omega)).mp eb
  subst eq
  obtain ⟨h1, h2⟩ := h g hg ho
  have hh := it1.mp (fun z => c_21 (Eq.trans w_18 z))
  have h3 : bitt v_16 q = true := by
    cases z : bitt v_16 q
    · exact absurd ((bt_holds _ hq).mpr z) hh
    · rfl
  have hw := w_27 g (i - 1) q hg ho
  obtain ⟨n2, blk, rvk, use, fst, im⟩ := g
  have h1 : n2 = n := h1
  subst h1
  obtain ⟨u1, -⟩ := hg.2.2.1 (i - 1) (by omega)
  rw [e_16, u1] at h3
  have hw := hw (by show i - 1 < n2; omega) (nI_s1 hz) rfl hq h3
  rw [hw]
  have h2 : laN blk q n2 = laN blk q i := h2
  obtain ⟨k, rfl⟩ : ∃ k, i = k + 1 := ⟨i - 1, by omega⟩
  have h3 : bitt (blk k) q = true := h3
  have h4 : laN blk q (k + 1) = some k := if_pos h3
  show nI (sImg (n2, blk, rvk, use, fst, im) k q) = nI (match laN blk q n2 with
    | none => 0
    | some t => sImg (n2, blk, rvk, use, fst, im) t q)
  rw [h2, h4]
theorem vc_Log_latestImage_6_0 (a_b : Int32) (g_size : Int32) (g_imagesUsed : Int32) (g_blocks : Nat → Int64) (g_revokes : Nat → Int64) (g_uses : Nat → Int32) (g_firstImages : Nat → Int32) (g_images : Nat → Int32) (v_6 : Int32) (hpre : pr_Log_latestImage a_b (g_size, g_imagesUsed, g_blocks, g_revokes, g_uses, g_firstImages, g_images)) (e_6 : v_6 = (g_size - 1)) : iv_Log_latestImage_7 a_b (g_size, g_imagesUsed, g_blocks, g_revokes, g_uses, g_firstImages, g_images) v_6 (g_size, g_imagesUsed, g_blocks, g_revokes, g_uses, g_firstImages, g_images) ∧ True := by
  obtain ⟨g0, q, t, hg0, ho0, rfl, hq, ht⟩ := hpre
  have hn := (okG_n (n := g0.1) ho0).1
  have e : g_size = nI g0.1 := hg0.1
  refine ⟨⟨g0.1, g0.1, q, hn, e, by rw [e_6, e], Nat.le_refl _, rfl, hq, fun g hg ho => ⟨RL_n hg ho hg0 ho0, rfl⟩, g0, t, hg0, ho0, ht⟩, trivial⟩
theorem vc_Log_dropLatest_30_0 (g_size : Int32) (g_imagesUsed : Int32) (g_blocks : Nat → Int64) (g_revokes : Nat → Int64) (g_uses : Nat → Int32) (g_firstImages : Nat → Int32) (g_images : Nat → Int32) (hpre : pr_Log_dropLatest (g_size, g_imagesUsed, g_blocks, g_revokes, g_uses, g_firstImages, g_images)) (c_4 : g_size ≤ 0) : po_Log_dropLatest (g_size, g_imagesUsed, g_blocks, g_revokes, g_uses, g_firstImages, g_images) (g_size, g_imagesUsed, g_blocks, g_revokes, g_uses, g_firstImages, g_images) := by
  intro g hg ho
  obtain ⟨n, blk, rvk, use, fst, im⟩ := g
  have hn := (okG_n ho).1
  have e : g_size = nI n := hg.1
  rw [e] at c_4
  have hz : n = 0 := by
    rcases Nat.eq_zero_or_pos n with z | z
    · exact z
    · exact absurd c_4 (nI_nle z (by omega))
  subst hz
  exact hg
theorem vc_Log_dropLatest_26_0 (g_size : Int32) (g_imagesUsed : Int32) (g_blocks : Nat → Int64) (g_revokes : Nat → Int64) (g_uses : Nat → Int32) (g_firstImages : Nat → Int32) (g_images : Nat → Int32) (v_14 : Int32) (hpre : pr_Log_dropLatest (g_size, g_imagesUsed, g_blocks, g_revokes, g_uses, g_firstImages, g_images)) (c_4 : ¬ g_size ≤ 0) (e_14 : v_14 = (g_size - 1)) : vp_in v_14 100 := by
  obtain ⟨g, hg, ho⟩ := hpre
  obtain ⟨n, blk, rvk, use, fst, im⟩ := g
  have hn := (okG_n ho).1
  have e : g_size = nI n := hg.1
  have hz : 0 < n := Nat.pos_of_ne_zero (fun z => c_4 (by rw [e, z]; decide))
  rw [e_14, e, nI_s1 hz]
  exact vp_in_nI (by omega) (by decide)
theorem vc_Log_dropLatest_30_1 (g_size : Int32) (g_imagesUsed : Int32) (g_blocks : Nat → Int64) (g_revokes : Nat → Int64) (g_uses : Nat → Int32) (g_firstImages : Nat → Int32) (g_images : Nat → Int32) (v_14 : Int32) (v_26 : Int32) (hpre : pr_Log_dropLatest (g_size, g_imagesUsed, g_blocks, g_revokes, g_uses, g_firstImages, g_images)) (c_4 : ¬ g_size ≤ 0) (e_14 : v_14 = (g_size - 1)) (e_26 : v_26 = (g_firstImages (v_14).toNatClampNeg)) : po_Log_dropLatest (g_size, g_imagesUsed, g_blocks, g_revokes, g_uses, g_firstImages, g_images) (v_14, v_26, g_blocks, g_revokes, g_uses, g_firstImages, g_images) := by
  intro g hg ho
  obtain ⟨n, blk, rvk, use, fst, im⟩ := g
  have hn := (okG_n ho).1
  obtain ⟨e, e2, e3, e4⟩ := hg
  have hz : 0 < n := Nat.pos_of_ne_zero (fun z => c_4 (by rw [e, z]; decide))
  rw [e, nI_s1 hz] at e_14
  subst e_14
  rw [nI_clamp (by omega)] at e_26
  refine ⟨rfl, ?_, fun t ht => e3 t (by omega), e4⟩
  rw [e_26]
  exact (e3 (n - 1) (by omega)).2.2.2
