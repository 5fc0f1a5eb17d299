/-! what each call keeps -/
theorem SW_iff {ring : Nat} {run rev : Int64} {now : Nat → Int32} {d : Dk} {g : Lg} : SW (ring, run, rev, now, d, g) ↔ (40 ≤ ring ∧ ring ≤ 200 ∧ run &&& rev = 0 ∧ cnt run ≤ 30 ∧ cnt rev ≤ 30 ∧ (d.2.1 = true → d.1 = []) ∧ UO d.1 g.1 ∧ sb_Fit now ∧ sb_Fit d.2.2.2.2.1 ∧ sb_Fit d.2.2.2.2.2 ∧ LW ring g) := by
  obtain ⟨u, on, fu, st, ba, ho⟩ := d
  exact Iff.rfl
theorem SW_mk {ring : Nat} {run rev run2 rev2 : Int64} {now now2 : Nat → Int32} {d d2 : Dk} {g g2 : Lg} (h : SW (ring, run, rev, now, d, g)) (a1 : run2 &&& rev2 = 0) (a2 : cnt run2 ≤ 30) (a3 : cnt rev2 ≤ 30) (a4 : d2.2.1 = true → d2.1 = []) (a5 : UO d2.1 g2.1) (a6 : sb_Fit now2) (a7 : DW d2) (a8 : LW ring g2) : SW (ring, run2, rev2, now2, d2, g2) := by
  have k := SW_iff.mp h
  obtain ⟨u, on, fu, st, ba, ho⟩ := d2
  exact ⟨k.1, k.2.1, a1, a2, a3, a4, a5, a6, a7.2.2.1, a7.2.2.2, a8⟩
theorem fit0 (f : Nat → Int32) (h : sb_Fit f) (a n : Nat) : sb_Fit (fillF f a n 0) := by
  intro j
  unfold fillF
  split
  · rfl
  · exact h j
theorem LW_any {ring r2 : Nat} {g : Lg} (h : LW ring g) : LW r2 (0, g.2) := by
  obtain ⟨n, blk, rvk, use, fst, im⟩ := g
  obtain ⟨h1, h2, h3, h4⟩ := h
  exact ⟨h1, fun t ht => absurd ht (Nat.not_lt_zero _), Nat.zero_le _, h4⟩
theorem sum_le {f : Nat → Nat} {m : Nat} : ∀ n, m ≤ n → sumN f m ≤ sumN f n := by
  intro n
  induction n with
  | zero => intro h; rw [Nat.le_zero.mp h]; exact Nat.le_refl _
  | succ n ih =>
    intro h
    rcases Nat.lt_or_ge n m with z | z
    · rw [show m = n + 1 by omega]; exact Nat.le_refl _
    · exact Nat.le_trans (ih z) (Nat.le_add_right _ _)
theorem LW_le {ring n m : Nat} {r : (Nat → Int64) × (Nat → Int64) × (Nat → Nat) × (Nat → Nat) × (Nat → Int32)} (h : LW ring (n, r)) (hm : m ≤ n) : LW ring (m, r) := by
  obtain ⟨blk, rvk, use, fst, im⟩ := r
  obtain ⟨h1, h2, h3, h4⟩ := h
  exact ⟨h1, fun t ht => h2 t (by omega), Nat.le_trans (sum_le n hm) h3, h4⟩
theorem c0 : cnt 0 ≤ 30 := by rw [cnt_zero.mpr rfl]; decide
theorem i_of {n : Int32} (h : ¬ (n < 40 ∨ 200 < n)) : ∃ q : Nat, n = nI q ∧ 40 ≤ q ∧ q ≤ 200 := by
  have hn : ¬ n < 0 := fun z => h (Or.inl (Int32.lt_trans z (by decide)))
  obtain ⟨q, h1, rfl⟩ := nI_of hn
  refine ⟨q, rfl, ?_, ?_⟩
  · rcases Nat.lt_or_ge q 40 with z | z
    · exact absurd (Or.inl (nI_lt (b := 40) z (by decide))) h
    · exact z
  · rcases Nat.lt_or_ge 200 q with z | z
    · exact absurd (Or.inr (nI_lt (a := 200) z h1)) h
    · exact z
theorem sw_lay {n : Int32} {σ : Sp} (h : SW σ) : SW (fLay n σ).2 := by
  obtain ⟨ring, run, rev, now, ⟨u, on, fu, st, ba, ho⟩, g⟩ := σ
  have k := h
  obtain ⟨k1, k2, k3, k4, k5, k6, k7, k8, k9, k10, k11⟩ := k
  by_cases c : n < 40 ∨ 200 < n
  · have e : fLay n (ring, run, rev, now, (u, on, fu, st, ba, ho), g) = (-2, (ring, run, rev, now, (u, on, fu, st, ba, ho), g)) := if_pos c
    rw [e]; exact h
  · have e : fLay n (ring, run, rev, now, (u, on, fu, st, ba, ho), g) = (n, (n.toNatClampNeg, 0, 0, fillF now 0 16384 0, ([], true, -1, 0, fillF ba 0 16384 0, fillF ho 0 16384 0), (0, g.2))) := if_neg c
    rw [e]
    obtain ⟨q, rfl, q1, q2⟩ := i_of c
    rw [nI_clamp (by omega)]
    exact ⟨q1, q2, by decide, c0, c0, fun _ => rfl, Or.inl hs_nil, fit0 _ k8 _ _, fit0 _ k9 _ _, fit0 _ k10 _ _, LW_any k11⟩
theorem disj_set {x y : Int64} {q : Nat} (h : x &&& y = 0) (hq : q < 64) : (x ||| bit1 q) &&& (y &&& (bit1 q ^^^ (-1))) = 0 := by
  apply bt_ext
  intro i hi
  have e := bt_and x y i
  rw [h, bt_zero] at e
  rw [bt_and, bt_or, bt_and, bt_not _ hi, bt_bit1 hq, bt_zero]
  cases z1 : bitt x i <;> cases z2 : bitt y i <;> cases z3 : decide (i = q) <;> simp_all
theorem disj_set2 {x y : Int64} {q : Nat} (h : x &&& y = 0) (hq : q < 64) : (x &&& (bit1 q ^^^ (-1))) &&& (y ||| bit1 q) = 0 := by
  apply bt_ext
  intro i hi
  have e := bt_and x y i
  rw [h, bt_zero] at e
  rw [bt_and, bt_and, bt_not _ hi, bt_or, bt_bit1 hq, bt_zero]
  cases z1 : bitt x i <;> cases z2 : bitt y i <;> cases z3 : decide (i = q) <;> simp_all
theorem cnt_set {x : Int64} {q : Nat} (hq : q < 64) (h : cnt x ≤ 30) (f : ¬ (bitt x q = false ∧ 30 ≤ cnt x)) : cnt (x ||| bit1 q) ≤ 30 := by
  cases z : bitt x q
  · have := cnt_or1 x hq
    have : ¬ 30 ≤ cnt x := fun y => f ⟨z, y⟩
    omega
  · rw [or1_self x hq z]; exact h
theorem cnt_clr {x : Int64} {q : Nat} (h : cnt x ≤ 30) : cnt (x &&& (bit1 q ^^^ (-1))) ≤ 30 := Nat.le_trans (cnt_sub (fun i _ y => by
  rw [bt_and] at y
  cases z : bitt x i
  · rw [z] at y; cases y
  · rfl)) h
theorem sw_write {b a n v : Int32} {σ : Sp} (h : SW σ) : SW (fWrite b a n v σ).2 := by
  obtain ⟨ring, run, rev, now, d, g⟩ := σ
  obtain ⟨k1, k2, k3, k4, k5, k6, k7, k8, k9, k10, k11⟩ := SW_iff.mp h
  cases o : d.2.1
  · rw [fW_off o]; exact h
  · by_cases c : b < 0 ∨ 64 ≤ b ∨ a < 0 ∨ 256 ≤ a ∨ n < 1 ∨ 256 - a < n ∨ v < 0 ∨ 255 < v
    · rw [fW_bad o c]; exact h
    · by_cases f : bitt run b.toNatClampNeg = false ∧ 30 ≤ cnt run
      · rw [fW_full o c f]; exact h
      · rw [fW_ok o c f]
        obtain ⟨q, hq, rfl⟩ := home_of (fun z => c (z.elim Or.inl (fun y => Or.inr (Or.inl y))))
        rw [nI_clamp (n := q) (by omega)] at f ⊢
        exact SW_iff.mpr ⟨k1, k2, disj_set k3 hq, cnt_set hq k4 f, cnt_clr k5, k6, k7, fit_fill k8 _ _ _, k9, k10, k11⟩
theorem sw_forget {b : Int32} {σ : Sp} (h : SW σ) : SW (fForget b σ).2 := by
  obtain ⟨ring, run, rev, now, d, g⟩ := σ
  obtain ⟨k1, k2, k3, k4, k5, k6, k7, k8, k9, k10, k11⟩ := SW_iff.mp h
  cases o : d.2.1
  · rw [fF_off o]; exact h
  · by_cases c : b < 0 ∨ 64 ≤ b
    · rw [fF_bad o c]; exact h
    · by_cases f : bitt rev b.toNatClampNeg = false ∧ 30 ≤ cnt rev
      · rw [fF_full o c f]; exact h
      · rw [fF_ok o c f]
        obtain ⟨q, hq, rfl⟩ := home_of c
        rw [nI_clamp (n := q) (by omega)] at f ⊢
        exact SW_iff.mpr ⟨k1, k2, disj_set2 k3 hq, cnt_clr k4, cnt_set hq k5 f, k6, k7, fit_cpy k10 k8, k9, k10, k11⟩
theorem off_nil {d : Dk} (h : d.2.1 = false) : d.2.1 = true → d.1 = [] := fun z => absurd (h.symm.trans z) (by decide)
theorem sw_direct {b v : Int32} {σ : Sp} (h : SW σ) : SW (fDirect b v σ).2 := by
  obtain ⟨ring, run, rev, now, d, g⟩ := σ
  obtain ⟨k1, k2, k3, k4, k5, k6, k7, k8, k9, k10, k11⟩ := SW_iff.mp h
  obtain ⟨s1, s2, s3, s4⟩ := SW_wf h
  cases o : d.2.1
  · rw [fD_off o]; exact h
  · by_cases c : b < 0 ∨ 64 ≤ b ∨ v < 0 ∨ 255 < v
    · rw [fD_bad o c]; exact h
    · by_cases f : bitt ((run ||| rev) ||| sLying g) b.toNatClampNeg = true
      · rw [fD_busy o c f]; exact h
      · rw [fD_go o c f]
        obtain ⟨q, hq, rfl⟩ := home_of (fun z => c (z.elim Or.inl (fun y => Or.inr (Or.inl y))))
        rw [nI_clamp (n := q) (by omega)]
        have hn := s4 o
        have hf := fit_fill k8 (q * 256) 256 v
        generalize fillF now (q * 256) 256 v.toInt8.toInt32 = now1 at hf ⊢
        have hb : hs (sBar d).2.1 := bar_hs (by rw [hn]; exact hs_nil)
        cases z1 : (sBar d).1
        · rw [dg_1 z1]
          exact SW_mk h k3 k4 k5 (off_nil (bar_off z1)) (Or.inl hb) hf (DW_bar s1) k11
        · obtain ⟨w1, w2⟩ := DW_home (b := q) (sp := q * 256) (DW_bar s1) hb hq hf
          cases z2 : (sHome q now1 (q * 256) (sBar d).2).1
          · rw [dg_2 z1 z2]
            exact SW_mk h k3 k4 k5 (off_nil (home_off z2).1) (Or.inl w2) hf w1 k11
          · rw [dg_3 z1 z2]
            refine SW_mk h k3 k4 k5 ?_ (Or.inl (bar_hs w2)) hf (DW_bar w1) k11
            cases z3 : (sBar (sHome q now1 (q * 256) (sBar d).2).2).1
            · exact off_nil (bar_off z3)
            · exact fun _ => bar_nil z3
theorem sw_fuse {n : Int32} {σ : Sp} (h : SW σ) : SW (fFuse n σ).2 := by
  obtain ⟨ring, run, rev, now, ⟨u, on, fu, st, ba, ho⟩, g⟩ := σ
  cases on
  · exact h
  · by_cases c : n < -1 ∨ 100000 < n
    · have e : fFuse n (ring, run, rev, now, (u, true, fu, st, ba, ho), g) = (-2, (ring, run, rev, now, (u, true, fu, st, ba, ho), g)) := if_pos c
      rw [e]; exact h
    · have e : fFuse n (ring, run, rev, now, (u, true, fu, st, ba, ho), g) = (fu, (ring, run, rev, now, (u, true, n, st, ba, ho), g)) := if_neg c
      rw [e]; exact h
theorem sw_fail {σ : Sp} (h : SW σ) : SW (fFail σ).2 := by
  obtain ⟨ring, run, rev, now, ⟨u, on, fu, st, ba, ho⟩, g⟩ := σ
  cases on
  · exact h
  · obtain ⟨k1, k2, k3, k4, k5, k6, k7, k8, k9, k10, k11⟩ := h
    exact ⟨k1, k2, k3, k4, k5, fun z => (nomatch z), k7, k8, k9, k10, k11⟩
theorem end_uo {d : Dk} {g : Lg} (h : hs d.1) : UO (sEnd d g).2.1.1 (sEnd d g).2.2.1 ∧ ((sEnd d g).2.1.2.1 = true → (sEnd d g).2.1.1 = []) := by
  cases z1 : (sBar d).1
  · rw [end_f1 z1]; exact ⟨Or.inl (bar_hs h), off_nil (bar_off z1)⟩
  · cases z2 : (sRing 66 (sBar d).2).1
    · rw [end_f2 z1 z2]
      exact ⟨Or.inl (by rw [ring_fu z2, bar_nil z1]; exact hs_nil), off_nil (ring_off z2)⟩
    · rw [end_3 z1 z2]
      cases z3 : (sBar (sRing 66 (sBar d).2).2).1
      · refine ⟨Or.inr (Or.inr (Or.inr ?_)), off_nil (bar_off z3)⟩
        rw [bar_fu z3, ring_u z2, bar_nil z1]; rfl
      · exact ⟨Or.inl (by rw [bar_nil z3]; exact hs_nil), fun _ => bar_nil z3⟩
theorem end_lw {ring : Nat} {d : Dk} {g : Lg} (w : DW d) (h : LW ring g) : LW ring (sEnd d g).2.2 := by
  obtain ⟨x1, x2, x3⟩ := end_wf (g := g) w
  cases z : (sEnd d g).1
  · rw [x3 z]; exact h
  · rw [(x2 z).2]; exact LW_0 h
theorem clear_uo {ring : Nat} {d : Dk} {g : Lg} (w : DW d) (hn : d.1 = []) (o : okG g) (h : LW ring g) : UO (sClear d g).2.1.1 (sClear d g).2.2.1 ∧ ((sClear d g).2.1.2.1 = true → (sClear d g).2.1.1 = []) ∧ LW ring (sClear d g).2.2 := by
  have k := clrN_wf (okG_n (n := g.1) o).2.2.2 (sLying g) 64 0 d (by decide) w (by rw [hn]; exact hs_nil)
  have ko := clrN_on (g := g) (sLying g) 64 0 d
  cases z : (sClrN g (sLying g) 0 64 d).1
  · have e : sClrN g (sLying g) 0 64 d = (false, (sClrN g (sLying g) 0 64 d).2) := Prod.ext z rfl
    rw [clear_f e]
    exact ⟨Or.inl k.2, off_nil (ko.2 z), h⟩
  · have e : sClrN g (sLying g) 0 64 d = (true, (sClrN g (sLying g) 0 64 d).2) := Prod.ext z rfl
    rw [clear_t e]
    have u := end_uo (g := g) k.2
    exact ⟨u.1, u.2, end_lw k.1 h⟩
theorem sw_clear {σ : Sp} (h : SW σ) : SW (fClear σ).2 := by
  obtain ⟨ring, run, rev, now, d, g⟩ := σ
  obtain ⟨k1, k2, k3, k4, k5, k6, k7, k8, k9, k10, k11⟩ := SW_iff.mp h
  obtain ⟨s1, s2, s3, s4⟩ := SW_wf h
  cases o : d.2.1
  · rw [fCl_off o]; exact h
  · by_cases c : g.1 = 0
    · rw [fCl_none o c]; exact h
    · rw [fCl_go o c]
      obtain ⟨u1, u2, u3⟩ := clear_uo s1 (s4 o) s3 k11
      exact SW_mk h k3 k4 k5 u2 u1 k8 (clear_wf s1 (s4 o) s3).1 u3
theorem body_wf : ∀ (k i : Nat) (d : Dk), i + k ≤ 40 → DW d → d.1 = List.replicate i 64 → DW (sBody k d).2 ∧ (∃ j, j ≤ 40 ∧ (sBody k d).2.1 = List.replicate j 64) ∧ ((sBody k d).1 = true → (sBody k d).2.2.1 = d.2.1) ∧ ((sBody k d).1 = false → (sBody k d).2.2.1 = false) := by
  intro k
  induction k with
  | zero => intro i d hi w e; exact ⟨w, ⟨i, by omega, e⟩, fun _ => rfl, fun z => (nomatch z)⟩
  | succ k ih =>
    intro i d hi w e
    have l : d.1.length < 200 := by rw [e, List.length_replicate]; omega
    have w2 := DW_ring (k := 64) w l (by decide)
    cases z : (sRing 64 d).1
    · rw [body_f z]
      exact ⟨w2, ⟨i, by omega, by rw [ring_fu z]; exact e⟩, fun y => (nomatch y), fun _ => ring_off z⟩
    · rw [body_t z]
      have q := ih (i + 1) (sRing 64 d).2 (by omega) w2 (by rw [ring_u z, e, List.replicate_succ']);
      rw [ring_on z] at q
      exact q
theorem fit_imN {x : Int64} {now : Nat → Int32} (hn : sb_Fit now) : ∀ (k b i : Nat) (im : Nat → Int32), sb_Fit im → sb_Fit (imN x now b k i im) := by
  intro k
  induction k with
  | zero => intro b i im h; exact h
  | succ k ih =>
    intro b i im h
    show sb_Fit (if bitt x b = true then imN x now (b + 1) k (i + 1) (va_cpy now im (256 * b) (256 * i) 256) else imN x now (b + 1) k i im)
    split
    · exact ih _ _ _ (fit_cpy hn h)
    · exact ih _ _ _ h
theorem sumN_cg {f g : Nat → Nat} : ∀ n, (∀ t, t < n → f t = g t) → sumN f n = sumN g n := by
  intro n
  induction n with
  | zero => intro _; rfl
  | succ n ih => intro h; show sumN f n + f n = sumN g n + g n; rw [ih (fun t ht => h t (by omega)), h n (by omega)]
theorem LW_app {ring : Nat} {run rev : Int64} {now : Nat → Int32} {g : Lg} (h : LW ring g) (hd : run &&& rev = 0) (u3 : cnt run + 1 ≤ sUse run rev) (u4 : 2 ≤ sUse run rev) (us : sUsed g + sUse run rev ≤ ring - 1) (hf : sb_Fit now) : LW ring (sAppend run rev (sUse run rev) now g) := by
  obtain ⟨n, blk, rvk, use, fst, im⟩ := g
  obtain ⟨h1, h2, h3, h4⟩ := h
  have us : sumN use n + sUse run rev ≤ ring - 1 := us
  refine ⟨?_, fun t ht => ?_, ?_, fit_imN hf _ _ _ _ h4⟩
  · show (if 0 = n + 1 then _ else fst 0) = 0
    rw [if_neg (by omega)]; exact h1
  · have ht : t < n + 1 := ht
    dsimp only
    by_cases q : t = n
    · subst q
      rw [if_pos rfl, if_neg (by omega), if_pos rfl, pk_uLs, pk_uLs]
      exact ⟨rfl, u3, u4, hd⟩
    · rw [if_neg (by omega), if_neg (by omega), if_neg q, pk_uLn q, pk_uLn q]
      exact h2 t (by omega)
  · show sumN (fun t => if t = n then sUse run rev else use t) n + (if n = n then sUse run rev else use n) ≤ ring - 1
    rw [if_pos rfl, sumN_cg (g := use) n (fun t ht => if_neg (by omega))]
    exact us
theorem sw_cgo {ring : Nat} {run rev : Int64} {now : Nat → Int32} {d : Dk} {g : Lg} (h : SW (ring, run, rev, now, d, g)) (hn : d.1 = []) (hz : ¬ run ||| rev = 0) (us : sUsed g + sUse run rev ≤ ring - 1) : SW (cGo ring run rev now d g).2 := by
  obtain ⟨k1, k2, k3, k4, k5, k6, k7, k8, k9, k10, k11⟩ := SW_iff.mp h
  obtain ⟨s1, s2, s3, s4⟩ := SW_wf h
  obtain ⟨u1, u2, u3⟩ := use_le (run := run) (rev := rev) k4
  have u4 := use_ge2 hz
  have bw := body_wf (sUse run rev - 1) 0 d (by omega) s1 (by rw [hn]; rfl)
  have la := LW_app (now := now) k11 k3 u3 u4 us k8
  have hp : 0 < (sAppend run rev (sUse run rev) now g).1 := by
    obtain ⟨n, r⟩ := g
    exact Nat.succ_pos n
  obtain ⟨B, hB⟩ : ∃ B, sBody (sUse run rev - 1) d = B := ⟨_, rfl⟩
  rw [hB] at bw
  obtain ⟨b0, dB⟩ := B
  obtain ⟨b1, ⟨j, hj, b2⟩, b3, b4⟩ := bw
  have b1 : DW dB := b1
  have b2 : dB.1 = List.replicate j 64 := b2
  have ur : UO dB.1 g.1 := Or.inr (Or.inl ⟨j, hj, b2⟩)
  have hz0 : (0 : Int64) &&& 0 = 0 := by decide
  cases b0
  · have t0 := tr_0 (u := sUse run rev) (run := run) (rev := rev) (now := now) (g := g) hB
    rw [cg_e t0]
    exact SW_mk h k3 k4 k5 (off_nil (b4 rfl)) ur k8 b1 k11
  · have w1 := DW_bar b1
    cases z1 : (sBar dB).1
    · have t1 := tr_1 (u := sUse run rev) (run := run) (rev := rev) (now := now) (g := g) hB z1
      rw [cg_e t1]
      have u1 : UO (sBar dB).2.1 g.1 := by rw [bar_fu z1]; exact ur
      exact SW_mk h k3 k4 k5 (off_nil (bar_off z1)) u1 k8 w1 k11
    · have l1 : (sBar dB).2.1.length < 200 := by rw [bar_nil z1]; decide
      have w2 := DW_ring (k := 65) w1 l1 (by decide)
      cases z2 : (sRing 65 (sBar dB).2).1
      · have t2 := tr_2 (u := sUse run rev) (run := run) (rev := rev) (now := now) (g := g) hB z1 z2
        rw [cg_e t2]
        have u1 : hs (sRing 65 (sBar dB).2).2.1 := by rw [ring_fu z2, bar_nil z1]; exact hs_nil
        exact SW_mk h k3 k4 k5 (off_nil (ring_off z2)) (Or.inl u1) k8 w2 k11
      · have t3 := tr_3 (u := sUse run rev) (run := run) (rev := rev) (now := now) (g := g) hB z1 z2
        rw [cg_e t3]
        have w3 := DW_bar w2
        have q1 : (sBar (sRing 65 (sBar dB).2).2).2.2.1 = true → (sBar (sRing 65 (sBar dB).2).2).2.1 = [] := by
          cases z3 : (sBar (sRing 65 (sBar dB).2).2).1
          · exact off_nil (bar_off z3)
          · exact fun _ => bar_nil z3
        have q2 : UO (sBar (sRing 65 (sBar dB).2).2).2.1 (sAppend run rev (sUse run rev) now g).1 := by
          cases z3 : (sBar (sRing 65 (sBar dB).2).2).1
          · exact Or.inr (Or.inr (Or.inl ⟨by rw [bar_fu z3, ring_u z2, bar_nil z1]; rfl, hp⟩))
          · exact Or.inl (by rw [bar_nil z3]; exact hs_nil)
        generalize sBar (sRing 65 (sBar dB).2).2 = P at q1 q2 w3 ⊢
        generalize sAppend run rev (sUse run rev) now g = g2 at la q2 ⊢
        exact SW_mk h hz0 c0 c0 q1 q2 k8 w3 la
theorem sw_commit {σ : Sp} (h : SW σ) : SW (fCommit σ).2 := by
  obtain ⟨ring, run, rev, now, d, g⟩ := σ
  obtain ⟨k1, k2, k3, k4, k5, k6, k7, k8, k9, k10, k11⟩ := SW_iff.mp h
  obtain ⟨s1, s2, s3, s4⟩ := SW_wf h
  cases o : d.2.1
  · rw [fC_off o]; exact h
  · by_cases hz : run ||| rev = 0
    · rw [fC_none o hz]; exact h
    · by_cases c : ring - 1 < sUsed g + sUse run rev
      · obtain ⟨u1, u2, u3⟩ := clear_uo s1 (s4 o) s3 k11
        obtain ⟨x1, x2, x3⟩ := clear_wf s1 (s4 o) s3
        have hc : SW (ring, run, rev, now, (sClear d g).2.1, (sClear d g).2.2) := SW_mk h k3 k4 k5 u2 u1 k8 x1 u3
        cases z : (sClear d g).1
        · have e0 : fCommit (ring, run, rev, now, d, g) = (-1, (ring, run, rev, now, (sClear d g).2.1, (sClear d g).2.2)) := by
            rw [fC_go2 o hz c, z]; rfl
          rw [e0]; exact hc
        · have e0 : fCommit (ring, run, rev, now, d, g) = cGo ring run rev now (sClear d g).2.1 (sClear d g).2.2 := by
            rw [fC_go2 o hz c, z]; rfl
          rw [e0]
          have ul := use_le (run := run) (rev := rev) k4
          refine sw_cgo hc (x2 z).1 hz ?_
          rw [(x2 z).2]
          show 0 + sUse run rev ≤ ring - 1
          omega
      · rw [fC_go1 o hz c]
        exact sw_cgo h (s4 o) hz (by omega)
theorem repB_on {g : Lg} (t : Nat) (lv : Int64) : ∀ (k b : Nat) (n : Int32) (d : Dk), (sRepB g t lv b k n d).1 = false → (sRepB g t lv b k n d).2.2.2.1 = false := by
  intro k
  induction k with
  | zero => intro b n d h; exact (nomatch h)
  | succ k ih =>
    intro b n d
    cases e : bitt lv b
    · rw [rep_s e]; exact ih (b + 1) n d
    · cases z : (sHome b g.2.2.2.2.2 (sImg g t b) d).1
      · rw [rep_f e z]; exact fun _ => (home_off z).1
      · rw [rep_t e z]; exact ih _ _ _
theorem repT_on {g : Lg} : ∀ (k t : Nat) (n : Int32) (d : Dk), (sRepT g t k n d).1 = false → (sRepT g t k n d).2.2.2.1 = false := by
  intro k
  induction k with
  | zero => intro t n d h; exact (nomatch h)
  | succ k ih =>
    intro t n d
    rw [repT_s]
    have q := repB_on (g := g) t (sLiving g t) 64 0 n d
    generalize sRepB g t (sLiving g t) 0 64 n d = p at q ⊢
    obtain ⟨b, m, z⟩ := p
    cases b
    · exact q
    · exact ih (t + 1) m z
theorem replay_uo {ring : Nat} {d : Dk} {g : Lg} (h : LW ring g) (k : DW (sRepT g 0 g.1 0 d).2.2 ∧ hs (sRepT g 0 g.1 0 d).2.2.1) : UO (sReplay d g).2.1.1 (sReplay d g).2.2.1 ∧ ((sReplay d g).2.1.2.1 = true → (sReplay d g).2.1.1 = []) ∧ LW ring (sReplay d g).2.2 := by
  have ko := repT_on (g := g) g.1 0 0 d
  cases z : (sRepT g 0 g.1 0 d).1
  · have e : sRepT g 0 g.1 0 d = (false, (sRepT g 0 g.1 0 d).2.1, (sRepT g 0 g.1 0 d).2.2) := Prod.ext z rfl
    rw [rpl_f e]
    exact ⟨Or.inl k.2, off_nil (ko z), h⟩
  · have e : sRepT g 0 g.1 0 d = (true, (sRepT g 0 g.1 0 d).2.1, (sRepT g 0 g.1 0 d).2.2) := Prod.ext z rfl
    rw [rpl_t e]
    have u := end_uo (g := g) k.2
    exact ⟨u.1, u.2, end_lw k.1 h⟩
theorem sw_mount {bits : Int64} {σ : Sp} (h : SW σ) : SW (fMount bits σ).2 := by
  obtain ⟨ring, run, rev, now, d, g⟩ := σ
  obtain ⟨k1, k2, k3, k4, k5, k6, k7, k8, k9, k10, k11⟩ := SW_iff.mp h
  obtain ⟨s1, s2, s3, s4⟩ := SW_wf h
  have hz0 : (0 : Int64) &&& 0 = 0 := by decide
  cases o : d.2.1
  · have wd : DW (mtD bits d) := settle_wf s1.2.2.1 s1.2.2.2
    have wo : okG (mtG bits d g) := logM_wf s3
    have wl : LW ring (mtG bits d g) := by
      obtain ⟨m, m1, m2⟩ := lm_le bits d.1 g
      show LW ring (sLogMount bits d.1 g)
      rw [m2]
      exact LW_le k11 m1
    have un : (mtD bits d).1 = [] := rfl
    by_cases z : (mtG bits d g).1 = 0
    · rw [fM_0 o z]
      exact SW_mk h hz0 c0 c0 (fun _ => un) (Or.inl (by rw [un]; exact hs_nil)) (fit_cpy wd.2.2.2 k8) wd wl
    · rw [fM_1 o z]
      have rw1 := replay_wf wd un wo
      have k := repT_wf (okG_n (n := (mtG bits d g).1) wo).2.2.2 (mtG bits d g).1 0 0 (mtD bits d) wd (by rw [un]; exact hs_nil)
      refine SW_mk h hz0 c0 c0 ?_ ?_ (fit_cpy rw1.2.2.2 k8) rw1 ?_
      · exact (replay_uo wl k).2.1
      · exact (replay_uo wl k).1
      · exact (replay_uo wl k).2.2
  · have e : fMount bits (ring, run, rev, now, d, g) = (-2, (ring, run, rev, now, d, g)) := by
      obtain ⟨u, on, fu, st, ba, ho⟩ := d
      exact if_pos o
    rw [e]; exact h
