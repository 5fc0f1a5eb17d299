/-! the reference's cells, and what they mean -/
abbrev MDt : Type := Int32 × Int32 × Int32 × Int32 × Int32 × Int32 × Int32 × Int32 × (Nat → Int32) × (Nat → Int32) × (Nat → Int32) × (Nat → Int32) × (Nat → Int32) × (Nat → Int32) × (Nat → Int32) × (Nat → Int32) × (Nat → Int32) × (Nat → Int32) × (Nat → Int32) × (Nat → Int32)
def kd (k : Nat) : Int32 := if k < 64 then 0 else nI (k - 63)
def rowOf (x : Int64) (row : Nat → Int32) : Prop := ∀ b, b < 64 → row b = b2i (bitt x b)
def uw (u : List Nat) : Prop := u.length ≤ 200 ∧ ∀ k ∈ u, k < 67
def uR (u : List Nat) (many : Int32) (kinds blocks : Nat → Int32) : Prop := many = nI u.length ∧ ∀ i, i < u.length → kinds i = kd (u.getD i 0) ∧ (u.getD i 0 < 64 → blocks i = nI (u.getD i 0))
/-- the disk and what runs -/
def RMs : Dk → Int64 → Int64 → MDt → Prop
  | (u, on, fu, st, ba, ho), run, rev, (_, _, off, fuse, steps, many, _, _, home, base, _, kinds, blocks, runs, revokes, _, _, _, _, _) => off = b2i (!on) ∧ fuse = fu ∧ steps = st ∧ uR u many kinds blocks ∧ home = ho ∧ base = ba ∧ rowOf (if on then run else 0) runs ∧ rowOf (if on then rev else 0) revokes
/-- the log -/
def RMl : Lg → MDt → Prop
  | (n, blk, rvk, use, fst, im), (_, _, _, _, _, _, _, _, _, _, _, _, _, _, _, frm, uses, revoked, had, data) =>
    (∀ t, t ≤ n → frm t = nI (fst t)) ∧ (∀ t, t < n → uses t = nI (use t) ∧ ∀ b, b < 64 → revoked (64 * t + b) = b2i (bitt (rvk t) b) ∧ (bitt (blk t) b = true → had (fst t + rk (blk t) b) = nI b)) ∧ data = im
def lgN (n : Nat) : MDt → Prop
  | (_, _, _, _, _, _, log, _, _, _, _, _, _, _, _, _, _, _, _, _) => log = nI n
/-- how many transactions: while the head is under way the reference has none, and knows how many there were -/
def RMn (u : List Nat) (n : Nat) : MDt → Prop
  | (_, _, _, _, _, _, log, before, _, _, _, _, _, _, _, _, _, _, _, _) => if 66 ∈ u then log = 0 ∧ before = nI n else log = nI n
def RMo (ring : Nat) (on : Bool) (now : Nat → Int32) : MDt → Prop
  | (_, rg, _, _, _, _, _, _, _, _, nw, _, _, _, _, _, _, _, _, _) => rg = nI ring ∧ (on = true → nw = now) ∧ ∀ j, 16384 ≤ j → nw j = now j
def RM : Sp → MDt → Prop
  | (ring, run, rev, now, d, g), y => RMs d run rev y ∧ RMl g y ∧ RMn d.1 g.1 y ∧ RMo ring d.2.1 now y
def yRun (run rev : Int64) : MDt → Prop
  | (_, _, _, _, _, _, _, _, _, _, _, _, _, runs, revokes, _, _, _, _, _) => rowOf run runs ∧ rowOf rev revokes
def yNow : MDt → Nat → Int32
  | (_, _, _, _, _, _, _, _, _, _, nw, _, _, _, _, _, _, _, _, _) => nw
def pr_M_noBlock (_ : Int32) : Prop := True
def po_M_noBlock (b r : Int32) : Prop := r = if b < 0 ∨ 64 ≤ b then 1 else 0
def pr_M_size (_ : Nat → Int32) : Prop := True
def po_M_size (az : Nat → Int32) (r : Int32) : Prop := ∀ x : Int64, rowOf x az → r = nI (cnt x)
def pr_M_copy (x y n : Int32) (na nb : Nat) (fa _ : Nat → Int32) : Prop := ∃ X Y N : Nat, x = nI X ∧ y = nI Y ∧ n = nI N ∧ X + N ≤ na ∧ Y + N ≤ nb ∧ na < 2 ^ 31 ∧ nb < 2 ^ 31 ∧ sb_Fit fa
def po_M_copy (x y n : Int32) (na nb : Nat) (fa fb _ fb2 : Nat → Int32) : Prop := ∀ X Y N : Nat, x = nI X → y = nI Y → n = nI N → X + N ≤ na → Y + N ≤ nb → na < 2 ^ 31 → nb < 2 ^ 31 → fb2 = va_cpy fa fb X Y N
def pr_M_copy1 (x y n : Int32) (na : Nat) (fa : Nat → Int32) : Prop := ∃ X N : Nat, x = nI X ∧ y = nI X ∧ n = nI N ∧ X + N ≤ na ∧ na < 2 ^ 31 ∧ sb_Fit fa
def po_M_copy1 (_ _ _ : Int32) (_ : Nat) (fa fa2 : Nat → Int32) : Prop := fa2 = fa
def pr_M_drop (_ : MDt) : Prop := True
def po_M_drop (_ : MDt) : MDt → Prop
  | (_, _, _, _, _, _, _, _, _, _, _, _, _, runs, revokes, _, _, _, _, _) => rowOf 0 runs ∧ rowOf 0 revokes
def pr_M_powerOff (_ : MDt) : Prop := True
def po_M_powerOff (_ : MDt) : MDt → Prop
  | (_, _, off, _, _, _, _, _, _, _, _, _, _, runs, revokes, _, _, _, _, _) => off = 1 ∧ rowOf 0 runs ∧ rowOf 0 revokes
def pr_M_settle : MDt → Prop
  | (_, _, _, _, _, many, _, _, home, _, _, kinds, blocks, _, _, _, _, _, _, _) => ∃ u : List Nat, uR u many kinds blocks ∧ uw u ∧ sb_Fit home
def po_M_settle : MDt → MDt → Prop
  | (_, _, _, _, _, many, _, _, home, base, _, kinds, blocks, _, _, _, _, _, _, _), (_, _, _, _, _, many2, _, _, _, base2, _, _, _, _, _, _, _, _, _, _) => ∀ u : List Nat, uR u many kinds blocks → uw u → many2 = 0 ∧ base2 = dAll home u base
/-- a block of home is marked as under way -/
def sMark (b : Nat) (d : Dk) : Bool × Dk := match sStep d with
  | (false, d) => (false, d)
  | (true, (u, r)) => (true, ((if b ∈ u then u else u ++ [b]), r))
def sKind (k b : Nat) (d : Dk) : Bool × Dk := if k = 4 then sBar d else if k = 0 then sMark b d else sRing (63 + k) d
def pr_M_step (kind block : Int32) (y : MDt) : Prop := ∃ (d : Dk) (run rev : Int64) (k b : Nat), RMs d run rev y ∧ DW d ∧ d.1.length < 200 ∧ kind = nI k ∧ k ≤ 4 ∧ block = nI b ∧ (k = 0 → b < 64)
def po_M_step (kind block : Int32) (y : MDt) (r : Int32) (y2 : MDt) : Prop := ∀ (d : Dk) (run rev : Int64) (k b : Nat), RMs d run rev y → DW d → d.1.length < 200 → kind = nI k → k ≤ 4 → block = nI b → (k = 0 → b < 64) → r = b2i (sKind k b d).1 ∧ RMs (sKind k b d).2 run rev y2
def pr_M_lay (_ : Int32) (_ : MDt) : Prop := True
def po_M_lay (n : Int32) : MDt → Int32 → MDt → Prop
  | (a1, a2, a3, a4, a5, a6, a7, a8, a9, a10, a11, a12, a13, a14, a15, a16, a17, a18, a19, a20), r, (th, rg, off, fuse, steps, many, log, before, home, base, nw, kinds, blocks, runs, revokes, frm, uses, revoked, had, data) => (kinds = a12 ∧ blocks = a13 ∧ before = a8 ∧ frm = a16 ∧ uses = a17 ∧ revoked = a18 ∧ had = a19 ∧ data = a20) ∧
    if n < 40 ∨ 200 < n then r = -2 ∧ rg = a2 ∧ off = a3 ∧ fuse = a4 ∧ steps = a5 ∧ many = a6 ∧ log = a7 ∧ home = a9 ∧ base = a10 ∧ nw = a11 ∧ runs = a14 ∧ revokes = a15
    else r = n ∧ rg = n ∧ off = 0 ∧ fuse = -1 ∧ steps = 0 ∧ many = 0 ∧ log = 0 ∧ home = fillF a9 0 16384 0 ∧ base = fillF a10 0 16384 0 ∧ nw = fillF a11 0 16384 0 ∧ rowOf 0 runs ∧ rowOf 0 revokes
def tIdx : Lg → Nat → Nat
  | (n, blk, _, _, fst, _), q => match laN blk q n with
    | none => 0
    | some t => fst t + rk (blk t) q
def sTold (g : Lg) (q : Nat) : Int32 := if bitt (sLying g) q then nI (tIdx g q) else -1
def pr_M_told (b : Int32) (y : MDt) : Prop := ∃ (g : Lg) (q : Nat), RMl g y ∧ lgN g.1 y ∧ okG g ∧ b = nI q ∧ q < 64
def po_M_told (b : Int32) (y : MDt) (r : Int32) : Prop := ∀ (g : Lg) (q : Nat), RMl g y → lgN g.1 y → okG g → b = nI q → q < 64 → r = sTold g q
def pr_M_used (y : MDt) : Prop := ∃ g : Lg, RMl g y ∧ lgN g.1 y ∧ okG g
def po_M_used (y : MDt) (r : Int32) : Prop := ∀ g : Lg, RMl g y → lgN g.1 y → okG g → r = nI (sUsed g)
def pr_M_enter (_ : Int32) : MDt → Prop
  | y => ∃ (g : Lg) (run rev : Int64), RMl g y ∧ lgN g.1 y ∧ okG g ∧ yRun run rev y ∧ g.2.2.2.2.1 g.1 + cnt run ≤ 200 ∧ sb_Fit (yNow y) ∧ g.1 < 99
def po_M_enter (use : Int32) (y y2 : MDt) : Prop := ∀ (g : Lg) (run rev : Int64) (u : Nat), RMl g y → lgN g.1 y → okG g → yRun run rev y → use = nI u → RMl (sAppend run rev u (yNow y) g) y2 ∧ lgN (g.1 + 1) y2 ∧ yRun 0 0 y2
def pr_M_empty (y : MDt) : Prop := ∃ (d : Dk) (run rev : Int64), RMs d run rev y ∧ DW d ∧ d.1.length < 200
def po_M_empty (y : MDt) (r : Int32) (y2 : MDt) : Prop := ∀ (d : Dk) (run rev : Int64) (g : Lg), RMs d run rev y → DW d → hs d.1 → lgN g.1 y → r = b2i (sEnd d g).1 ∧ RMs (sEnd d g).2.1 run rev y2 ∧ RMn (sEnd d g).2.1.1 (sEnd d g).2.2.1 y2
def pr_M_clearing (y : MDt) : Prop := ∃ (d : Dk) (run rev : Int64) (g : Lg), RMs d run rev y ∧ DW d ∧ d.1 = [] ∧ RMl g y ∧ lgN g.1 y ∧ okG g
def po_M_clearing (y : MDt) (r : Int32) (y2 : MDt) : Prop := ∀ (d : Dk) (run rev : Int64) (g : Lg), RMs d run rev y → DW d → d.1 = [] → RMl g y → lgN g.1 y → okG g → r = (if (sClear d g).1 then nI (cnt (sLying g)) else -1) ∧ RMs (sClear d g).2.1 run rev y2 ∧ RMn (sClear d g).2.1.1 (sClear d g).2.2.1 y2
def rvd (rvk : Nat → Int64) (q : Nat) (t : Nat) : Nat → Bool
  | 0 => false
  | k + 1 => bitt (rvk t) q || rvd rvk q (t + 1) k
def pr_M_isRevoked (t b : Int32) (y : MDt) : Prop := ∃ (g : Lg) (i q : Nat), RMl g y ∧ lgN g.1 y ∧ okG g ∧ t = nI i ∧ i < g.1 ∧ b = nI q ∧ q < 64
def po_M_isRevoked (t b : Int32) (y : MDt) (r : Int32) : Prop := ∀ (g : Lg) (i q : Nat), RMl g y → lgN g.1 y → okG g → t = nI i → i < g.1 → b = nI q → q < 64 → r = b2i (rvd g.2.2.1 q i (g.1 - i))
def pr_M_down (_ : Int64) (y : MDt) : Prop := ∃ (d : Dk) (run rev : Int64) (n : Nat), RMs d run rev y ∧ DW d ∧ hd d.1 ∧ RMn d.1 n y
def po_M_down (bits : Int64) (y y2 : MDt) : Prop := ∀ (d : Dk) (run rev : Int64) (g : Lg), RMs d run rev y → DW d → hd d.1 → UO d.1 g.1 → RMn d.1 g.1 y → okG g → RMs (sSettle bits d) run rev y2 ∧ lgN (sLogMount bits d.1 g).1 y2
/-! the calls -/
def okM (y : MDt) : Prop := ∃ σ : Sp, RM σ y ∧ SW σ
def po_MS (f : Sp → Int32 × Sp) (y : MDt) (r : Int32) (y2 : MDt) : Prop := ∀ σ : Sp, RM σ y → SW σ → r = (f σ).1 ∧ RM (f σ).2 y2
def pr_M_write (_ _ _ _ : Int32) (y : MDt) : Prop := okM y
def po_M_write (b a n v : Int32) := po_MS (fWrite b a n v)
def pr_M_read (_ _ : Int32) (y : MDt) : Prop := okM y
def po_M_read (b a : Int32) := po_MS (fun σ => (fRead b a σ, σ))
def pr_M_forget (_ : Int32) (y : MDt) : Prop := okM y
def po_M_forget (b : Int32) := po_MS (fForget b)
def pr_M_direct (_ _ : Int32) (y : MDt) : Prop := okM y
def po_M_direct (b v : Int32) := po_MS (fDirect b v)
def pr_M_commit (y : MDt) : Prop := okM y
def po_M_commit := po_MS fCommit
def pr_M_clear (y : MDt) : Prop := okM y
def po_M_clear := po_MS fClear
def pr_M_fuse (_ : Int32) (y : MDt) : Prop := okM y
def po_M_fuse (n : Int32) := po_MS (fFuse n)
def pr_M_fail (y : MDt) : Prop := okM y
def po_M_fail := po_MS fFail
def pr_M_mount (_ : Int64) (y : MDt) : Prop := okM y
def po_M_mount (bits : Int64) := po_MS (fMount bits)
def pr_M_count (_ : Int32) (y : MDt) : Prop := okM y
def po_M_count (w : Int32) := po_MS (fun σ => (fCount w σ, σ))

theorem nar_fit {z : Int32} (h : fits .byte (.int z) = true) : vp_nar .byte z = z := by
  rw [vp_nar_byte]
  have h2 : -128 ≤ z ∧ z ≤ 127 := by simpa [fits] using h
  have h3 := Int32.le_iff_toInt_le.mp h2.1
  have h4 := Int32.le_iff_toInt_le.mp h2.2
  have c1 : (-128 : Int32).toInt = -128 := by decide
  have c2 : (127 : Int32).toInt = 127 := by decide
  rw [c1] at h3
  rw [c2] at h4
  apply Int32.toInt_inj.mp
  rw [Int8.toInt_toInt32, Int32.toInt_toInt8]
  exact Int.bmod_eq_of_le (by omega) (by omega)
theorem cpy_0 (f g : Nat → Int32) (X Y : Nat) : va_cpy f g X Y 0 = g := by
  funext j; exact pk_cpy_out (by omega)
theorem cpy_succ (f g : Nat → Int32) (X Y i : Nat) : upd (va_cpy f g X Y i) (Y + i) (f (X + i)) = va_cpy f g X Y (i + 1) := by
  funext j
  by_cases h : j = Y + i
  · subst h; rw [pk_us, pk_cpy_in (by omega) (by omega), show X + (Y + i - Y) = X + i by omega]
  · rw [pk_un h]
    by_cases q : Y ≤ j ∧ j < Y + i
    · rw [pk_cpy_in q.1 q.2, pk_cpy_in q.1 (by omega)]
    · rw [pk_cpy_out (by omega), pk_cpy_out (by omega)]
theorem kd_0 {k : Nat} (h : k < 67) : kd k = 0 ↔ k < 64 := by
  unfold kd
  by_cases q : k < 64
  · simp [q]
  · rw [if_neg q]
    exact ⟨fun z => absurd z (nI_ne0 (by omega) (by omega)), fun z => absurd z q⟩
theorem kd_inj {k j : Nat} (hk : k < 67) (hj : j < 67) (h : kd k = kd j) (h2 : k < 64 → j < 64 → k = j) : k = j := by
  by_cases q : k < 64
  · have := (kd_0 hj).mp (h.symm.trans ((kd_0 hk).mpr q))
    exact h2 q this
  · have q2 : ¬ j < 64 := fun z => q ((kd_0 hk).mp (h.trans ((kd_0 hj).mpr z)))
    unfold kd at h
    rw [if_neg q, if_neg q2] at h
    have := (nI_eq (by omega) (by omega)).mp h
    omega
theorem uR_inj {u v : List Nat} {m : Int32} {ks bs : Nat → Int32} (h : uR u m ks bs) (w : uw u) (h2 : uR v m ks bs) (w2 : uw v) : u = v := by
  have l1 := w.1
  have l2 := w2.1
  have e1 : u.length = v.length := (nI_eq (by omega) (by omega)).mp (h.1.symm.trans h2.1)
  refine List.ext_getElem e1 (fun i q1 q2 => ?_)
  have a := h.2 i q1
  have b := h2.2 i q2
  have k1 := w.2 _ (getD_mem q1)
  have k2 := w2.2 _ (getD_mem q2)
  rw [← getD_get q1, ← getD_get q2]
  exact kd_inj k1 k2 (a.1.symm.trans b.1) (fun z1 z2 => (nI_eq (by omega) (by omega)).mp ((a.2 z1).symm.trans (b.2 z2)))
theorem b01 (b : Bool) : b2i b = 0 ∨ b2i b = 1 := by cases b; exact Or.inl rfl; exact Or.inr rfl
theorem nz0 : vp_nar .boolean 0 = 0 := by decide
theorem nz1 : vp_nar .boolean 1 = 1 := by decide

theorem vc_M_noBlock_15_0 (a_b : Int32) (hpre : pr_M_noBlock a_b) (c_1 : a_b < 0) : po_M_noBlock a_b 1 := by
  exact (if_pos (Or.inl c_1)).symm
theorem vc_M_noBlock_15_1 (a_b : Int32) (hpre : pr_M_noBlock a_b) (c_1 : ¬ a_b < 0) (c_7 : a_b < 64) : po_M_noBlock a_b 0 := by
  exact (if_neg (fun h => h.elim c_1 (fun z => absurd c_7 (Int32.not_lt.mpr z)))).symm
theorem vc_M_noBlock_15_2 (a_b : Int32) (hpre : pr_M_noBlock a_b) (c_1 : ¬ a_b < 0) (c_7 : ¬ a_b < 64) : po_M_noBlock a_b 1 := by
  exact (if_pos (Or.inr (Int32.not_lt.mp c_7))).symm
def iv_M_size_4 (az : Nat → Int32) (x2 x3 : Int32) (_ : Nat → Int32) : Prop := ∃ b : Nat, b ≤ 64 ∧ x3 = nI b ∧ ∀ x : Int64, rowOf x az → x2 = nI (rk x b)
def mu_M_size_4 (_ : Nat → Int32) (_ x3 : Int32) (_ : Nat → Int32) : Nat := 64 - x3.toNatClampNeg

theorem vc_M_size_31_0 (az : Nat → Int32) (x2 : Int32) (x3 : Int32) (hpre : pr_M_size az) (hinv : iv_M_size_4 az x2 x3 az) (c_7 : 64 ≤ x3) : po_M_size az x2 := by
  intro x hx
  obtain ⟨b, hb, rfl, h⟩ := hinv
  have hb2 : 64 ≤ b := (nI_leI (a := 64) (by decide) (by omega)).mp c_7
  have e : b = 64 := by omega
  subst e
  exact h x hx
theorem vc_M_size_13_0 (az : Nat → Int32) (x2 : Int32) (x3 : Int32) (hpre : pr_M_size az) (hinv : iv_M_size_4 az x2 x3 az) (c_7 : ¬ 64 ≤ x3) : vp_in x3 64 := by
  obtain ⟨b, hb, rfl, h⟩ := hinv
  have hb2 : ¬ 64 ≤ b := fun z => c_7 (nI_le (a := 64) z (by omega))
  exact vp_in_nI (by omega) (by decide)
theorem vc_M_size_27_0 (az : Nat → Int32) (x2 : Int32) (x3 : Int32) (v_13 : Int32) (v_23 : Int32) (v_24 : Int32) (hpre : pr_M_size az) (hinv : iv_M_size_4 az x2 x3 az) (c_7 : ¬ 64 ≤ x3) (e_13 : v_13 = (az (x3).toNatClampNeg)) (c_14 : v_13 = 0) (e_23 : v_23 = (x2 + 0)) (e_24 : v_24 = x3 + 1) : iv_M_size_4 az v_23 v_24 az ∧ mu_M_size_4 az v_23 v_24 az < mu_M_size_4 az x2 x3 az := by
  obtain ⟨b, hb, rfl, h⟩ := hinv
  have hb2 : ¬ 64 ≤ b := fun z => c_7 (nI_le (a := 64) z (by omega))
  refine ⟨⟨b + 1, by omega, by rw [e_24]; exact nI_1 b, fun x hx => ?_⟩, ?_⟩
  · have e : bitt x b = false := by
      have := hx b (by omega)
      rw [nI_clamp (by omega), this] at e_13
      exact b2i_0.mp (e_13.symm.trans c_14)
    rw [rk_s, e, e_23, h x hx]
    exact nI_add _ 0
  · show 64 - v_24.toNatClampNeg < 64 - (nI b).toNatClampNeg
    rw [e_24, nI_1, nI_clamp (by omega), nI_clamp (by omega)]
    omega
theorem vc_M_size_27_1 (az : Nat → Int32) (x2 : Int32) (x3 : Int32) (v_13 : Int32) (v_23 : Int32) (v_24 : Int32) (hpre : pr_M_size az) (hinv : iv_M_size_4 az x2 x3 az) (c_7 : ¬ 64 ≤ x3) (e_13 : v_13 = (az (x3).toNatClampNeg)) (c_14 : ¬ v_13 = 0) (e_23 : v_23 = (x2 + 1)) (e_24 : v_24 = x3 + 1) : iv_M_size_4 az v_23 v_24 az ∧ mu_M_size_4 az v_23 v_24 az < mu_M_size_4 az x2 x3 az := by
  obtain ⟨b, hb, rfl, h⟩ := hinv
  have hb2 : ¬ 64 ≤ b := fun z => c_7 (nI_le (a := 64) z (by omega))
  refine ⟨⟨b + 1, by omega, by rw [e_24]; exact nI_1 b, fun x hx => ?_⟩, ?_⟩
  · have e : bitt x b = true := by
      have := hx b (by omega)
      rw [nI_clamp (by omega), this] at e_13
      exact b2i_n0.mp (fun z => c_14 (e_13.trans z))
    rw [rk_s, e, e_23, h x hx]
    exact nI_1 _
  · show 64 - v_24.toNatClampNeg < 64 - (nI b).toNatClampNeg
    rw [e_24, nI_1, nI_clamp (by omega), nI_clamp (by omega)]
    omega
theorem vc_M_size_3_0 (az : Nat → Int32) (hpre : pr_M_size az) : iv_M_size_4 az 0 0 az ∧ True := by
  exact ⟨⟨0, by omega, rfl, fun x _ => rfl⟩, trivial⟩
def iv_M_copy_3 (x y n : Int32) (na nb : Nat) (fa fb : Nat → Int32) (x6 : Int32) (_ fb2 : Nat → Int32) : Prop := ∃ X Y N i : Nat, x = nI X ∧ y = nI Y ∧ n = nI N ∧ X + N ≤ na ∧ Y + N ≤ nb ∧ na < 2 ^ 31 ∧ nb < 2 ^ 31 ∧ sb_Fit fa ∧ i ≤ N ∧ x6 = nI i ∧ fb2 = va_cpy fa fb X Y i
def mu_M_copy_3 (_ _ n : Int32) (_ _ : Nat) (_ _ : Nat → Int32) (x6 : Int32) (_ _ : Nat → Int32) : Nat := n.toNatClampNeg - x6.toNatClampNeg

theorem vc_M_copy_29_0 (a_x : Int32) (a_y : Int32) (a_n : Int32) (na_ar : Nat) (nb_ar : Nat) (a_ar : Nat → Int32) (b_ar : Nat → Int32) (x6 : Int32) (b_ar_i : Nat → Int32) (hpre : pr_M_copy a_x a_y a_n na_ar nb_ar a_ar b_ar) (hinv : iv_M_copy_3 a_x a_y a_n na_ar nb_ar a_ar b_ar x6 a_ar b_ar_i) (c_7 : a_n ≤ x6) : po_M_copy a_x a_y a_n na_ar nb_ar a_ar b_ar a_ar b_ar_i := by
  intro X2 Y2 N2 e1 e2 e3 h1 h2 h3 h4
  obtain ⟨X, Y, N, i, rfl, rfl, rfl, g1, g2, g3, g4, g5, g6, rfl, rfl⟩ := hinv
  have q := (nI_leI (by omega) (by omega)).mp c_7
  have a1 := (nI_eq (by omega) (by omega)).mp e1
  have a2 := (nI_eq (by omega) (by omega)).mp e2
  have a3 := (nI_eq (by omega) (by omega)).mp e3
  subst a1 a2 a3
  rw [show i = N by omega]
theorem vc_M_copy_21_0 (a_x : Int32) (a_y : Int32) (a_n : Int32) (na_ar : Nat) (nb_ar : Nat) (a_ar : Nat → Int32) (b_ar : Nat → Int32) (x6 : Int32) (b_ar_i : Nat → Int32) (hpre : pr_M_copy a_x a_y a_n na_ar nb_ar a_ar b_ar) (hinv : iv_M_copy_3 a_x a_y a_n na_ar nb_ar a_ar b_ar x6 a_ar b_ar_i) (c_7 : ¬ a_n ≤ x6) : vp_in (a_x + x6) na_ar := by
  obtain ⟨X, Y, N, i, rfl, rfl, rfl, g1, g2, g3, g4, g5, g6, rfl, rfl⟩ := hinv
  have q : ¬ N ≤ i := fun z => c_7 (nI_le z (by omega))
  rw [nI_add]
  exact vp_in_nI (by omega) g3
theorem vc_M_copy_22_0 (a_x : Int32) (a_y : Int32) (a_n : Int32) (na_ar : Nat) (nb_ar : Nat) (a_ar : Nat → Int32) (b_ar : Nat → Int32) (x6 : Int32) (b_ar_i : Nat → Int32) (v_21 : Int32) (hpre : pr_M_copy a_x a_y a_n na_ar nb_ar a_ar b_ar) (hinv : iv_M_copy_3 a_x a_y a_n na_ar nb_ar a_ar b_ar x6 a_ar b_ar_i) (c_7 : ¬ a_n ≤ x6) (e_21 : v_21 = (a_ar ((a_x + x6)).toNatClampNeg)) : vp_in (a_y + x6) nb_ar := by
  obtain ⟨X, Y, N, i, rfl, rfl, rfl, g1, g2, g3, g4, g5, g6, rfl, rfl⟩ := hinv
  have q : ¬ N ≤ i := fun z => c_7 (nI_le z (by omega))
  rw [nI_add]
  exact vp_in_nI (by omega) g4
theorem vc_M_copy_26_0 (a_x : Int32) (a_y : Int32) (a_n : Int32) (na_ar : Nat) (nb_ar : Nat) (a_ar : Nat → Int32) (b_ar : Nat → Int32) (x6 : Int32) (b_ar_i : Nat → Int32) (v_21 : Int32) (v_23 : Int32) (hpre : pr_M_copy a_x a_y a_n na_ar nb_ar a_ar b_ar) (hinv : iv_M_copy_3 a_x a_y a_n na_ar nb_ar a_ar b_ar x6 a_ar b_ar_i) (c_7 : ¬ a_n ≤ x6) (e_21 : v_21 = (a_ar ((a_x + x6)).toNatClampNeg)) (e_23 : v_23 = x6 + 1) : iv_M_copy_3 a_x a_y a_n na_ar nb_ar a_ar b_ar v_23 a_ar (upd b_ar_i ((a_y + x6)).toNatClampNeg (vp_nar .byte v_21)) ∧ mu_M_copy_3 a_x a_y a_n na_ar nb_ar a_ar b_ar v_23 a_ar (upd b_ar_i ((a_y + x6)).toNatClampNeg (vp_nar .byte v_21)) < mu_M_copy_3 a_x a_y a_n na_ar nb_ar a_ar b_ar x6 a_ar b_ar_i := by
  obtain ⟨X, Y, N, i, rfl, rfl, rfl, g1, g2, g3, g4, g5, g6, rfl, rfl⟩ := hinv
  have q : ¬ N ≤ i := fun z => c_7 (nI_le z (by omega))
  rw [nI_add, nI_clamp (by omega)] at e_21
  have e : vp_nar .byte v_21 = a_ar (X + i) := by rw [e_21]; exact nar_fit (g5 _)
  rw [e, nI_add, nI_clamp (n := Y + i) (by omega), cpy_succ]
  refine ⟨⟨X, Y, N, i + 1, rfl, rfl, rfl, g1, g2, g3, g4, g5, by omega, by rw [e_23]; exact nI_1 i, rfl⟩, ?_⟩
  show (nI N).toNatClampNeg - v_23.toNatClampNeg < (nI N).toNatClampNeg - (nI i).toNatClampNeg
  rw [e_23, nI_1, nI_clamp (n := N) (by omega), nI_clamp (n := i + 1) (by omega), nI_clamp (n := i) (by omega)]
  omega
theorem vc_M_copy_1_0 (a_x : Int32) (a_y : Int32) (a_n : Int32) (na_ar : Nat) (nb_ar : Nat) (a_ar : Nat → Int32) (b_ar : Nat → Int32) (hpre : pr_M_copy a_x a_y a_n na_ar nb_ar a_ar b_ar) : iv_M_copy_3 a_x a_y a_n na_ar nb_ar a_ar b_ar 0 a_ar b_ar ∧ True := by
  obtain ⟨X, Y, N, rfl, rfl, rfl, h1, h2, h3, h4, h5⟩ := hpre
  exact ⟨⟨X, Y, N, 0, rfl, rfl, rfl, h1, h2, h3, h4, h5, Nat.zero_le _, rfl, (cpy_0 _ _ _ _).symm⟩, trivial⟩
def iv_M_copy1_3 (x y n : Int32) (na : Nat) (fa : Nat → Int32) (x6 : Int32) (fa2 : Nat → Int32) : Prop := ∃ X N i : Nat, x = nI X ∧ y = nI X ∧ n = nI N ∧ X + N ≤ na ∧ na < 2 ^ 31 ∧ sb_Fit fa ∧ i ≤ N ∧ x6 = nI i ∧ fa2 = fa
def mu_M_copy1_3 (_ _ n : Int32) (_ : Nat) (_ : Nat → Int32) (x6 : Int32) (_ : Nat → Int32) : Nat := n.toNatClampNeg - x6.toNatClampNeg
theorem upd_self (f : Nat → Int32) (k : Nat) : upd f k (f k) = f := by
  funext j
  by_cases h : j = k
  · subst h; rw [pk_us]
  · rw [pk_un h]

theorem vc_M_copy1_29_0 (a_x : Int32) (a_y : Int32) (a_n : Int32) (nar : Nat) (ar : Nat → Int32) (x6 : Int32) (ar_i : Nat → Int32) (hpre : pr_M_copy1 a_x a_y a_n nar ar) (hinv : iv_M_copy1_3 a_x a_y a_n nar ar x6 ar_i) (c_7 : a_n ≤ x6) : po_M_copy1 a_x a_y a_n nar ar ar_i := by
  obtain ⟨X, N, i, rfl, rfl, rfl, g1, g3, g5, g6, rfl, rfl⟩ := hinv
  rfl
theorem vc_M_copy1_21_0 (a_x : Int32) (a_y : Int32) (a_n : Int32) (nar : Nat) (ar : Nat → Int32) (x6 : Int32) (ar_i : Nat → Int32) (hpre : pr_M_copy1 a_x a_y a_n nar ar) (hinv : iv_M_copy1_3 a_x a_y a_n nar ar x6 ar_i) (c_7 : ¬ a_n ≤ x6) : vp_in (a_x + x6) nar := by
  obtain ⟨X, N, i, rfl, rfl, rfl, g1, g3, g5, g6, rfl, rfl⟩ := hinv
  have q : ¬ N ≤ i := fun z => c_7 (nI_le z (by omega))
  rw [nI_add]
  exact vp_in_nI (by omega) g3
theorem vc_M_copy1_22_0 (a_x : Int32) (a_y : Int32) (a_n : Int32) (nar : Nat) (ar : Nat → Int32) (x6 : Int32) (ar_i : Nat → Int32) (v_21 : Int32) (hpre : pr_M_copy1 a_x a_y a_n nar ar) (hinv : iv_M_copy1_3 a_x a_y a_n nar ar x6 ar_i) (c_7 : ¬ a_n ≤ x6) (e_21 : v_21 = (ar_i ((a_x + x6)).toNatClampNeg)) : vp_in (a_y + x6) nar := by
  obtain ⟨X, N, i, rfl, rfl, rfl, g1, g3, g5, g6, rfl, rfl⟩ := hinv
  have q : ¬ N ≤ i := fun z => c_7 (nI_le z (by omega))
  rw [nI_add]
  exact vp_in_nI (by omega) g3
theorem vc_M_copy1_26_0 (a_x : Int32) (a_y : Int32) (a_n : Int32) (nar : Nat) (ar : Nat → Int32) (x6 : Int32) (ar_i : Nat → Int32) (v_21 : Int32) (v_23 : Int32) (hpre : pr_M_copy1 a_x a_y a_n nar ar) (hinv : iv_M_copy1_3 a_x a_y a_n nar ar x6 ar_i) (c_7 : ¬ a_n ≤ x6) (e_21 : v_21 = (ar_i ((a_x + x6)).toNatClampNeg)) (e_23 : v_23 = x6 + 1) : iv_M_copy1_3 a_x a_y a_n nar ar v_23 (upd ar_i ((a_y + x6)).toNatClampNeg (vp_nar .byte v_21)) ∧ mu_M_copy1_3 a_x a_y a_n nar ar v_23 (upd ar_i ((a_y + x6)).toNatClampNeg (vp_nar .byte v_21)) < mu_M_copy1_3 a_x a_y a_n nar ar x6 ar_i := by
  obtain ⟨X, N, i, rfl, rfl, rfl, g1, g3, g5, g6, rfl, rfl⟩ := hinv
  have q : ¬ N ≤ i := fun z => c_7 (nI_le z (by omega))
  rw [nI_add, nI_clamp (by omega)] at e_21
  have e : vp_nar .byte v_21 = ar_i (X + i) := by rw [e_21]; exact nar_fit (g5 _)
  rw [e, nI_add, nI_clamp (n := X + i) (by omega), upd_self]
  refine ⟨⟨X, N, i + 1, rfl, rfl, rfl, g1, g3, g5, by omega, by rw [e_23]; exact nI_1 i, rfl⟩, ?_⟩
  show (nI N).toNatClampNeg - v_23.toNatClampNeg < (nI N).toNatClampNeg - (nI i).toNatClampNeg
  rw [e_23, nI_1, nI_clamp (n := N) (by omega), nI_clamp (n := i + 1) (by omega), nI_clamp (n := i) (by omega)]
  omega
theorem vc_M_copy1_1_0 (a_x : Int32) (a_y : Int32) (a_n : Int32) (nar : Nat) (ar : Nat → Int32) (hpre : pr_M_copy1 a_x a_y a_n nar ar) : iv_M_copy1_3 a_x a_y a_n nar ar 0 ar ∧ True := by
  obtain ⟨X, N, rfl, rfl, rfl, h1, h3, h5⟩ := hpre
  exact ⟨⟨X, N, 0, rfl, rfl, rfl, h1, h3, h5, Nat.zero_le _, rfl, rfl⟩, trivial⟩
def iv_M_drop_2 (_ : MDt) (x1 : Int32) : MDt → Prop
  | (_, _, _, _, _, _, _, _, _, _, _, _, _, runs, revokes, _, _, _, _, _) => ∃ b : Nat, b ≤ 64 ∧ x1 = nI b ∧ ∀ c, c < b → runs c = 0 ∧ revokes c = 0
def mu_M_drop_2 (_ : MDt) (x1 : Int32) (_ : MDt) : Nat := 64 - x1.toNatClampNeg

theorem vc_M_drop_28_0 (y_thrown : Int32) (y_ring : Int32) (y_off : Int32) (y_fuse : Int32) (y_steps : Int32) (y_many : Int32) (y_log : Int32) (y_before : Int32) (y_home : Nat → Int32) (y_base : Nat → Int32) (y_now : Nat → Int32) (y_kinds : Nat → Int32) (y_blocks : Nat → Int32) (y_runs : Nat → Int32) (y_revokes : Nat → Int32) (y_from : Nat → Int32) (y_uses : Nat → Int32) (y_revoked : Nat → Int32) (y_had : Nat → Int32) (y_data : Nat → Int32) (x1 : Int32) (y_runs_i : Nat → Int32) (y_revokes_i : Nat → Int32) (hpre : pr_M_drop (y_thrown, y_ring, y_off, y_fuse, y_steps, y_many, y_log, y_before, y_home, y_base, y_now, y_kinds, y_blocks, y_runs, y_revokes, y_from, y_uses, y_revoked, y_had, y_data)) (hinv : iv_M_drop_2 (y_thrown, y_ring, y_off, y_fuse, y_steps, y_many, y_log, y_before, y_home, y_base, y_now, y_kinds, y_blocks, y_runs, y_revokes, y_from, y_uses, y_revoked, y_had, y_data) x1 (y_thrown, y_ring, y_off, y_fuse, y_steps, y_many, y_log, y_before, y_home, y_base, y_now, y_kinds, y_blocks, y_runs_i, y_revokes_i, y_from, y_uses, y_revoked, y_had, y_data)) (c_5 : 64 ≤ x1) : po_M_drop (y_thrown, y_ring, y_off, y_fuse, y_steps, y_many, y_log, y_before, y_home, y_base, y_now, y_kinds, y_blocks, y_runs, y_revokes, y_from, y_uses, y_revoked, y_had, y_data) (y_thrown, y_ring, y_off, y_fuse, y_steps, y_many, y_log, y_before, y_home, y_base, y_now, y_kinds, y_blocks, y_runs_i, y_revokes_i, y_from, y_uses, y_revoked, y_had, y_data) := by
  obtain ⟨b, hb, rfl, h⟩ := hinv
  have hb2 : 64 ≤ b := (nI_leI (a := 64) (by decide) (by omega)).mp c_5
  exact ⟨fun c hc => by rw [bt_zero]; exact (h c (by omega)).1, fun c hc => by rw [bt_zero]; exact (h c (by omega)).2⟩
theorem vc_M_drop_14_0 (y_thrown : Int32) (y_ring : Int32) (y_off : Int32) (y_fuse : Int32) (y_steps : Int32) (y_many : Int32) (y_log : Int32) (y_before : Int32) (y_home : Nat → Int32) (y_base : Nat → Int32) (y_now : Nat → Int32) (y_kinds : Nat → Int32) (y_blocks : Nat → Int32) (y_runs : Nat → Int32) (y_revokes : Nat → Int32) (y_from : Nat → Int32) (y_uses : Nat → Int32) (y_revoked : Nat → Int32) (y_had : Nat → Int32) (y_data : Nat → Int32) (x1 : Int32) (y_runs_i : Nat → Int32) (y_revokes_i : Nat → Int32) (hpre : pr_M_drop (y_thrown, y_ring, y_off, y_fuse, y_steps, y_many, y_log, y_before, y_home, y_base, y_now, y_kinds, y_blocks, y_runs, y_revokes, y_from, y_uses, y_revoked, y_had, y_data)) (hinv : iv_M_drop_2 (y_thrown, y_ring, y_off, y_fuse, y_steps, y_many, y_log, y_before, y_home, y_base, y_now, y_kinds, y_blocks, y_runs, y_revokes, y_from, y_uses, y_revoked, y_had, y_data) x1 (y_thrown, y_ring, y_off, y_fuse, y_steps, y_many, y_log, y_before, y_home, y_base, y_now, y_kinds, y_blocks, y_runs_i, y_revokes_i, y_from, y_uses, y_revoked, y_had, y_data)) (c_5 : ¬ 64 ≤ x1) : vp_in x1 64 := by
  obtain ⟨b, hb, rfl, h⟩ := hinv
  have hb2 : ¬ 64 ≤ b := fun z => c_5 (nI_le (a := 64) z (by omega))
  exact vp_in_nI (by omega) (by decide)
theorem vc_M_drop_21_0 (y_thrown : Int32) (y_ring : Int32) (y_off : Int32) (y_fuse : Int32) (y_steps : Int32) (y_many : Int32) (y_log : Int32) (y_before : Int32) (y_home : Nat → Int32) (y_base : Nat → Int32) (y_now : Nat → Int32) (y_kinds : Nat → Int32) (y_blocks : Nat → Int32) (y_runs : Nat → Int32) (y_revokes : Nat → Int32) (y_from : Nat → Int32) (y_uses : Nat → Int32) (y_revoked : Nat → Int32) (y_had : Nat → Int32) (y_data : Nat → Int32) (x1 : Int32) (y_runs_i : Nat → Int32) (y_revokes_i : Nat → Int32) (hpre : pr_M_drop (y_thrown, y_ring, y_off, y_fuse, y_steps, y_many, y_log, y_before, y_home, y_base, y_now, y_kinds, y_blocks, y_runs, y_revokes, y_from, y_uses, y_revoked, y_had, y_data)) (hinv : iv_M_drop_2 (y_thrown, y_ring, y_off, y_fuse, y_steps, y_many, y_log, y_before, y_home, y_base, y_now, y_kinds, y_blocks, y_runs, y_revokes, y_from, y_uses, y_revoked, y_had, y_data) x1 (y_thrown, y_ring, y_off, y_fuse, y_steps, y_many, y_log, y_before, y_home, y_base, y_now, y_kinds, y_blocks, y_runs_i, y_revokes_i, y_from, y_uses, y_revoked, y_had, y_data)) (c_5 : ¬ 64 ≤ x1) : vp_in x1 64 := by
  obtain ⟨b, hb, rfl, h⟩ := hinv
  have hb2 : ¬ 64 ≤ b := fun z => c_5 (nI_le (a := 64) z (by omega))
  exact vp_in_nI (by omega) (by decide)
theorem vc_M_drop_25_0 (y_thrown : Int32) (y_ring : Int32) (y_off : Int32) (y_fuse : Int32) (y_steps : Int32) (y_many : Int32) (y_log : Int32) (y_before : Int32) (y_home : Nat → Int32) (y_base : Nat → Int32) (y_now : Nat → Int32) (y_kinds : Nat → Int32) (y_blocks : Nat → Int32) (y_runs : Nat → Int32) (y_revokes : Nat → Int32) (y_from : Nat → Int32) (y_uses : Nat → Int32) (y_revoked : Nat → Int32) (y_had : Nat → Int32) (y_data : Nat → Int32) (x1 : Int32) (y_runs_i : Nat → Int32) (y_revokes_i : Nat → Int32) (v_22 : Int32) (hpre : pr_M_drop (y_thrown, y_ring, y_off, y_fuse, y_steps, y_many, y_log, y_before, y_home, y_base, y_now, y_kinds, y_blocks, y_runs, y_revokes, y_from, y_uses, y_revoked, y_had, y_data)) (hinv : iv_M_drop_2 (y_thrown, y_ring, y_off, y_fuse, y_steps, y_many, y_log, y_before, y_home, y_base, y_now, y_kinds, y_blocks, y_runs, y_revokes, y_from, y_uses, y_revoked, y_had, y_data) x1 (y_thrown, y_ring, y_off, y_fuse, y_steps, y_many, y_log, y_before, y_home, y_base, y_now, y_kinds, y_blocks, y_runs_i, y_revokes_i, y_from, y_uses, y_revoked, y_had, y_data)) (c_5 : ¬ 64 ≤ x1) (e_22 : v_22 = x1 + 1) : iv_M_drop_2 (y_thrown, y_ring, y_off, y_fuse, y_steps, y_many, y_log, y_before, y_home, y_base, y_now, y_kinds, y_blocks, y_runs, y_revokes, y_from, y_uses, y_revoked, y_had, y_data) v_22 (y_thrown, y_ring, y_off, y_fuse, y_steps, y_many, y_log, y_before, y_home, y_base, y_now, y_kinds, y_blocks, (upd y_runs_i (x1).toNatClampNeg (vp_nar .boolean 0)), (upd y_revokes_i (x1).toNatClampNeg (vp_nar .boolean 0)), y_from, y_uses, y_revoked, y_had, y_data) ∧ mu_M_drop_2 (y_thrown, y_ring, y_off, y_fuse, y_steps, y_many, y_log, y_before, y_home, y_base, y_now, y_kinds, y_blocks, y_runs, y_revokes, y_from, y_uses, y_revoked, y_had, y_data) v_22 (y_thrown, y_ring, y_off, y_fuse, y_steps, y_many, y_log, y_before, y_home, y_base, y_now, y_kinds, y_blocks, (upd y_runs_i (x1).toNatClampNeg (vp_nar .boolean 0)), (upd y_revokes_i (x1).toNatClampNeg (vp_nar .boolean 0)), y_from, y_uses, y_revoked, y_had, y_data) < mu_M_drop_2 (y_thrown, y_ring, y_off, y_fuse, y_steps, y_many, y_log, y_before, y_home, y_base, y_now, y_kinds, y_blocks, y_runs, y_revokes, y_from, y_uses, y_revoked, y_had, y_data) x1 (y_thrown, y_ring, y_off, y_fuse, y_steps, y_many, y_log, y_before, y_home, y_base, y_now, y_kinds, y_blocks, y_runs_i, y_revokes_i, y_from, y_uses, y_revoked, y_had, y_data) := by
  obtain ⟨b, hb, rfl, h⟩ := hinv
  have hb2 : ¬ 64 ≤ b := fun z => c_5 (nI_le (a := 64) z (by omega))
  rw [nz0, nI_clamp (by omega)]
  refine ⟨⟨b + 1, by omega, by rw [e_22]; exact nI_1 b, fun c hc => ?_⟩, ?_⟩
  · by_cases q : c = b
    · subst q; rw [pk_us, pk_us]; exact ⟨rfl, rfl⟩
    · rw [pk_un q, pk_un q]; exact h c (by omega)
  · show 64 - v_22.toNatClampNeg < 64 - (nI b).toNatClampNeg
    rw [e_22, nI_1, nI_clamp (by omega), nI_clamp (by omega)]
    omega
theorem vc_M_drop_1_0 (y_thrown : Int32) (y_ring : Int32) (y_off : Int32) (y_fuse : Int32) (y_steps : Int32) (y_many : Int32) (y_log : Int32) (y_before : Int32) (y_home : Nat → Int32) (y_base : Nat → Int32) (y_now : Nat → Int32) (y_kinds : Nat → Int32) (y_blocks : Nat → Int32) (y_runs : Nat → Int32) (y_revokes : Nat → Int32) (y_from : Nat → Int32) (y_uses : Nat → Int32) (y_revoked : Nat → Int32) (y_had : Nat → Int32) (y_data : Nat → Int32) (hpre : pr_M_drop (y_thrown, y_ring, y_off, y_fuse, y_steps, y_many, y_log, y_before, y_home, y_base, y_now, y_kinds, y_blocks, y_runs, y_revokes, y_from, y_uses, y_revoked, y_had, y_data)) : iv_M_drop_2 (y_thrown, y_ring, y_off, y_fuse, y_steps, y_many, y_log, y_before, y_home, y_base, y_now, y_kinds, y_blocks, y_runs, y_revokes, y_from, y_uses, y_revoked, y_had, y_data) 0 (y_thrown, y_ring, y_off, y_fuse, y_steps, y_many, y_log, y_before, y_home, y_base, y_now, y_kinds, y_blocks, y_runs, y_revokes, y_from, y_uses, y_revoked, y_had, y_data) ∧ True := by
  exact ⟨⟨0, by omega, rfl, fun c hc => absurd hc (Nat.not_lt_zero _)⟩, trivial⟩
theorem vc_M_powerOff_6_0 (y_thrown : Int32) (y_ring : Int32) (y_off : Int32) (y_fuse : Int32) (y_steps : Int32) (y_many : Int32) (y_log : Int32) (y_before : Int32) (y_home : Nat → Int32) (y_base : Nat → Int32) (y_now : Nat → Int32) (y_kinds : Nat → Int32) (y_blocks : Nat → Int32) (y_runs : Nat → Int32) (y_revokes : Nat → Int32) (y_from : Nat → Int32) (y_uses : Nat → Int32) (y_revoked : Nat → Int32) (y_had : Nat → Int32) (y_data : Nat → Int32) (hpre : pr_M_powerOff (y_thrown, y_ring, y_off, y_fuse, y_steps, y_many, y_log, y_before, y_home, y_base, y_now, y_kinds, y_blocks, y_runs, y_revokes, y_from, y_uses, y_revoked, y_had, y_data)) : pr_M_drop (y_thrown, y_ring, 1, y_fuse, y_steps, y_many, y_log, y_before, y_home, y_base, y_now, y_kinds, y_blocks, y_runs, y_revokes, y_from, y_uses, y_revoked, y_had, y_data) := by
  trivial
theorem vc_M_powerOff_9_0 (y_thrown : Int32) (y_ring : Int32) (y_off : Int32) (y_fuse : Int32) (y_steps : Int32) (y_many : Int32) (y_log : Int32) (y_before : Int32) (y_home : Nat → Int32) (y_base : Nat → Int32) (y_now : Nat → Int32) (y_kinds : Nat → Int32) (y_blocks : Nat → Int32) (y_runs : Nat → Int32) (y_revokes : Nat → Int32) (y_from : Nat → Int32) (y_uses : Nat → Int32) (y_revoked : Nat → Int32) (y_had : Nat → Int32) (y_data : Nat → Int32) (y_runs_6 : Nat → Int32) (y_revokes_6 : Nat → Int32) (hpre : pr_M_powerOff (y_thrown, y_ring, y_off, y_fuse, y_steps, y_many, y_log, y_before, y_home, y_base, y_now, y_kinds, y_blocks, y_runs, y_revokes, y_from, y_uses, y_revoked, y_had, y_data)) (w_6 : po_M_drop (y_thrown, y_ring, 1, y_fuse, y_steps, y_many, y_log, y_before, y_home, y_base, y_now, y_kinds, y_blocks, y_runs, y_revokes, y_from, y_uses, y_revoked, y_had, y_data) (y_thrown, y_ring, 1, y_fuse, y_steps, y_many, y_log, y_before, y_home, y_base, y_now, y_kinds, y_blocks, y_runs_6, y_revokes_6, y_from, y_uses, y_revoked, y_had, y_data)) : po_M_powerOff (y_thrown, y_ring, y_off, y_fuse, y_steps, y_many, y_log, y_before, y_home, y_base, y_now, y_kinds, y_blocks, y_runs, y_revokes, y_from, y_uses, y_revoked, y_had, y_data) (y_thrown, y_ring, 1, y_fuse, y_steps, y_many, y_log, y_before, y_home, y_base, y_now, y_kinds, y_blocks, y_runs_6, y_revokes_6, y_from, y_uses, y_revoked, y_had, y_data) := by
  exact ⟨rfl, w_6.1, w_6.2⟩
def iv_M_settle_2 : MDt → Int32 → MDt → Prop
  | (_, _, _, _, _, many, _, _, home, base, _, kinds, blocks, _, _, _, _, _, _, _), x1, (_, _, _, _, _, many2, _, _, _, base2, _, _, _, _, _, _, _, _, _, _) => ∃ (u : List Nat) (i : Nat), uR u many kinds blocks ∧ uw u ∧ sb_Fit home ∧ x1 = nI i ∧ i ≤ u.length ∧ many2 = many ∧ base2 = dAll home (u.take i) base
def mu_M_settle_2 : MDt → Int32 → MDt → Nat
  | (_, _, _, _, _, many, _, _, _, _, _, _, _, _, _, _, _, _, _, _), x1, _ => many.toNatClampNeg - x1.toNatClampNeg

theorem vc_M_settle_65_0 (y_thrown : Int32) (y_ring : Int32) (y_off : Int32) (y_fuse : Int32) (y_steps : Int32) (y_many : Int32) (y_log : Int32) (y_before : Int32) (y_home : Nat → Int32) (y_base : Nat → Int32) (y_now : Nat → Int32) (y_kinds : Nat → Int32) (y_blocks : Nat → Int32) (y_runs : Nat → Int32) (y_revokes : Nat → Int32) (y_from : Nat → Int32) (y_uses : Nat → Int32) (y_revoked : Nat → Int32) (y_had : Nat → Int32) (y_data : Nat → Int32) (x1 : Int32) (y_many_i : Int32) (y_base_i : Nat → Int32) (hpre : pr_M_settle (y_thrown, y_ring, y_off, y_fuse, y_steps, y_many, y_log, y_before, y_home, y_base, y_now, y_kinds, y_blocks, y_runs, y_revokes, y_from, y_uses, y_revoked, y_had, y_data)) (hinv : iv_M_settle_2 (y_thrown, y_ring, y_off, y_fuse, y_steps, y_many, y_log, y_before, y_home, y_base, y_now, y_kinds, y_blocks, y_runs, y_revokes, y_from, y_uses, y_revoked, y_had, y_data) x1 (y_thrown, y_ring, y_off, y_fuse, y_steps, y_many_i, y_log, y_before, y_home, y_base_i, y_now, y_kinds, y_blocks, y_runs, y_revokes, y_from, y_uses, y_revoked, y_had, y_data)) (c_7 : y_many_i ≤ x1) : po_M_settle (y_thrown, y_ring, y_off, y_fuse, y_steps, y_many, y_log, y_before, y_home, y_base, y_now, y_kinds, y_blocks, y_runs, y_revokes, y_from, y_uses, y_revoked, y_had, y_data) (y_thrown, y_ring, y_off, y_fuse, y_steps, 0, y_log, y_before, y_home, y_base_i, y_now, y_kinds, y_blocks, y_runs, y_revokes, y_from, y_uses, y_revoked, y_had, y_data) := by
  intro u2 h2 w2
  obtain ⟨u, i, hu, hw, hf, rfl, hi, rfl, rfl⟩ := hinv
  have e := uR_inj hu hw h2 w2
  subst e
  have hl := hw.1
  rw [hu.1] at c_7
  have q := (nI_leI (by omega) (by omega)).mp c_7
  exact ⟨rfl, by rw [List.take_of_length_le q]⟩
theorem vc_M_settle_15_0 (y_thrown : Int32) (y_ring : Int32) (y_off : Int32) (y_fuse : Int32) (y_steps : Int32) (y_many : Int32) (y_log : Int32) (y_before : Int32) (y_home : Nat → Int32) (y_base : Nat → Int32) (y_now : Nat → Int32) (y_kinds : Nat → Int32) (y_blocks : Nat → Int32) (y_runs : Nat → Int32) (y_revokes : Nat → Int32) (y_from : Nat → Int32) (y_uses : Nat → Int32) (y_revoked : Nat → Int32) (y_had : Nat → Int32) (y_data : Nat → Int32) (x1 : Int32) (y_many_i : Int32) (y_base_i : Nat → Int32) (hpre : pr_M_settle (y_thrown, y_ring, y_off, y_fuse, y_steps, y_many, y_log, y_before, y_home, y_base, y_now, y_kinds, y_blocks, y_runs, y_revokes, y_from, y_uses, y_revoked, y_had, y_data)) (hinv : iv_M_settle_2 (y_thrown, y_ring, y_off, y_fuse, y_steps, y_many, y_log, y_before, y_home, y_base, y_now, y_kinds, y_blocks, y_runs, y_revokes, y_from, y_uses, y_revoked, y_had, y_data) x1 (y_thrown, y_ring, y_off, y_fuse, y_steps, y_many_i, y_log, y_before, y_home, y_base_i, y_now, y_kinds, y_blocks, y_runs, y_revokes, y_from, y_uses, y_revoked, y_had, y_data)) (c_7 : ¬ y_many_i ≤ x1) : vp_in x1 512 := by
  obtain ⟨u, i, hu, hw, hf, rfl, hi, rfl, rfl⟩ := hinv
  have hl := hw.1
  exact vp_in_nI (by omega) (by decide)
theorem vc_M_settle_57_0 (y_thrown : Int32) (y_ring : Int32) (y_off : Int32) (y_fuse : Int32) (y_steps : Int32) (y_many : Int32) (y_log : Int32) (y_before : Int32) (y_home : Nat → Int32) (y_base : Nat → Int32) (y_now : Nat → Int32) (y_kinds : Nat → Int32) (y_blocks : Nat → Int32) (y_runs : Nat → Int32) (y_revokes : Nat → Int32) (y_from : Nat → Int32) (y_uses : Nat → Int32) (y_revoked : Nat → Int32) (y_had : Nat → Int32) (y_data : Nat → Int32) (x1 : Int32) (y_many_i : Int32) (y_base_i : Nat → Int32) (v_15 : Int32) (v_54 : Int32) (hpre : pr_M_settle (y_thrown, y_ring, y_off, y_fuse, y_steps, y_many, y_log, y_before, y_home, y_base, y_now, y_kinds, y_blocks, y_runs, y_revokes, y_from, y_uses, y_revoked, y_had, y_data)) (hinv : iv_M_settle_2 (y_thrown, y_ring, y_off, y_fuse, y_steps, y_many, y_log, y_before, y_home, y_base, y_now, y_kinds, y_blocks, y_runs, y_revokes, y_from, y_uses, y_revoked, y_had, y_data) x1 (y_thrown, y_ring, y_off, y_fuse, y_steps, y_many_i, y_log, y_before, y_home, y_base_i, y_now, y_kinds, y_blocks, y_runs, y_revokes, y_from, y_uses, y_revoked, y_had, y_data)) (c_7 : ¬ y_many_i ≤ x1) (e_15 : v_15 = (y_kinds (x1).toNatClampNeg)) (c_16 : ¬ v_15 = 0) (e_54 : v_54 = x1 + 1) : iv_M_settle_2 (y_thrown, y_ring, y_off, y_fuse, y_steps, y_many, y_log, y_before, y_home, y_base, y_now, y_kinds, y_blocks, y_runs, y_revokes, y_from, y_uses, y_revoked, y_had, y_data) v_54 (y_thrown, y_ring, y_off, y_fuse, y_steps, y_many_i, y_log, y_before, y_home, y_base_i, y_now, y_kinds, y_blocks, y_runs, y_revokes, y_from, y_uses, y_revoked, y_had, y_data) ∧ mu_M_settle_2 (y_thrown, y_ring, y_off, y_fuse, y_steps, y_many, y_log, y_before, y_home, y_base, y_now, y_kinds, y_blocks, y_runs, y_revokes, y_from, y_uses, y_revoked, y_had, y_data) v_54 (y_thrown, y_ring, y_off, y_fuse, y_steps, y_many_i, y_log, y_before, y_home, y_base_i, y_now, y_kinds, y_blocks, y_runs, y_revokes, y_from, y_uses, y_revoked, y_had, y_data) < mu_M_settle_2 (y_thrown, y_ring, y_off, y_fuse, y_steps, y_many, y_log, y_before, y_home, y_base, y_now, y_kinds, y_blocks, y_runs, y_revokes, y_from, y_uses, y_revoked, y_had, y_data) x1 (y_thrown, y_ring, y_off, y_fuse, y_steps, y_many_i, y_log, y_before, y_home, y_base_i, y_now, y_kinds, y_blocks, y_runs, y_revokes, y_from, y_uses, y_revoked, y_had, y_data) := by
  obtain ⟨u, i, hu, hw, hf, rfl, hi, rfl, rfl⟩ := hinv
  have hl := hw.1
  have q : ¬ u.length ≤ i := fun z => c_7 (by rw [hu.1]; exact nI_le z (by omega))
  have hk := hw.2 _ (getD_mem (u := u) (i := i) (by omega))
  rw [nI_clamp (by omega), (hu.2 i (by omega)).1] at e_15
  have h64 : ¬ u.getD i 0 < 64 := fun z => c_16 (e_15.trans ((kd_0 hk).mpr z))
  refine ⟨⟨u, i + 1, hu, hw, hf, by rw [e_54]; exact nI_1 i, by omega, rfl, ?_⟩, ?_⟩
  · rw [take_succ_getD (by omega), dAll_app, if_neg h64]
  · show y_many_i.toNatClampNeg - v_54.toNatClampNeg < y_many_i.toNatClampNeg - (nI i).toNatClampNeg
    rw [e_54, nI_1, hu.1, nI_clamp (n := u.length) (by omega), nI_clamp (n := i + 1) (by omega), nI_clamp (n := i) (by omega)]
    omega
theorem vc_M_settle_32_0 (y_thrown : Int32) (y_ring : Int32) (y_off : Int32) (y_fuse : Int32) (y_steps : Int32) (y_many : Int32) (y_log : Int32) (y_before : Int32) (y_home : Nat → Int32) (y_base : Nat → Int32) (y_now : Nat → Int32) (y_kinds : Nat → Int32) (y_blocks : Nat → Int32) (y_runs : Nat → Int32) (y_revokes : Nat → Int32) (y_from : Nat → Int32) (y_uses : Nat → Int32) (y_revoked : Nat → Int32) (y_had : Nat → Int32) (y_data : Nat → Int32) (x1 : Int32) (y_many_i : Int32) (y_base_i : Nat → Int32) (v_15 : Int32) (hpre : pr_M_settle (y_thrown, y_ring, y_off, y_fuse, y_steps, y_many, y_log, y_before, y_home, y_base, y_now, y_kinds, y_blocks, y_runs, y_revokes, y_from, y_uses, y_revoked, y_had, y_data)) (hinv : iv_M_settle_2 (y_thrown, y_ring, y_off, y_fuse, y_steps, y_many, y_log, y_before, y_home, y_base, y_now, y_kinds, y_blocks, y_runs, y_revokes, y_from, y_uses, y_revoked, y_had, y_data) x1 (y_thrown, y_ring, y_off, y_fuse, y_steps, y_many_i, y_log, y_before, y_home, y_base_i, y_now, y_kinds, y_blocks, y_runs, y_revokes, y_from, y_uses, y_revoked, y_had, y_data)) (c_7 : ¬ y_many_i ≤ x1) (e_15 : v_15 = (y_kinds (x1).toNatClampNeg)) (c_16 : v_15 = 0) : vp_in x1 512 := by
  obtain ⟨u, i, hu, hw, hf, rfl, hi, rfl, rfl⟩ := hinv
  have hl := hw.1
  exact vp_in_nI (by omega) (by decide)
theorem vc_M_settle_46_0 (y_thrown : Int32) (y_ring : Int32) (y_off : Int32) (y_fuse : Int32) (y_steps : Int32) (y_many : Int32) (y_log : Int32) (y_before : Int32) (y_home : Nat → Int32) (y_base : Nat → Int32) (y_now : Nat → Int32) (y_kinds : Nat → Int32) (y_blocks : Nat → Int32) (y_runs : Nat → Int32) (y_revokes : Nat → Int32) (y_from : Nat → Int32) (y_uses : Nat → Int32) (y_revoked : Nat → Int32) (y_had : Nat → Int32) (y_data : Nat → Int32) (x1 : Int32) (y_many_i : Int32) (y_base_i : Nat → Int32) (v_15 : Int32) (v_32 : Int32) (hpre : pr_M_settle (y_thrown, y_ring, y_off, y_fuse, y_steps, y_many, y_log, y_before, y_home, y_base, y_now, y_kinds, y_blocks, y_runs, y_revokes, y_from, y_uses, y_revoked, y_had, y_data)) (hinv : iv_M_settle_2 (y_thrown, y_ring, y_off, y_fuse, y_steps, y_many, y_log, y_before, y_home, y_base, y_now, y_kinds, y_blocks, y_runs, y_revokes, y_from, y_uses, y_revoked, y_had, y_data) x1 (y_thrown, y_ring, y_off, y_fuse, y_steps, y_many_i, y_log, y_before, y_home, y_base_i, y_now, y_kinds, y_blocks, y_runs, y_revokes, y_from, y_uses, y_revoked, y_had, y_data)) (c_7 : ¬ y_many_i ≤ x1) (e_15 : v_15 = (y_kinds (x1).toNatClampNeg)) (c_16 : v_15 = 0) (e_32 : v_32 = (y_blocks (x1).toNatClampNeg)) : vp_in x1 512 := by
  obtain ⟨u, i, hu, hw, hf, rfl, hi, rfl, rfl⟩ := hinv
  have hl := hw.1
  exact vp_in_nI (by omega) (by decide)
theorem vc_M_settle_51_0 (y_thrown : Int32) (y_ring : Int32) (y_off : Int32) (y_fuse : Int32) (y_steps : Int32) (y_many : Int32) (y_log : Int32) (y_before : Int32) (y_home : Nat → Int32) (y_base : Nat → Int32) (y_now : Nat → Int32) (y_kinds : Nat → Int32) (y_blocks : Nat → Int32) (y_runs : Nat → Int32) (y_revokes : Nat → Int32) (y_from : Nat → Int32) (y_uses : Nat → Int32) (y_revoked : Nat → Int32) (y_had : Nat → Int32) (y_data : Nat → Int32) (x1 : Int32) (y_many_i : Int32) (y_base_i : Nat → Int32) (v_15 : Int32) (v_32 : Int32) (v_46 : Int32) (hpre : pr_M_settle (y_thrown, y_ring, y_off, y_fuse, y_steps, y_many, y_log, y_before, y_home, y_base, y_now, y_kinds, y_blocks, y_runs, y_revokes, y_from, y_uses, y_revoked, y_had, y_data)) (hinv : iv_M_settle_2 (y_thrown, y_ring, y_off, y_fuse, y_steps, y_many, y_log, y_before, y_home, y_base, y_now, y_kinds, y_blocks, y_runs, y_revokes, y_from, y_uses, y_revoked, y_had, y_data) x1 (y_thrown, y_ring, y_off, y_fuse, y_steps, y_many_i, y_log, y_before, y_home, y_base_i, y_now, y_kinds, y_blocks, y_runs, y_revokes, y_from, y_uses, y_revoked, y_had, y_data)) (c_7 : ¬ y_many_i ≤ x1) (e_15 : v_15 = (y_kinds (x1).toNatClampNeg)) (c_16 : v_15 = 0) (e_32 : v_32 = (y_blocks (x1).toNatClampNeg)) (e_46 : v_46 = (y_blocks (x1).toNatClampNeg)) : pr_M_copy (256 * v_32) (256 * v_46) 256 16384 16384 y_home y_base_i := by
  obtain ⟨u, i, hu, hw, hf, rfl, hi, rfl, rfl⟩ := hinv
  have hl := hw.1
  have q : ¬ u.length ≤ i := fun z => c_7 (by rw [hu.1]; exact nI_le z (by omega))
  have hk := hw.2 _ (getD_mem (u := u) (i := i) (by omega))
  rw [nI_clamp (by omega), (hu.2 i (by omega)).1] at e_15
  have h64 : u.getD i 0 < 64 := (kd_0 hk).mp (e_15.symm.trans c_16)
  rw [nI_clamp (by omega), (hu.2 i (by omega)).2 h64] at e_32 e_46
  have e : (256 : Int32) * nI (u.getD i 0) = nI (256 * u.getD i 0) := pk_mul 256 _
  rw [e_32, e_46, e]
  exact ⟨_, _, 256, rfl, rfl, rfl, by omega, by omega, by decide, by decide, hf⟩
theorem vc_M_settle_57_1 (y_thrown : Int32) (y_ring : Int32) (y_off : Int32) (y_fuse : Int32) (y_steps : Int32) (y_many : Int32) (y_log : Int32) (y_before : Int32) (y_home : Nat → Int32) (y_base : Nat → Int32) (y_now : Nat → Int32) (y_kinds : Nat → Int32) (y_blocks : Nat → Int32) (y_runs : Nat → Int32) (y_revokes : Nat → Int32) (y_from : Nat → Int32) (y_uses : Nat → Int32) (y_revoked : Nat → Int32) (y_had : Nat → Int32) (y_data : Nat → Int32) (x1 : Int32) (y_many_i : Int32) (y_base_i : Nat → Int32) (v_15 : Int32) (v_32 : Int32) (v_46 : Int32) (b_ar_51 : Nat → Int32) (v_54 : Int32) (hpre : pr_M_settle (y_thrown, y_ring, y_off, y_fuse, y_steps, y_many, y_log, y_before, y_home, y_base, y_now, y_kinds, y_blocks, y_runs, y_revokes, y_from, y_uses, y_revoked, y_had, y_data)) (hinv : iv_M_settle_2 (y_thrown, y_ring, y_off, y_fuse, y_steps, y_many, y_log, y_before, y_home, y_base, y_now, y_kinds, y_blocks, y_runs, y_revokes, y_from, y_uses, y_revoked, y_had, y_data) x1 (y_thrown, y_ring, y_off, y_fuse, y_steps, y_many_i, y_log, y_before, y_home, y_base_i, y_now, y_kinds, y_blocks, y_runs, y_revokes, y_from, y_uses, y_revoked, y_had, y_data)) (c_7 : ¬ y_many_i ≤ x1) (e_15 : v_15 = (y_kinds (x1).toNatClampNeg)) (c_16 : v_15 = 0) (e_32 : v_32 = (y_blocks (x1).toNatClampNeg)) (e_46 : v_46 = (y_blocks (x1).toNatClampNeg)) (w_51 : po_M_copy (256 * v_32) (256 * v_46) 256 16384 16384 y_home y_base_i y_home b_ar_51) (e_54 : v_54 = x1 + 1) : iv_M_settle_2 (y_thrown, y_ring, y_off, y_fuse, y_steps, y_many, y_log, y_before, y_home, y_base, y_now, y_kinds, y_blocks, y_runs, y_revokes, y_from, y_uses, y_revoked, y_had, y_data) v_54 (y_thrown, y_ring, y_off, y_fuse, y_steps, y_many_i, y_log, y_before, y_home, b_ar_51, y_now, y_kinds, y_blocks, y_runs, y_revokes, y_from, y_uses, y_revoked, y_had, y_data) ∧ mu_M_settle_2 (y_thrown, y_ring, y_off, y_fuse, y_steps, y_many, y_log, y_before, y_home, y_base, y_now, y_kinds, y_blocks, y_runs, y_revokes, y_from, y_uses, y_revoked, y_had, y_data) v_54 (y_thrown, y_ring, y_off, y_fuse, y_steps, y_many_i, y_log, y_before, y_home, b_ar_51, y_now, y_kinds, y_blocks, y_runs, y_revokes, y_from, y_uses, y_revoked, y_had, y_data) < mu_M_settle_2 (y_thrown, y_ring, y_off, y_fuse, y_steps, y_many, y_log, y_before, y_home, y_base, y_now, y_kinds, y_blocks, y_runs, y_revokes, y_from, y_uses, y_revoked, y_had, y_data) x1 (y_thrown, y_ring, y_off, y_fuse, y_steps, y_many_i, y_log, y_before, y_home, y_base_i, y_now, y_kinds, y_blocks, y_runs, y_revokes, y_from, y_uses, y_revoked, y_had, y_data) := by
  obtain ⟨u, i, hu, hw, hf, rfl, hi, rfl, rfl⟩ := hinv
  have hl := hw.1
  have q : ¬ u.length ≤ i := fun z => c_7 (by rw [hu.1]; exact nI_le z (by omega))
  have hk := hw.2 _ (getD_mem (u := u) (i := i) (by omega))
  rw [nI_clamp (by omega), (hu.2 i (by omega)).1] at e_15
  have h64 : u.getD i 0 < 64 := (kd_0 hk).mp (e_15.symm.trans c_16)
  rw [nI_clamp (by omega), (hu.2 i (by omega)).2 h64] at e_32 e_46
  have e : (256 : Int32) * nI (u.getD i 0) = nI (256 * u.getD i 0) := pk_mul 256 _
  have w := w_51 (256 * u.getD i 0) (256 * u.getD i 0) 256 (by rw [e_32, e]) (by rw [e_46, e]) rfl (by omega) (by omega) (by decide) (by decide)
  refine ⟨⟨u, i + 1, hu, hw, hf, by rw [e_54]; exact nI_1 i, by omega, rfl, ?_⟩, ?_⟩
  · rw [take_succ_getD (by omega), dAll_app, if_pos h64]; exact w
  · show y_many_i.toNatClampNeg - v_54.toNatClampNeg < y_many_i.toNatClampNeg - (nI i).toNatClampNeg
    rw [e_54, nI_1, hu.1, nI_clamp (n := u.length) (by omega), nI_clamp (n := i + 1) (by omega), nI_clamp (n := i) (by omega)]
    omega
theorem vc_M_settle_1_0 (y_thrown : Int32) (y_ring : Int32) (y_off : Int32) (y_fuse : Int32) (y_steps : Int32) (y_many : Int32) (y_log : Int32) (y_before : Int32) (y_home : Nat → Int32) (y_base : Nat → Int32) (y_now : Nat → Int32) (y_kinds : Nat → Int32) (y_blocks : Nat → Int32) (y_runs : Nat → Int32) (y_revokes : Nat → Int32) (y_from : Nat → Int32) (y_uses : Nat → Int32) (y_revoked : Nat → Int32) (y_had : Nat → Int32) (y_data : Nat → Int32) (hpre : pr_M_settle (y_thrown, y_ring, y_off, y_fuse, y_steps, y_many, y_log, y_before, y_home, y_base, y_now, y_kinds, y_blocks, y_runs, y_revokes, y_from, y_uses, y_revoked, y_had, y_data)) : iv_M_settle_2 (y_thrown, y_ring, y_off, y_fuse, y_steps, y_many, y_log, y_before, y_home, y_base, y_now, y_kinds, y_blocks, y_runs, y_revokes, y_from, y_uses, y_revoked, y_had, y_data) 0 (y_thrown, y_ring, y_off, y_fuse, y_steps, y_many, y_log, y_before, y_home, y_base, y_now, y_kinds, y_blocks, y_runs, y_revokes, y_from, y_uses, y_revoked, y_had, y_data) ∧ True := by
  obtain ⟨u, hu, hw, hf⟩ := hpre
  exact ⟨⟨u, 0, hu, hw, hf, rfl, Nat.zero_le _, rfl, rfl⟩, trivial⟩
