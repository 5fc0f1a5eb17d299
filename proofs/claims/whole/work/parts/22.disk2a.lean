theorem b2i_0 {b : Bool} : b2i b = 0 ↔ b = false := by cases b <;> simp [b2i]
theorem b2i_n0 {b : Bool} : ¬ b2i b = 0 ↔ b = true := by cases b <;> simp [b2i]
theorem st_t {u : List Nat} {on : Bool} {f st : Int32} {ba ho : Nat → Int32} (h : (sStep (u, on, f, st, ba, ho)).1 = true) : ¬ f = 0 ∧ sStep (u, on, f, st, ba, ho) = (true, (u, on, (if 0 < f then f - 1 else f), st + 1, ba, ho)) := by
  by_cases z : f = 0
  · rw [show sStep (u, on, f, st, ba, ho) = (false, (u, false, -1, st, ba, ho)) from if_pos z] at h
    cases h
  · exact ⟨z, if_neg z⟩
theorem st_f {u : List Nat} {on : Bool} {f st : Int32} {ba ho : Nat → Int32} (h : (sStep (u, on, f, st, ba, ho)).1 = false) : f = 0 ∧ sStep (u, on, f, st, ba, ho) = (false, (u, false, -1, st, ba, ho)) := by
  by_cases z : f = 0
  · exact ⟨z, if_pos z⟩
  · rw [show sStep (u, on, f, st, ba, ho) = (true, (u, on, (if 0 < f then f - 1 else f), st + 1, ba, ho)) from if_neg z] at h
    cases h
theorem ms_RD {d : Dk} {k k2 : DKt} {r : Int32} (h : RD d k) (w : po_Disk_makeStep k r k2) : r = b2i (sStep d).1 ∧ RD (sStep d).2 k2 := by
  obtain ⟨u, on, f, st, ba, ho⟩ := d
  obtain ⟨uw, hm, on1, sl, st1, dn, wr, od⟩ := k
  obtain ⟨h1, h2, h3, h4, h5, h6, h7, h8⟩ := h
  subst h5 h6 h7 h8
  have w2 : (if sl = 0 then (r = 0 ∧ k2 = (uw, hm, 0, -1, st1, dn, wr, od)) else (r = 1 ∧ k2 = (uw, hm, on1, (if 0 < sl then sl - 1 else sl), st1 + 1, dn, wr, od))) := w
  by_cases z : sl = 0
  · rw [if_pos z] at w2
    rw [show sStep (u, on, sl, st1, dn, wr) = (false, (u, false, -1, st1, dn, wr)) from if_pos z]
    exact ⟨w2.1, by rw [w2.2]; exact ⟨h1, h2, h3, rfl, rfl, rfl, rfl, rfl⟩⟩
  · rw [if_neg z] at w2
    rw [show sStep (u, on, sl, st1, dn, wr) = (true, (u, on, (if 0 < sl then sl - 1 else sl), st1 + 1, dn, wr)) from if_neg z]
    exact ⟨w2.1, by rw [w2.2]; exact ⟨h1, h2, h3, h4, rfl, rfl, rfl, rfl⟩⟩
theorem put_ord {u : List Nat} {od : Nat → Int32} {n : Nat} (h : ∀ i, i < u.length → od i = nI (u.getD i 0)) : ∀ i, i < (u ++ [n]).length → upd od u.length (nI n) i = nI ((u ++ [n]).getD i 0) := by
  intro i hi
  have hl : i < u.length + 1 := by simpa using hi
  by_cases q : i = u.length
  · subst q; rw [pk_us, getD_app_r]
  · rw [pk_un q, getD_app_l (by omega), h i (by omega)]
theorem rg_t {n : Nat} {u : List Nat} {on : Bool} {f st : Int32} {ba ho : Nat → Int32} (h : (sStep (u, on, f, st, ba, ho)).1 = true) : sRing n (u, on, f, st, ba, ho) = (true, (u ++ [n], on, (if 0 < f then f - 1 else f), st + 1, ba, ho)) := by
  unfold sRing; rw [(st_t h).2]
theorem rg_f {n : Nat} {d : Dk} (h : (sStep d).1 = false) : sRing n d = (false, (sStep d).2) := by
  unfold sRing
  generalize sStep d = z at h ⊢
  obtain ⟨b, z⟩ := z
  have h : b = false := h
  subst h; rfl
theorem hm_t {b sp : Nat} {g : Nat → Int32} {u : List Nat} {on : Bool} {f st : Int32} {ba ho : Nat → Int32} (h : (sStep (u, on, f, st, ba, ho)).1 = true) : sHome b g sp (u, on, f, st, ba, ho) = (true, ((if b ∈ u then u else u ++ [b]), on, (if 0 < f then f - 1 else f), st + 1, ba, va_cpy g ho sp (256 * b) 256)) := by
  unfold sHome; rw [(st_t h).2]
theorem hm_f {b sp : Nat} {g : Nat → Int32} {d : Dk} (h : (sStep d).1 = false) : sHome b g sp d = (false, (sStep d).2) := by
  unfold sHome
  generalize sStep d = z at h ⊢
  obtain ⟨b, z⟩ := z
  have h : b = false := h
  subst h; rfl
theorem bar_t {u : List Nat} {on : Bool} {f st : Int32} {ba ho : Nat → Int32} (h : (sStep (u, on, f, st, ba, ho)).1 = true) : sBar (u, on, f, st, ba, ho) = (true, ([], on, (if 0 < f then f - 1 else f), st + 1, dAll ho u ba, ho)) := by
  unfold sBar; rw [(st_t h).2]
theorem bar_f {d : Dk} (h : (sStep d).1 = false) : sBar d = (false, (sStep d).2) := by
  unfold sBar
  generalize sStep d = z at h ⊢
  obtain ⟨b, z⟩ := z
  have h : b = false := h
  subst h; rfl
def wB (d : Dk) (ba : Nat → Int32) : Dk := (d.1, d.2.1, d.2.2.1, d.2.2.2.1, ba, d.2.2.2.2.2)

theorem vc_Disk_writeRing_1_0 (a_q : Int32) (k_underWay : Int32) (k_homesUnderWay : Int64) (k_on : Int32) (k_stepsLeft : Int32) (k_steps : Int32) (k_down : Nat → Int32) (k_written : Nat → Int32) (k_order : Nat → Int32) (hpre : pr_Disk_writeRing a_q (k_underWay, k_homesUnderWay, k_on, k_stepsLeft, k_steps, k_down, k_written, k_order)) : pr_Disk_makeStep (k_underWay, k_homesUnderWay, k_on, k_stepsLeft, k_steps, k_down, k_written, k_order) := by
  trivial
theorem vc_Disk_writeRing_11_0 (a_q : Int32) (k_underWay : Int32) (k_homesUnderWay : Int64) (k_on : Int32) (k_stepsLeft : Int32) (k_steps : Int32) (k_down : Nat → Int32) (k_written : Nat → Int32) (k_order : Nat → Int32) (r_1 : Int32) (k_on_1 : Int32) (k_stepsLeft_1 : Int32) (k_steps_1 : Int32) (hpre : pr_Disk_writeRing a_q (k_underWay, k_homesUnderWay, k_on, k_stepsLeft, k_steps, k_down, k_written, k_order)) (w_1 : po_Disk_makeStep (k_underWay, k_homesUnderWay, k_on, k_stepsLeft, k_steps, k_down, k_written, k_order) r_1 (k_underWay, k_homesUnderWay, k_on_1, k_stepsLeft_1, k_steps_1, k_down, k_written, k_order)) (c_4 : ¬ r_1 = 0) : pr_Disk_putUnderWay a_q (k_underWay, k_homesUnderWay, k_on_1, k_stepsLeft_1, k_steps_1, k_down, k_written, k_order) := by
  obtain ⟨⟨u, on, f, st, ba, ho⟩, n, hd, hl, hq, h64, h67⟩ := hpre
  have hl : u.length < 200 := hl
  exact ⟨u.length, by omega, hd.1⟩
theorem vc_Disk_writeRing_15_0 (a_q : Int32) (k_underWay : Int32) (k_homesUnderWay : Int64) (k_on : Int32) (k_stepsLeft : Int32) (k_steps : Int32) (k_down : Nat → Int32) (k_written : Nat → Int32) (k_order : Nat → Int32) (r_1 : Int32) (k_on_1 : Int32) (k_stepsLeft_1 : Int32) (k_steps_1 : Int32) (k_underWay_11 : Int32) (k_order_11 : Nat → Int32) (hpre : pr_Disk_writeRing a_q (k_underWay, k_homesUnderWay, k_on, k_stepsLeft, k_steps, k_down, k_written, k_order)) (w_1 : po_Disk_makeStep (k_underWay, k_homesUnderWay, k_on, k_stepsLeft, k_steps, k_down, k_written, k_order) r_1 (k_underWay, k_homesUnderWay, k_on_1, k_stepsLeft_1, k_steps_1, k_down, k_written, k_order)) (c_4 : ¬ r_1 = 0) (w_11 : po_Disk_putUnderWay a_q (k_underWay, k_homesUnderWay, k_on_1, k_stepsLeft_1, k_steps_1, k_down, k_written, k_order) (k_underWay_11, k_homesUnderWay, k_on_1, k_stepsLeft_1, k_steps_1, k_down, k_written, k_order_11)) : po_Disk_writeRing a_q (k_underWay, k_homesUnderWay, k_on, k_stepsLeft, k_steps, k_down, k_written, k_order) 1 (k_underWay_11, k_homesUnderWay, k_on_1, k_stepsLeft_1, k_steps_1, k_down, k_written, k_order_11) := by
  intro d n hd hl hq h64 h67
  obtain ⟨a, b⟩ := ms_RD hd w_1
  have hs := b2i_n0.mp (fun q => c_4 (a.trans q))
  obtain ⟨u, on, f, st, ba, ho⟩ := d
  rw [(st_t hs).2] at b
  rw [rg_t hs]
  have w : (k_underWay_11, k_homesUnderWay, k_on_1, k_stepsLeft_1, k_steps_1, k_down, k_written, k_order_11) = ((k_underWay + 1, k_homesUnderWay, k_on_1, k_stepsLeft_1, k_steps_1, k_down, k_written, upd k_order k_underWay.toNatClampNeg a_q) : DKt) := w_11
  have hl : u.length < 200 := hl
  rw [w]
  obtain ⟨b1, b2, b3, b4, b5, b6, b7, b8⟩ := b
  subst hq
  refine ⟨rfl, ?_, ?_, ?_, b4, b5, b6, b7, b8⟩
  · rw [b1, nI_1]; simp
  · rw [b1, nI_clamp (by omega)]; exact put_ord b2
  · intro c hc
    rw [b3 c hc]
    have : ¬ c = n := by omega
    simp [this]
theorem vc_Disk_writeRing_8_0 (a_q : Int32) (k_underWay : Int32) (k_homesUnderWay : Int64) (k_on : Int32) (k_stepsLeft : Int32) (k_steps : Int32) (k_down : Nat → Int32) (k_written : Nat → Int32) (k_order : Nat → Int32) (r_1 : Int32) (k_on_1 : Int32) (k_stepsLeft_1 : Int32) (k_steps_1 : Int32) (hpre : pr_Disk_writeRing a_q (k_underWay, k_homesUnderWay, k_on, k_stepsLeft, k_steps, k_down, k_written, k_order)) (w_1 : po_Disk_makeStep (k_underWay, k_homesUnderWay, k_on, k_stepsLeft, k_steps, k_down, k_written, k_order) r_1 (k_underWay, k_homesUnderWay, k_on_1, k_stepsLeft_1, k_steps_1, k_down, k_written, k_order)) (c_4 : r_1 = 0) : po_Disk_writeRing a_q (k_underWay, k_homesUnderWay, k_on, k_stepsLeft, k_steps, k_down, k_written, k_order) 0 (k_underWay, k_homesUnderWay, k_on_1, k_stepsLeft_1, k_steps_1, k_down, k_written, k_order) := by
  intro d n hd hl hq h64 h67
  obtain ⟨a, b⟩ := ms_RD hd w_1
  have hs := b2i_0.mp (a.symm.trans c_4)
  rw [rg_f hs]
  exact ⟨rfl, b⟩
theorem sub256 {n : Nat} (h : 256 ≤ n) (hn : n < 2 ^ 31) : nI n - 256 = nI (n - 256) := pk_sub (b := 256) h

theorem vc_Disk_writeHome_1_0 (a_b : Int32) (a_fr : Int32) (nar : Nat) (k_underWay : Int32) (k_homesUnderWay : Int64) (k_on : Int32) (k_stepsLeft : Int32) (k_steps : Int32) (k_down : Nat → Int32) (k_written : Nat → Int32) (k_order : Nat → Int32) (ar : Nat → Int32) (hpre : pr_Disk_writeHome a_b a_fr nar (k_underWay, k_homesUnderWay, k_on, k_stepsLeft, k_steps, k_down, k_written, k_order) ar) : pr_isHome a_b := by
  trivial
theorem vc_Disk_writeHome_29_0 (a_b : Int32) (a_fr : Int32) (nar : Nat) (k_underWay : Int32) (k_homesUnderWay : Int64) (k_on : Int32) (k_stepsLeft : Int32) (k_steps : Int32) (k_down : Nat → Int32) (k_written : Nat → Int32) (k_order : Nat → Int32) (ar : Nat → Int32) (r_1 : Int32) (hpre : pr_Disk_writeHome a_b a_fr nar (k_underWay, k_homesUnderWay, k_on, k_stepsLeft, k_steps, k_down, k_written, k_order) ar) (w_1 : po_isHome a_b r_1) (c_4 : r_1 = 0) : po_Disk_writeHome a_b a_fr nar (k_underWay, k_homesUnderWay, k_on, k_stepsLeft, k_steps, k_down, k_written, k_order) ar 0 (k_underWay, k_homesUnderWay, k_on, k_stepsLeft, k_steps, k_down, k_written, k_order) ar := by
  intro d q x hd hl hb hq hf hx hn
  subst hb
  have h := (nI_home (by omega)).mp (it0.mp (Eq.trans (Eq.symm w_1) c_4))
  omega
theorem vc_Disk_writeHome_29_1 (a_b : Int32) (a_fr : Int32) (nar : Nat) (k_underWay : Int32) (k_homesUnderWay : Int64) (k_on : Int32) (k_stepsLeft : Int32) (k_steps : Int32) (k_down : Nat → Int32) (k_written : Nat → Int32) (k_order : Nat → Int32) (ar : Nat → Int32) (r_1 : Int32) (hpre : pr_Disk_writeHome a_b a_fr nar (k_underWay, k_homesUnderWay, k_on, k_stepsLeft, k_steps, k_down, k_written, k_order) ar) (w_1 : po_isHome a_b r_1) (c_4 : ¬ r_1 = 0) (c_8 : a_fr < 0) : po_Disk_writeHome a_b a_fr nar (k_underWay, k_homesUnderWay, k_on, k_stepsLeft, k_steps, k_down, k_written, k_order) ar 0 (k_underWay, k_homesUnderWay, k_on, k_stepsLeft, k_steps, k_down, k_written, k_order) ar := by
  intro d q x hd hl hb hq hf hx hn
  subst hf
  exact absurd c_8 (nI_pos (by omega))
theorem vc_Disk_writeHome_29_2 (a_b : Int32) (a_fr : Int32) (nar : Nat) (k_underWay : Int32) (k_homesUnderWay : Int64) (k_on : Int32) (k_stepsLeft : Int32) (k_steps : Int32) (k_down : Nat → Int32) (k_written : Nat → Int32) (k_order : Nat → Int32) (ar : Nat → Int32) (r_1 : Int32) (hpre : pr_Disk_writeHome a_b a_fr nar (k_underWay, k_homesUnderWay, k_on, k_stepsLeft, k_steps, k_down, k_written, k_order) ar) (w_1 : po_isHome a_b r_1) (c_4 : ¬ r_1 = 0) (c_8 : ¬ a_fr < 0) (c_18 : ((nI nar) - 256) < a_fr) : po_Disk_writeHome a_b a_fr nar (k_underWay, k_homesUnderWay, k_on, k_stepsLeft, k_steps, k_down, k_written, k_order) ar 0 (k_underWay, k_homesUnderWay, k_on, k_stepsLeft, k_steps, k_down, k_written, k_order) ar := by
  intro d q x hd hl hb hq hf hx hn
  subst hf
  rw [sub256 (by omega) hn] at c_18
  exact absurd c_18 (nI_nlt (by omega) (by omega))
theorem vc_Disk_writeHome_22_0 (a_b : Int32) (a_fr : Int32) (nar : Nat) (k_underWay : Int32) (k_homesUnderWay : Int64) (k_on : Int32) (k_stepsLeft : Int32) (k_steps : Int32) (k_down : Nat → Int32) (k_written : Nat → Int32) (k_order : Nat → Int32) (ar : Nat → Int32) (r_1 : Int32) (hpre : pr_Disk_writeHome a_b a_fr nar (k_underWay, k_homesUnderWay, k_on, k_stepsLeft, k_steps, k_down, k_written, k_order) ar) (w_1 : po_isHome a_b r_1) (c_4 : ¬ r_1 = 0) (c_8 : ¬ a_fr < 0) (c_18 : ¬ ((nI nar) - 256) < a_fr) : pr_Disk_makeStep (k_underWay, k_homesUnderWay, k_on, k_stepsLeft, k_steps, k_down, k_written, k_order) := by
  trivial
theorem vc_Disk_writeHome_44_0 (a_b : Int32) (a_fr : Int32) (nar : Nat) (k_underWay : Int32) (k_homesUnderWay : Int64) (k_on : Int32) (k_stepsLeft : Int32) (k_steps : Int32) (k_down : Nat → Int32) (k_written : Nat → Int32) (k_order : Nat → Int32) (ar : Nat → Int32) (r_1 : Int32) (r_22 : Int32) (k_on_22 : Int32) (k_stepsLeft_22 : Int32) (k_steps_22 : Int32) (hpre : pr_Disk_writeHome a_b a_fr nar (k_underWay, k_homesUnderWay, k_on, k_stepsLeft, k_steps, k_down, k_written, k_order) ar) (w_1 : po_isHome a_b r_1) (c_4 : ¬ r_1 = 0) (c_8 : ¬ a_fr < 0) (c_18 : ¬ ((nI nar) - 256) < a_fr) (w_22 : po_Disk_makeStep (k_underWay, k_homesUnderWay, k_on, k_stepsLeft, k_steps, k_down, k_written, k_order) r_22 (k_underWay, k_homesUnderWay, k_on_22, k_stepsLeft_22, k_steps_22, k_down, k_written, k_order)) (c_25 : ¬ r_22 = 0) : ¬ a_fr < 0 ∧ ¬ (a_b * 256) < 0 ∧ ¬ (256 : Int32) < 0 ∧ (a_fr).toNatClampNeg + (256 : Int32).toNatClampNeg ≤ nar ∧ ((a_b * 256)).toNatClampNeg + (256 : Int32).toNatClampNeg ≤ 16384 ∧ ∀ i, i < (256 : Int32).toNatClampNeg → fits .byte (.int (ar ((a_fr).toNatClampNeg + i))) = true := by
  obtain ⟨d, q, x, hd, hl, rfl, hq, rfl, hx, hn, hf⟩ := hpre
  have e : nI q * 256 = nI (q * 256) := pk_mul q 256
  have e2 : (256 : Int32).toNatClampNeg = 256 := by decide
  rw [e, e2, nI_clamp (n := x) (by omega), nI_clamp (n := q * 256) (by omega)]
  exact ⟨nI_pos (by omega), nI_pos (by omega), by decide, by omega, by omega, fun i _ => hf _⟩
theorem vc_Disk_writeHome_52_0 (a_b : Int32) (a_fr : Int32) (nar : Nat) (k_underWay : Int32) (k_homesUnderWay : Int64) (k_on : Int32) (k_stepsLeft : Int32) (k_steps : Int32) (k_down : Nat → Int32) (k_written : Nat → Int32) (k_order : Nat → Int32) (ar : Nat → Int32) (r_1 : Int32) (r_22 : Int32) (k_on_22 : Int32) (k_stepsLeft_22 : Int32) (k_steps_22 : Int32) (hpre : pr_Disk_writeHome a_b a_fr nar (k_underWay, k_homesUnderWay, k_on, k_stepsLeft, k_steps, k_down, k_written, k_order) ar) (w_1 : po_isHome a_b r_1) (c_4 : ¬ r_1 = 0) (c_8 : ¬ a_fr < 0) (c_18 : ¬ ((nI nar) - 256) < a_fr) (w_22 : po_Disk_makeStep (k_underWay, k_homesUnderWay, k_on, k_stepsLeft, k_steps, k_down, k_written, k_order) r_22 (k_underWay, k_homesUnderWay, k_on_22, k_stepsLeft_22, k_steps_22, k_down, k_written, k_order)) (c_25 : ¬ r_22 = 0) : pr_holds k_homesUnderWay a_b := by
  trivial
theorem vc_Disk_writeHome_77_0 (a_b : Int32) (a_fr : Int32) (nar : Nat) (k_underWay : Int32) (k_homesUnderWay : Int64) (k_on : Int32) (k_stepsLeft : Int32) (k_steps : Int32) (k_down : Nat → Int32) (k_written : Nat → Int32) (k_order : Nat → Int32) (ar : Nat → Int32) (r_1 : Int32) (r_22 : Int32) (k_on_22 : Int32) (k_stepsLeft_22 : Int32) (k_steps_22 : Int32) (r_52 : Int32) (hpre : pr_Disk_writeHome a_b a_fr nar (k_underWay, k_homesUnderWay, k_on, k_stepsLeft, k_steps, k_down, k_written, k_order) ar) (w_1 : po_isHome a_b r_1) (c_4 : ¬ r_1 = 0) (c_8 : ¬ a_fr < 0) (c_18 : ¬ ((nI nar) - 256) < a_fr) (w_22 : po_Disk_makeStep (k_underWay, k_homesUnderWay, k_on, k_stepsLeft, k_steps, k_down, k_written, k_order) r_22 (k_underWay, k_homesUnderWay, k_on_22, k_stepsLeft_22, k_steps_22, k_down, k_written, k_order)) (c_25 : ¬ r_22 = 0) (w_52 : po_holds k_homesUnderWay a_b r_52) (c_55 : ¬ r_52 = 0) : po_Disk_writeHome a_b a_fr nar (k_underWay, k_homesUnderWay, k_on, k_stepsLeft, k_steps, k_down, k_written, k_order) ar 1 (k_underWay, k_homesUnderWay, k_on_22, k_stepsLeft_22, k_steps_22, k_down, (va_cpy ar k_written (a_fr).toNatClampNeg ((a_b * 256)).toNatClampNeg (256 : Int32).toNatClampNeg), k_order) ar := by
  intro d q x hd hl hb hq hf hx hn
  subst hb hf
  obtain ⟨a, b⟩ := ms_RD hd w_22
  have hs := b2i_n0.mp (fun q => c_25 (a.trans q))
  obtain ⟨u, on, f, st, ba, ho⟩ := d
  rw [(st_t hs).2] at b
  rw [hm_t hs]
  have e : nI q * 256 = nI (q * 256) := pk_mul q 256
  have e2 : (256 : Int32).toNatClampNeg = 256 := by decide
  obtain ⟨b1, b2, b3, b4, b5, b6, b7, b8⟩ := b
  have hm : q ∈ u := by
    have h := it1.mp (fun z => c_55 (Eq.trans w_52 z))
    have h2 : ¬ bitt k_homesUnderWay q = false := fun z => h ((bt_holds _ hq).mpr z)
    rw [b3 q hq] at h2
    simpa using h2
  rw [if_pos hm, e, e2, nI_clamp (n := x) (by omega), nI_clamp (n := q * 256) (by omega), Nat.mul_comm q 256]
  exact ⟨rfl, b1, b2, b3, b4, b5, b6, b7, by rw [b8]⟩
theorem vc_Disk_writeHome_64_0 (a_b : Int32) (a_fr : Int32) (nar : Nat) (k_underWay : Int32) (k_homesUnderWay : Int64) (k_on : Int32) (k_stepsLeft : Int32) (k_steps : Int32) (k_down : Nat → Int32) (k_written : Nat → Int32) (k_order : Nat → Int32) (ar : Nat → Int32) (r_1 : Int32) (r_22 : Int32) (k_on_22 : Int32) (k_stepsLeft_22 : Int32) (k_steps_22 : Int32) (r_52 : Int32) (hpre : pr_Disk_writeHome a_b a_fr nar (k_underWay, k_homesUnderWay, k_on, k_stepsLeft, k_steps, k_down, k_written, k_order) ar) (w_1 : po_isHome a_b r_1) (c_4 : ¬ r_1 = 0) (c_8 : ¬ a_fr < 0) (c_18 : ¬ ((nI nar) - 256) < a_fr) (w_22 : po_Disk_makeStep (k_underWay, k_homesUnderWay, k_on, k_stepsLeft, k_steps, k_down, k_written, k_order) r_22 (k_underWay, k_homesUnderWay, k_on_22, k_stepsLeft_22, k_steps_22, k_down, k_written, k_order)) (c_25 : ¬ r_22 = 0) (w_52 : po_holds k_homesUnderWay a_b r_52) (c_55 : r_52 = 0) : pr_bit a_b := by
  trivial
theorem vc_Disk_writeHome_73_0 (a_b : Int32) (a_fr : Int32) (nar : Nat) (k_underWay : Int32) (k_homesUnderWay : Int64) (k_on : Int32) (k_stepsLeft : Int32) (k_steps : Int32) (k_down : Nat → Int32) (k_written : Nat → Int32) (k_order : Nat → Int32) (ar : Nat → Int32) (r_1 : Int32) (r_22 : Int32) (k_on_22 : Int32) (k_stepsLeft_22 : Int32) (k_steps_22 : Int32) (r_52 : Int32) (r_64 : Int64) (v_68 : Int64) (hpre : pr_Disk_writeHome a_b a_fr nar (k_underWay, k_homesUnderWay, k_on, k_stepsLeft, k_steps, k_down, k_written, k_order) ar) (w_1 : po_isHome a_b r_1) (c_4 : ¬ r_1 = 0) (c_8 : ¬ a_fr < 0) (c_18 : ¬ ((nI nar) - 256) < a_fr) (w_22 : po_Disk_makeStep (k_underWay, k_homesUnderWay, k_on, k_stepsLeft, k_steps, k_down, k_written, k_order) r_22 (k_underWay, k_homesUnderWay, k_on_22, k_stepsLeft_22, k_steps_22, k_down, k_written, k_order)) (c_25 : ¬ r_22 = 0) (w_52 : po_holds k_homesUnderWay a_b r_52) (c_55 : r_52 = 0) (w_64 : po_bit a_b r_64) (e_68 : v_68 = (k_homesUnderWay ||| r_64)) : pr_Disk_putUnderWay a_b (k_underWay, v_68, k_on_22, k_stepsLeft_22, k_steps_22, k_down, (va_cpy ar k_written (a_fr).toNatClampNeg ((a_b * 256)).toNatClampNeg (256 : Int32).toNatClampNeg), k_order) := by
  obtain ⟨⟨u, on, f, st, ba, ho⟩, q, x, hd, hl, hr⟩ := hpre
  have hl : u.length < 200 := hl
  exact ⟨u.length, by omega, hd.1⟩
theorem vc_Disk_writeHome_77_1 (a_b : Int32) (a_fr : Int32) (nar : Nat) (k_underWay : Int32) (k_homesUnderWay : Int64) (k_on : Int32) (k_stepsLeft : Int32) (k_steps : Int32) (k_down : Nat → Int32) (k_written : Nat → Int32) (k_order : Nat → Int32) (ar : Nat → Int32) (r_1 : Int32) (r_22 : Int32) (k_on_22 : Int32) (k_stepsLeft_22 : Int32) (k_steps_22 : Int32) (r_52 : Int32) (r_64 : Int64) (v_68 : Int64) (k_underWay_73 : Int32) (k_order_73 : Nat → Int32) (hpre : pr_Disk_writeHome a_b a_fr nar (k_underWay, k_homesUnderWay, k_on, k_stepsLeft, k_steps, k_down, k_written, k_order) ar) (w_1 : po_isHome a_b r_1) (c_4 : ¬ r_1 = 0) (c_8 : ¬ a_fr < 0) (c_18 : ¬ ((nI nar) - 256) < a_fr) (w_22 : po_Disk_makeStep (k_underWay, k_homesUnderWay, k_on, k_stepsLeft, k_steps, k_down, k_written, k_order) r_22 (k_underWay, k_homesUnderWay, k_on_22, k_stepsLeft_22, k_steps_22, k_down, k_written, k_order)) (c_25 : ¬ r_22 = 0) (w_52 : po_holds k_homesUnderWay a_b r_52) (c_55 : r_52 = 0) (w_64 : po_bit a_b r_64) (e_68 : v_68 = (k_homesUnderWay ||| r_64)) (w_73 : po_Disk_putUnderWay a_b (k_underWay, v_68, k_on_22, k_stepsLeft_22, k_steps_22, k_down, (va_cpy ar k_written (a_fr).toNatClampNeg ((a_b * 256)).toNatClampNeg (256 : Int32).toNatClampNeg), k_order) (k_underWay_73, v_68, k_on_22, k_stepsLeft_22, k_steps_22, k_down, (va_cpy ar k_written (a_fr).toNatClampNeg ((a_b * 256)).toNatClampNeg (256 : Int32).toNatClampNeg), k_order_73)) : po_Disk_writeHome a_b a_fr nar (k_underWay, k_homesUnderWay, k_on, k_stepsLeft, k_steps, k_down, k_written, k_order) ar 1 (k_underWay_73, v_68, k_on_22, k_stepsLeft_22, k_steps_22, k_down, (va_cpy ar k_written (a_fr).toNatClampNeg ((a_b * 256)).toNatClampNeg (256 : Int32).toNatClampNeg), k_order_73) ar := by
  intro d q x hd hl hb hq hf hx hn
  subst hb hf
  obtain ⟨a, b⟩ := ms_RD hd w_22
  have hs := b2i_n0.mp (fun q => c_25 (a.trans q))
  obtain ⟨u, on, f, st, ba, ho⟩ := d
  rw [(st_t hs).2] at b
  rw [hm_t hs]
  have e : nI q * 256 = nI (q * 256) := pk_mul q 256
  have e2 : (256 : Int32).toNatClampNeg = 256 := by decide
  obtain ⟨b1, b2, b3, b4, b5, b6, b7, b8⟩ := b
  have hl : u.length < 200 := hl
  have hm : ¬ q ∈ u := by
    have h := it0.mp (Eq.trans (Eq.symm w_52) c_55)
    have h2 : bitt k_homesUnderWay q = false := (bt_holds _ hq).mp h
    rw [b3 q hq] at h2
    simpa using h2
  have w : (k_underWay_73, v_68, k_on_22, k_stepsLeft_22, k_steps_22, k_down, (va_cpy ar k_written (nI x).toNatClampNeg (nI q * 256).toNatClampNeg (256 : Int32).toNatClampNeg), k_order_73) = ((k_underWay + 1, v_68, k_on_22, k_stepsLeft_22, k_steps_22, k_down, (va_cpy ar k_written (nI x).toNatClampNeg (nI q * 256).toNatClampNeg (256 : Int32).toNatClampNeg), upd k_order k_underWay.toNatClampNeg (nI q)) : DKt) := w_73
  rw [w, if_neg hm, e, e2, nI_clamp (n := x) (by omega), nI_clamp (n := q * 256) (by omega), Nat.mul_comm q 256]
  refine ⟨rfl, ?_, ?_, ?_, b4, b5, b6, b7, by rw [b8]⟩
  · rw [b1, nI_1]; simp
  · rw [b1, nI_clamp (by omega)]; exact put_ord b2
  · intro c hc
    have w64 : r_64 = bit1 q := w_64
    rw [e_68, w64, bt_or, b3 c hc, bt_bit1 hq]
    simp
theorem vc_Disk_writeHome_29_3 (a_b : Int32) (a_fr : Int32) (nar : Nat) (k_underWay : Int32) (k_homesUnderWay : Int64) (k_on : Int32) (k_stepsLeft : Int32) (k_steps : Int32) (k_down : Nat → Int32) (k_written : Nat → Int32) (k_order : Nat → Int32) (ar : Nat → Int32) (r_1 : Int32) (r_22 : Int32) (k_on_22 : Int32) (k_stepsLeft_22 : Int32) (k_steps_22 : Int32) (hpre : pr_Disk_writeHome a_b a_fr nar (k_underWay, k_homesUnderWay, k_on, k_stepsLeft, k_steps, k_down, k_written, k_order) ar) (w_1 : po_isHome a_b r_1) (c_4 : ¬ r_1 = 0) (c_8 : ¬ a_fr < 0) (c_18 : ¬ ((nI nar) - 256) < a_fr) (w_22 : po_Disk_makeStep (k_underWay, k_homesUnderWay, k_on, k_stepsLeft, k_steps, k_down, k_written, k_order) r_22 (k_underWay, k_homesUnderWay, k_on_22, k_stepsLeft_22, k_steps_22, k_down, k_written, k_order)) (c_25 : r_22 = 0) : po_Disk_writeHome a_b a_fr nar (k_underWay, k_homesUnderWay, k_on, k_stepsLeft, k_steps, k_down, k_written, k_order) ar 0 (k_underWay, k_homesUnderWay, k_on_22, k_stepsLeft_22, k_steps_22, k_down, k_written, k_order) ar := by
  intro d q x hd hl hb hq hf hx hn
  obtain ⟨a, b⟩ := ms_RD hd w_22
  have hs := b2i_0.mp (a.symm.trans c_25)
  rw [hm_f hs]
  exact ⟨rfl, b⟩
def iv_Disk_barrier_11 (k0 : DKt) (x1 : Int32) (k : DKt) : Prop := ∃ i : Nat, x1 = nI i ∧ ∀ d : Dk, RD d k0 → DW d → i ≤ d.1.length ∧ (sStep d).1 = true ∧ RD (wB (sStep d).2 (dAll d.2.2.2.2.2 (d.1.take i) d.2.2.2.2.1)) k
def mu_Disk_barrier_11 (k0 : DKt) (x1 : Int32) (_ : DKt) : Nat := k0.1.toNatClampNeg - x1.toNatClampNeg

theorem vc_Disk_barrier_40_0 (k_underWay : Int32) (k_homesUnderWay : Int64) (k_on : Int32) (k_stepsLeft : Int32) (k_steps : Int32) (k_down : Nat → Int32) (k_written : Nat → Int32) (k_order : Nat → Int32) (x1 : Int32) (k_underWay_i : Int32) (k_homesUnderWay_i : Int64) (k_on_i : Int32) (k_stepsLeft_i : Int32) (k_steps_i : Int32) (k_down_i : Nat → Int32) (hpre : pr_Disk_barrier (k_underWay, k_homesUnderWay, k_on, k_stepsLeft, k_steps, k_down, k_written, k_order)) (hinv : iv_Disk_barrier_11 (k_underWay, k_homesUnderWay, k_on, k_stepsLeft, k_steps, k_down, k_written, k_order) x1 (k_underWay_i, k_homesUnderWay_i, k_on_i, k_stepsLeft_i, k_steps_i, k_down_i, k_written, k_order)) (c_16 : k_underWay_i ≤ x1) : pr_Disk_forgetUnderWay (k_underWay_i, k_homesUnderWay_i, k_on_i, k_stepsLeft_i, k_steps_i, k_down_i, k_written, k_order) := by
  trivial
theorem vc_Disk_barrier_44_0 (k_underWay : Int32) (k_homesUnderWay : Int64) (k_on : Int32) (k_stepsLeft : Int32) (k_steps : Int32) (k_down : Nat → Int32) (k_written : Nat → Int32) (k_order : Nat → Int32) (x1 : Int32) (k_underWay_i : Int32) (k_homesUnderWay_i : Int64) (k_on_i : Int32) (k_stepsLeft_i : Int32) (k_steps_i : Int32) (k_down_i : Nat → Int32) (k_underWay_40 : Int32) (k_homesUnderWay_40 : Int64) (hpre : pr_Disk_barrier (k_underWay, k_homesUnderWay, k_on, k_stepsLeft, k_steps, k_down, k_written, k_order)) (hinv : iv_Disk_barrier_11 (k_underWay, k_homesUnderWay, k_on, k_stepsLeft, k_steps, k_down, k_written, k_order) x1 (k_underWay_i, k_homesUnderWay_i, k_on_i, k_stepsLeft_i, k_steps_i, k_down_i, k_written, k_order)) (c_16 : k_underWay_i ≤ x1) (w_40 : po_Disk_forgetUnderWay (k_underWay_i, k_homesUnderWay_i, k_on_i, k_stepsLeft_i, k_steps_i, k_down_i, k_written, k_order) (k_underWay_40, k_homesUnderWay_40, k_on_i, k_stepsLeft_i, k_steps_i, k_down_i, k_written, k_order)) : po_Disk_barrier (k_underWay, k_homesUnderWay, k_on, k_stepsLeft, k_steps, k_down, k_written, k_order) 1 (k_underWay_40, k_homesUnderWay_40, k_on_i, k_stepsLeft_i, k_steps_i, k_down_i, k_written, k_order) := by
  intro d hd hw
  obtain ⟨i, rfl, h⟩ := hinv
  obtain ⟨h1, hs, h3⟩ := h d hd hw
  obtain ⟨u, on, f, st, ba, ho⟩ := d
  rw [(st_t hs).2] at h3
  obtain ⟨b1, b2, b3, b4, b5, b6, b7, b8⟩ := h3
  have hl : u.length ≤ 200 := hw.1
  have h1 : i ≤ u.length := h1
  rw [b1] at c_16
  have h2 : u.length ≤ i := (nI_leI (by show u.length < _; omega) (by omega)).mp c_16
  rw [bar_t hs]
  have w : (k_underWay_40, k_homesUnderWay_40, k_on_i, k_stepsLeft_i, k_steps_i, k_down_i, k_written, k_order) = ((0, 0, k_on_i, k_stepsLeft_i, k_steps_i, k_down_i, k_written, k_order) : DKt) := w_40
  rw [w]
  refine ⟨rfl, rfl, fun j hj => absurd hj (Nat.not_lt_zero _), fun c _ => by rw [bt_zero]; rfl, b4, b5, b6, ?_, b8⟩
  rw [b7]
  show dAll ho (u.take i) ba = dAll ho u ba
  rw [List.take_of_length_le h2]
theorem vc_Disk_barrier_25_0 (k_underWay : Int32) (k_homesUnderWay : Int64) (k_on : Int32) (k_stepsLeft : Int32) (k_steps : Int32) (k_down : Nat → Int32) (k_written : Nat → Int32) (k_order : Nat → Int32) (x1 : Int32) (k_underWay_i : Int32) (k_homesUnderWay_i : Int64) (k_on_i : Int32) (k_stepsLeft_i : Int32) (k_steps_i : Int32) (k_down_i : Nat → Int32) (hpre : pr_Disk_barrier (k_underWay, k_homesUnderWay, k_on, k_stepsLeft, k_steps, k_down, k_written, k_order)) (hinv : iv_Disk_barrier_11 (k_underWay, k_homesUnderWay, k_on, k_stepsLeft, k_steps, k_down, k_written, k_order) x1 (k_underWay_i, k_homesUnderWay_i, k_on_i, k_stepsLeft_i, k_steps_i, k_down_i, k_written, k_order)) (c_16 : ¬ k_underWay_i ≤ x1) : vp_in x1 264 := by
  obtain ⟨d, hd, hw⟩ := hpre
  obtain ⟨i, rfl, h⟩ := hinv
  obtain ⟨h1, hs, h3⟩ := h d hd hw
  obtain ⟨u, on, f, st, ba, ho⟩ := d
  rw [(st_t hs).2] at h3
  have hl : u.length ≤ 200 := hw.1
  have h1 : i ≤ u.length := h1
  have b1 : k_underWay_i = nI u.length := h3.1
  have h2 : ¬ u.length ≤ i := fun z => c_16 (by rw [b1]; exact nI_le z (by omega))
  exact vp_in_nI (by omega) (by decide)
theorem vc_Disk_barrier_30_0 (k_underWay : Int32) (k_homesUnderWay : Int64) (k_on : Int32) (k_stepsLeft : Int32) (k_steps : Int32) (k_down : Nat → Int32) (k_written : Nat → Int32) (k_order : Nat → Int32) (x1 : Int32) (k_underWay_i : Int32) (k_homesUnderWay_i : Int64) (k_on_i : Int32) (k_stepsLeft_i : Int32) (k_steps_i : Int32) (k_down_i : Nat → Int32) (v_25 : Int32) (hpre : pr_Disk_barrier (k_underWay, k_homesUnderWay, k_on, k_stepsLeft, k_steps, k_down, k_written, k_order)) (hinv : iv_Disk_barrier_11 (k_underWay, k_homesUnderWay, k_on, k_stepsLeft, k_steps, k_down, k_written, k_order) x1 (k_underWay_i, k_homesUnderWay_i, k_on_i, k_stepsLeft_i, k_steps_i, k_down_i, k_written, k_order)) (c_16 : ¬ k_underWay_i ≤ x1) (e_25 : v_25 = (k_order (x1).toNatClampNeg)) : pr_Disk_bringDown v_25 0 256 (k_underWay_i, k_homesUnderWay_i, k_on_i, k_stepsLeft_i, k_steps_i, k_down_i, k_written, k_order) := by
  obtain ⟨d, hd, hw⟩ := hpre
  obtain ⟨i, rfl, h⟩ := hinv
  obtain ⟨h1, hs, h3⟩ := h d hd hw
  obtain ⟨u, on, f, st, ba, ho⟩ := d
  rw [(st_t hs).2] at h3
  obtain ⟨b1, b2, b3, b4, b5, b6, b7, b8⟩ := h3
  have hl : u.length ≤ 200 := hw.1
  have h1 : i ≤ u.length := h1
  have h2 : ¬ u.length ≤ i := fun z => c_16 (by rw [b1]; exact nI_le z (by omega))
  have b2 : k_order i = nI (u.getD i 0) := b2 i (by show i < u.length; omega)
  rw [nI_clamp (by omega), b2] at e_25
  refine ⟨by rw [b8]; exact hw.2.2.2, u.getD i 0, 0, 256, e_25, hw.2.1 _ (getD_mem (by omega)), rfl, rfl, by decide⟩
theorem vc_Disk_barrier_36_0 (k_underWay : Int32) (k_homesUnderWay : Int64) (k_on : Int32) (k_stepsLeft : Int32) (k_steps : Int32) (k_down : Nat → Int32) (k_written : Nat → Int32) (k_order : Nat → Int32) (x1 : Int32) (k_underWay_i : Int32) (k_homesUnderWay_i : Int64) (k_on_i : Int32) (k_stepsLeft_i : Int32) (k_steps_i : Int32) (k_down_i : Nat → Int32) (v_25 : Int32) (k_down_30 : Nat → Int32) (v_33 : Int32) (hpre : pr_Disk_barrier (k_underWay, k_homesUnderWay, k_on, k_stepsLeft, k_steps, k_down, k_written, k_order)) (hinv : iv_Disk_barrier_11 (k_underWay, k_homesUnderWay, k_on, k_stepsLeft, k_steps, k_down, k_written, k_order) x1 (k_underWay_i, k_homesUnderWay_i, k_on_i, k_stepsLeft_i, k_steps_i, k_down_i, k_written, k_order)) (c_16 : ¬ k_underWay_i ≤ x1) (e_25 : v_25 = (k_order (x1).toNatClampNeg)) (w_30 : po_Disk_bringDown v_25 0 256 (k_underWay_i, k_homesUnderWay_i, k_on_i, k_stepsLeft_i, k_steps_i, k_down_i, k_written, k_order) (k_underWay_i, k_homesUnderWay_i, k_on_i, k_stepsLeft_i, k_steps_i, k_down_30, k_written, k_order)) (e_33 : v_33 = x1 + 1) : iv_Disk_barrier_11 (k_underWay, k_homesUnderWay, k_on, k_stepsLeft, k_steps, k_down, k_written, k_order) v_33 (k_underWay_i, k_homesUnderWay_i, k_on_i, k_stepsLeft_i, k_steps_i, k_down_30, k_written, k_order) ∧ mu_Disk_barrier_11 (k_underWay, k_homesUnderWay, k_on, k_stepsLeft, k_steps, k_down, k_written, k_order) v_33 (k_underWay_i, k_homesUnderWay_i, k_on_i, k_stepsLeft_i, k_steps_i, k_down_30, k_written, k_order) < mu_Disk_barrier_11 (k_underWay, k_homesUnderWay, k_on, k_stepsLeft, k_steps, k_down, k_written, k_order) x1 (k_underWay_i, k_homesUnderWay_i, k_on_i, k_stepsLeft_i, k_steps_i, k_down_i, k_written, k_order) := by
  obtain ⟨i, rfl, h⟩ := hinv
  obtain ⟨d0, hd0, hw0⟩ := hpre
  have key : ∀ d : Dk, RD d (k_underWay, k_homesUnderWay, k_on, k_stepsLeft, k_steps, k_down, k_written, k_order) → DW d → i < d.1.length ∧ (sStep d).1 = true ∧ RD (wB (sStep d).2 (dAll d.2.2.2.2.2 (d.1.take (i + 1)) d.2.2.2.2.1)) (k_underWay_i, k_homesUnderWay_i, k_on_i, k_stepsLeft_i, k_steps_i, k_down_30, k_written, k_order) := by
    intro d hd hw
    obtain ⟨h1, hs, h3⟩ := h d hd hw
    obtain ⟨u, on, f, st, ba, ho⟩ := d
    rw [(st_t hs).2] at h3
    obtain ⟨b1, b2, b3, b4, b5, b6, b7, b8⟩ := h3
    have hl : u.length ≤ 200 := hw.1
    have h1 : i ≤ u.length := h1
    have h2 : ¬ u.length ≤ i := fun z => c_16 (by rw [b1]; exact nI_le z (by omega))
    have b2' : k_order i = nI (u.getD i 0) := b2 i (by show i < u.length; omega)
    rw [nI_clamp (by omega), b2'] at e_25
    have hq := hw.2.1 _ (getD_mem (u := u) (i := i) (by omega))
    have w := w_30 (u.getD i 0) 0 256 e_25 hq rfl rfl (by decide)
    have w7 : k_down_30 = (if u.getD i 0 < 64 then va_cpy k_written k_down_i (u.getD i 0 * 256 + 0) (u.getD i 0 * 256 + 0) 256 else k_down_i) := congrArg (fun z : DKt => z.2.2.2.2.2.1) w
    refine ⟨by show i < u.length; omega, hs, ?_⟩
    rw [(st_t hs).2]
    refine ⟨b1, b2, b3, b4, b5, b6, ?_, b8⟩
    rw [w7, b7, b8]
    show _ = dAll ho (u.take (i + 1)) ba
    rw [take_succ_getD (by omega), dAll_app, Nat.add_zero, Nat.mul_comm]
  obtain ⟨h1, -, h3⟩ := key d0 hd0 hw0
  obtain ⟨u, on, f, st, ba, ho⟩ := d0
  have hl : u.length ≤ 200 := hw0.1
  have h1 : i < u.length := h1
  have b1 : k_underWay = nI u.length := hd0.1
  refine ⟨⟨i + 1, by rw [e_33]; exact nI_1 i, fun d hd hw => ?_⟩, ?_⟩
  · obtain ⟨g1, g2, g3⟩ := key d hd hw
    exact ⟨g1, g2, g3⟩
  · show k_underWay.toNatClampNeg - v_33.toNatClampNeg < k_underWay.toNatClampNeg - (nI i).toNatClampNeg
    rw [e_33, nI_1, b1, nI_clamp (n := u.length) (by omega), nI_clamp (n := i + 1) (by omega), nI_clamp (n := i) (by omega)]
    omega
theorem vc_Disk_barrier_1_0 (k_underWay : Int32) (k_homesUnderWay : Int64) (k_on : Int32) (k_stepsLeft : Int32) (k_steps : Int32) (k_down : Nat → Int32) (k_written : Nat → Int32) (k_order : Nat → Int32) (hpre : pr_Disk_barrier (k_underWay, k_homesUnderWay, k_on, k_stepsLeft, k_steps, k_down, k_written, k_order)) : pr_Disk_makeStep (k_underWay, k_homesUnderWay, k_on, k_stepsLeft, k_steps, k_down, k_written, k_order) := by
  trivial
theorem vc_Disk_barrier_10_0 (k_underWay : Int32) (k_homesUnderWay : Int64) (k_on : Int32) (k_stepsLeft : Int32) (k_steps : Int32) (k_down : Nat → Int32) (k_written : Nat → Int32) (k_order : Nat → Int32) (r_1 : Int32) (k_on_1 : Int32) (k_stepsLeft_1 : Int32) (k_steps_1 : Int32) (hpre : pr_Disk_barrier (k_underWay, k_homesUnderWay, k_on, k_stepsLeft, k_steps, k_down, k_written, k_order)) (w_1 : po_Disk_makeStep (k_underWay, k_homesUnderWay, k_on, k_stepsLeft, k_steps, k_down, k_written, k_order) r_1 (k_underWay, k_homesUnderWay, k_on_1, k_stepsLeft_1, k_steps_1, k_down, k_written, k_order)) (c_4 : ¬ r_1 = 0) : iv_Disk_barrier_11 (k_underWay, k_homesUnderWay, k_on, k_stepsLeft, k_steps, k_down, k_written, k_order) 0 (k_underWay, k_homesUnderWay, k_on_1, k_stepsLeft_1, k_steps_1, k_down, k_written, k_order) ∧ True := by
  refine ⟨⟨0, rfl, fun d hd hw => ?_⟩, trivial⟩
  obtain ⟨a, b⟩ := ms_RD hd w_1
  have hs := b2i_n0.mp (fun q => c_4 (a.trans q))
  refine ⟨Nat.zero_le _, hs, ?_⟩
  obtain ⟨u, on, f, st, ba, ho⟩ := d
  rw [(st_t hs).2] at b ⊢
  exact b
theorem vc_Disk_barrier_8_0 (k_underWay : Int32) (k_homesUnderWay : Int64) (k_on : Int32) (k_stepsLeft : Int32) (k_steps : Int32) (k_down : Nat → Int32) (k_written : Nat → Int32) (k_order : Nat → Int32) (r_1 : Int32) (k_on_1 : Int32) (k_stepsLeft_1 : Int32) (k_steps_1 : Int32) (hpre : pr_Disk_barrier (k_underWay, k_homesUnderWay, k_on, k_stepsLeft, k_steps, k_down, k_written, k_order)) (w_1 : po_Disk_makeStep (k_underWay, k_homesUnderWay, k_on, k_stepsLeft, k_steps, k_down, k_written, k_order) r_1 (k_underWay, k_homesUnderWay, k_on_1, k_stepsLeft_1, k_steps_1, k_down, k_written, k_order)) (c_4 : r_1 = 0) : po_Disk_barrier (k_underWay, k_homesUnderWay, k_on, k_stepsLeft, k_steps, k_down, k_written, k_order) 0 (k_underWay, k_homesUnderWay, k_on_1, k_stepsLeft_1, k_steps_1, k_down, k_written, k_order) := by
  intro d hd hw
  obtain ⟨a, b⟩ := ms_RD hd w_1
  have hs := b2i_0.mp (a.symm.trans c_4)
  rw [bar_f hs]
  exact ⟨rfl, b⟩
theorem idxOf_first {u : List Nat} {i n : Nat} (hi : i < u.length) (h : u.getD i 0 = n) (hb : ∀ j, j < i → u.getD j 0 ≠ n) : u.idxOf n = i := by
  induction u generalizing i with
  | nil => exact absurd hi (Nat.not_lt_zero _)
  | cons a u ih =>
    cases i with
    | zero =>
      have h : a = n := h
      subst h
      exact List.idxOf_cons_self
    | succ i =>
      have ha : a ≠ n := hb 0 (Nat.succ_pos _)
      have hx : (a == n) = false := by simpa using ha
      rw [List.idxOf_cons, hx, ih (i := i) (Nat.lt_of_succ_lt_succ hi) h (fun j hj => hb (j + 1) (Nat.succ_lt_succ hj))]
      rfl
theorem mem_getD {u : List Nat} {n : Nat} (h : n ∈ u) : ∃ i, i < u.length ∧ u.getD i 0 = n := by
  obtain ⟨i, hi, e⟩ := List.getElem_of_mem h
  exact ⟨i, hi, by rw [getD_get hi]; exact e⟩
def iv_Disk_placeUnderWay_2 (q : Int32) (k0 : DKt) (x2 : Int32) (_ : DKt) : Prop := ∃ i : Nat, x2 = nI i ∧ ∀ d : Dk, RD d k0 → DW d → i ≤ d.1.length ∧ ∀ j, j < i → nI (d.1.getD j 0) ≠ q
def mu_Disk_placeUnderWay_2 (_ : Int32) (k0 : DKt) (x2 : Int32) (_ : DKt) : Nat := k0.1.toNatClampNeg - x2.toNatClampNeg

theorem vc_Disk_placeUnderWay_29_0 (a_q : Int32) (k_underWay : Int32) (k_homesUnderWay : Int64) (k_on : Int32) (k_stepsLeft : Int32) (k_steps : Int32) (k_down : Nat → Int32) (k_written : Nat → Int32) (k_order : Nat → Int32) (x2 : Int32) (hpre : pr_Disk_placeUnderWay a_q (k_underWay, k_homesUnderWay, k_on, k_stepsLeft, k_steps, k_down, k_written, k_order)) (hinv : iv_Disk_placeUnderWay_2 a_q (k_underWay, k_homesUnderWay, k_on, k_stepsLeft, k_steps, k_down, k_written, k_order) x2 (k_underWay, k_homesUnderWay, k_on, k_stepsLeft, k_steps, k_down, k_written, k_order)) (c_7 : k_underWay ≤ x2) : po_Disk_placeUnderWay a_q (k_underWay, k_homesUnderWay, k_on, k_stepsLeft, k_steps, k_down, k_written, k_order) (-1) := by
  intro d n hd hw hq hn
  obtain ⟨i, rfl, h⟩ := hinv
  obtain ⟨h1, h2⟩ := h d hd hw
  obtain ⟨u, on, f, st, ba, ho⟩ := d
  obtain ⟨b1, b2, b3, b4, b5, b6, b7, b8⟩ := hd
  have hl : u.length ≤ 200 := hw.1
  have h1 : i ≤ u.length := h1
  rw [b1] at c_7
  have h3 : u.length ≤ i := (nI_leI (by omega) (by omega)).mp c_7
  rw [if_neg]
  intro hm
  obtain ⟨j, hj, e⟩ := mem_getD (u := u) hm
  exact h2 j (by omega) (by rw [hq]; show nI (u.getD j 0) = _; rw [e])
theorem vc_Disk_placeUnderWay_15_0 (a_q : Int32) (k_underWay : Int32) (k_homesUnderWay : Int64) (k_on : Int32) (k_stepsLeft : Int32) (k_steps : Int32) (k_down : Nat → Int32) (k_written : Nat → Int32) (k_order : Nat → Int32) (x2 : Int32) (hpre : pr_Disk_placeUnderWay a_q (k_underWay, k_homesUnderWay, k_on, k_stepsLeft, k_steps, k_down, k_written, k_order)) (hinv : iv_Disk_placeUnderWay_2 a_q (k_underWay, k_homesUnderWay, k_on, k_stepsLeft, k_steps, k_down, k_written, k_order) x2 (k_underWay, k_homesUnderWay, k_on, k_stepsLeft, k_steps, k_down, k_written, k_order)) (c_7 : ¬ k_underWay ≤ x2) : vp_in x2 264 := by
  obtain ⟨d, hd, hw⟩ := hpre
  obtain ⟨i, rfl, h⟩ := hinv
  obtain ⟨h1, h2⟩ := h d hd hw
  obtain ⟨u, on, f, st, ba, ho⟩ := d
  have hl : u.length ≤ 200 := hw.1
  have h1 : i ≤ u.length := h1
  have b1 : k_underWay = nI u.length := hd.1
  have h3 : ¬ u.length ≤ i := fun z => c_7 (by rw [b1]; exact nI_le z (by omega))
  exact vp_in_nI (by omega) (by decide)
theorem vc_Disk_placeUnderWay_25_0 (a_q : Int32) (k_underWay : Int32) (k_homesUnderWay : Int64) (k_on : Int32) (k_stepsLeft : Int32) (k_steps : Int32) (k_down : Nat → Int32) (k_written : Nat → Int32) (k_order : Nat → Int32) (x2 : Int32) (v_15 : Int32) (v_22 : Int32) (hpre : pr_Disk_placeUnderWay a_q (k_underWay, k_homesUnderWay, k_on, k_stepsLeft, k_steps, k_down, k_written, k_order)) (hinv : iv_Disk_placeUnderWay_2 a_q (k_underWay, k_homesUnderWay, k_on, k_stepsLeft, k_steps, k_down, k_written, k_order) x2 (k_underWay, k_homesUnderWay, k_on, k_stepsLeft, k_steps, k_down, k_written, k_order)) (c_7 : ¬ k_underWay ≤ x2) (e_15 : v_15 = (k_order (x2).toNatClampNeg)) (c_17 : ¬ v_15 = a_q) (e_22 : v_22 = x2 + 1) : iv_Disk_placeUnderWay_2 a_q (k_underWay, k_homesUnderWay, k_on, k_stepsLeft, k_steps, k_down, k_written, k_order) v_22 (k_underWay, k_homesUnderWay, k_on, k_stepsLeft, k_steps, k_down, k_written, k_order) ∧ mu_Disk_placeUnderWay_2 a_q (k_underWay, k_homesUnderWay, k_on, k_stepsLeft, k_steps, k_down, k_written, k_order) v_22 (k_underWay, k_homesUnderWay, k_on, k_stepsLeft, k_steps, k_down, k_written, k_order) < mu_Disk_placeUnderWay_2 a_q (k_underWay, k_homesUnderWay, k_on, k_stepsLeft, k_steps, k_down, k_written, k_order) x2 (k_underWay, k_homesUnderWay, k_on, k_stepsLeft, k_steps, k_down, k_written, k_order) := by
  obtain ⟨d0, hd0, hw0⟩ := hpre
  obtain ⟨i, rfl, h⟩ := hinv
  have key : ∀ d : Dk, RD d (k_underWay, k_homesUnderWay, k_on, k_stepsLeft, k_steps, k_down, k_written, k_order) → DW d → i < d.1.length ∧ ∀ j, j < i + 1 → nI (d.1.getD j 0) ≠ a_q := by
    intro d hd hw
    obtain ⟨h1, h2⟩ := h d hd hw
    obtain ⟨u, on, f, st, ba, ho⟩ := d
    obtain ⟨b1, b2, -⟩ := hd
    have hl : u.length ≤ 200 := hw.1
    have h1 : i ≤ u.length := h1
    have h3 : ¬ u.length ≤ i := fun z => c_7 (by rw [b1]; exact nI_le z (by omega))
    refine ⟨by show i < u.length; omega, fun j hj => ?_⟩
    by_cases q : j = i
    · subst q
      intro z
      exact c_17 (by rw [e_15, nI_clamp (by omega), b2 j (by omega)]; exact z)
    · exact h2 j (by omega)
  obtain ⟨h1, -⟩ := key d0 hd0 hw0
  obtain ⟨u, on, f, st, ba, ho⟩ := d0
  have hl : u.length ≤ 200 := hw0.1
  have h1 : i < u.length := h1
  have b1 : k_underWay = nI u.length := hd0.1
  refine ⟨⟨i + 1, by rw [e_22]; exact nI_1 i, fun d hd hw => ?_⟩, ?_⟩
  · obtain ⟨g1, g2⟩ := key d hd hw
    exact ⟨g1, g2⟩
  · show k_underWay.toNatClampNeg - v_22.toNatClampNeg < k_underWay.toNatClampNeg - (nI i).toNatClampNeg
    rw [e_22, nI_1, b1, nI_clamp (n := u.length) (by omega), nI_clamp (n := i + 1) (by omega), nI_clamp (n := i) (by omega)]
    omega
theorem vc_Disk_placeUnderWay_21_0 (a_q : Int32) (k_underWay : Int32) (k_homesUnderWay : Int64) (k_on : Int32) (k_stepsLeft : Int32) (k_steps : Int32) (k_down : Nat → Int32) (k_written : Nat → Int32) (k_order : Nat → Int32) (x2 : Int32) (v_15 : Int32) (hpre : pr_Disk_placeUnderWay a_q (k_underWay, k_homesUnderWay, k_on, k_stepsLeft, k_steps, k_down, k_written, k_order)) (hinv : iv_Disk_placeUnderWay_2 a_q (k_underWay, k_homesUnderWay, k_on, k_stepsLeft, k_steps, k_down, k_written, k_order) x2 (k_underWay, k_homesUnderWay, k_on, k_stepsLeft, k_steps, k_down, k_written, k_order)) (c_7 : ¬ k_underWay ≤ x2) (e_15 : v_15 = (k_order (x2).toNatClampNeg)) (c_17 : v_15 = a_q) : po_Disk_placeUnderWay a_q (k_underWay, k_homesUnderWay, k_on, k_stepsLeft, k_steps, k_down, k_written, k_order) x2 := by
  intro d n hd hw hq hn
  obtain ⟨i, rfl, h⟩ := hinv
  obtain ⟨h1, h2⟩ := h d hd hw
  obtain ⟨u, on, f, st, ba, ho⟩ := d
  obtain ⟨b1, b2, -⟩ := hd
  have hl : u.length ≤ 200 := hw.1
  have h1 : i ≤ u.length := h1
  have h3 : ¬ u.length ≤ i := fun z => c_7 (by rw [b1]; exact nI_le z (by omega))
  have hi : i < u.length := by omega
  have e : u.getD i 0 = n := by
    have z : nI (u.getD i 0) = nI n := by rw [← b2 i hi, ← hq, ← c_17, e_15, nI_clamp (by omega)]
    have hk := hw.2.1 _ (getD_mem hi)
    exact (nI_eq (by omega) (by omega)).mp z
  have hm : n ∈ u := by rw [← e]; exact getD_mem hi
  show nI i = if n ∈ u then nI (u.idxOf n) else -1
  rw [if_pos hm, idxOf_first hi e (fun j hj z => h2 j hj (by rw [hq]; show nI (u.getD j 0) = _; rw [z]))]
theorem vc_Disk_placeUnderWay_1_0 (a_q : Int32) (k_underWay : Int32) (k_homesUnderWay : Int64) (k_on : Int32) (k_stepsLeft : Int32) (k_steps : Int32) (k_down : Nat → Int32) (k_written : Nat → Int32) (k_order : Nat → Int32) (hpre : pr_Disk_placeUnderWay a_q (k_underWay, k_homesUnderWay, k_on, k_stepsLeft, k_steps, k_down, k_written, k_order)) : iv_Disk_placeUnderWay_2 a_q (k_underWay, k_homesUnderWay, k_on, k_stepsLeft, k_steps, k_down, k_written, k_order) 0 (k_underWay, k_homesUnderWay, k_on, k_stepsLeft, k_steps, k_down, k_written, k_order) ∧ True := by
  exact ⟨⟨0, rfl, fun d hd hw => ⟨Nat.zero_le _, fun j hj => absurd hj (Nat.not_lt_zero _)⟩⟩, trivial⟩
