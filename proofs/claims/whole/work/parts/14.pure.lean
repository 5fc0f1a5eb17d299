/-! pure rows on the disk -/
theorem n256 : (256 : Int32) = nI 256 := rfl
theorem n64 : (64 : Int32) = nI 64 := rfl
theorem n0 : (0 : Int32) = nI 0 := rfl
theorem n1 : (1 : Int32) = nI 1 := rfl
theorem nI_home {k : Nat} (h : k < 2 ^ 31) : (nI k < 0 ∨ 64 ≤ nI k) ↔ 64 ≤ k := by
  rw [n64, nI_leI (by decide) h]
  exact ⟨fun q => q.elim (fun z => absurd z (nI_pos h)) id, Or.inr⟩
theorem getD_get {u : List Nat} {i : Nat} (h : i < u.length) : u.getD i 0 = u[i] := by
  rw [List.getD_eq_getElem?_getD, List.getElem?_eq_getElem h]; rfl
theorem getD_mem {u : List Nat} {i : Nat} (h : i < u.length) : u.getD i 0 ∈ u := by
  rw [getD_get h]; exact List.getElem_mem h
theorem getD_app_l {u : List Nat} {k i : Nat} (h : i < u.length) : (u ++ [k]).getD i 0 = u.getD i 0 := by
  rw [getD_get (by simp; omega), getD_get h, List.getElem_append_left h]
theorem getD_app_r {u : List Nat} {k : Nat} : (u ++ [k]).getD u.length 0 = k := by
  rw [getD_get (by simp)]; simp
theorem dAll_app (ho : Nat → Int32) (k : Nat) : ∀ (u : List Nat) (ba : Nat → Int32), dAll ho (u ++ [k]) ba = if k < 64 then va_cpy ho (dAll ho u ba) (256 * k) (256 * k) 256 else dAll ho u ba := by
  intro u
  induction u with
  | nil => intro ba; rfl
  | cons a u ih => intro ba; exact ih _
theorem take_succ_getD {u : List Nat} {i : Nat} (h : i < u.length) : u.take (i + 1) = u.take i ++ [u.getD i 0] := by
  rw [getD_get h, List.take_append_getElem h]
theorem fit_cpy {f g : Nat → Int32} {sp dp n : Nat} (hf : sb_Fit f) (hg : sb_Fit g) : sb_Fit (va_cpy f g sp dp n) := sb_fitC hf hg
theorem fit_dAll {ho : Nat → Int32} (h : sb_Fit ho) : ∀ (u : List Nat) (ba : Nat → Int32), sb_Fit ba → sb_Fit (dAll ho u ba) := by
  intro u
  induction u with
  | nil => intro ba hb; exact hb
  | cons a u ih =>
    intro ba hb
    apply ih
    split
    · exact fit_cpy h hb
    · exact hb
/-- no more than n numbers below n are apart -/
theorem hs_len : ∀ (n : Nat) (u : List Nat), u.Nodup → (∀ k ∈ u, k < n) → u.length ≤ n := by
  intro n
  induction n with
  | zero =>
    intro u _ h
    cases u with
    | nil => exact Nat.le_refl _
    | cons a u => exact absurd (h a List.mem_cons_self) (Nat.not_lt_zero _)
  | succ n ih =>
    intro u hn h
    have h1 : (u.erase n).length ≤ n := ih (u.erase n) (hn.erase n) (fun k hk => by
      have h2 : k ∈ u := List.mem_of_mem_erase hk
      have h3 : k ≠ n := fun e => by subst e; exact (List.Nodup.not_mem_erase hn) hk
      have := h k h2
      omega)
    have h4 := List.length_erase_le (a := n) (l := u)
    have h5 : u.length ≤ (u.erase n).length + 1 := by
      by_cases hm : n ∈ u
      · rw [List.length_erase_of_mem hm]; omega
      · rw [List.erase_of_not_mem hm]; omega
    omega
