abbrev RM_Disk_makeStep : Room := { frames := 0, cells := 0, slots := 0, locals := 0 }
abbrev AV_Disk_makeStep (hDK : Nat) : List Value := [.ref hDK]
abbrev WS_Disk_makeStep (cB cI cJ cZ : ClassId) (hDK hk_down hk_written hk_order : Nat) (k_underWay : Int32) (k_homesUnderWay : Int64) (k_on : Int32) (k_stepsLeft : Int32) (k_steps : Int32) (k_down : Nat → Int32) (k_written : Nat → Int32) (k_order : Nat → Int32) : va_W := [(hDK, .inr (0, [.ref hk_down, .ref hk_written, .ref hk_order, .int k_underWay, .long k_homesUnderWay, .int k_on, .int k_stepsLeft, .int k_steps])), (hk_down, .inl (cB, 16384, .inl k_down)), (hk_written, .inl (cB, 16384, .inl k_written)), (hk_order, .inl (cI, 264, .inl k_order))]
abbrev WF_Disk_makeStep (cB cI cJ cZ : ClassId) (hDK hk_down hk_written hk_order : Nat) (k_underWay : Int32) (k_homesUnderWay : Int64) (k_down : Nat → Int32) (k_written : Nat → Int32) (k_order : Nat → Int32) : (Int32 × Int32 × Int32) → va_W := fun u => [(hDK, .inr (0, [.ref hk_down, .ref hk_written, .ref hk_order, .int k_underWay, .long k_homesUnderWay, .int u.1, .int u.2.1, .int u.2.2])), (hk_down, .inl (cB, 16384, .inl k_down)), (hk_written, .inl (cB, 16384, .inl k_written)), (hk_order, .inl (cI, 264, .inl k_order))]
abbrev PO_Disk_makeStep (k_underWay : Int32) (k_homesUnderWay : Int64) (k_on : Int32) (k_stepsLeft : Int32) (k_steps : Int32) (k_down : Nat → Int32) (k_written : Nat → Int32) (k_order : Nat → Int32) : Int32 → (Int32 × Int32 × Int32) → Prop := fun r u => po_Disk_makeStep (k_underWay, k_homesUnderWay, k_on, k_stepsLeft, k_steps, k_down, k_written, k_order) r (k_underWay, k_homesUnderWay, u.1, u.2.1, u.2.2, k_down, k_written, k_order)
set_option maxHeartbeats 4000000 in
set_option maxRecDepth 100000 in
theorem c_Disk_makeStep (l : Launch) (D : va_G) (cB cI cJ cZ : ClassId) (hDK hk_down hk_written hk_order : Nat) (sz : Nat) (k_underWay : Int32) (k_homesUnderWay : Int64) (k_on : Int32) (k_stepsLeft : Int32) (k_steps : Int32) (k_down : Nat → Int32) (k_written : Nat → Int32) (k_order : Nat → Int32) (hpre : pr_Disk_makeStep (k_underWay, k_homesUnderWay, k_on, k_stepsLeft, k_steps, k_down, k_written, k_order)) : ZMi l y_Disk_makeStep (Cond.code y_Disk_makeStep b_Disk_makeStep 1 (some .boolean) :: wA) RM_Disk_makeStep D vwCl (zTY cB cI cJ cZ) (AV_Disk_makeStep hDK) (WS_Disk_makeStep cB cI cJ cZ hDK hk_down hk_written hk_order k_underWay k_homesUnderWay k_on k_stepsLeft k_steps k_down k_written k_order) sz (PO_Disk_makeStep k_underWay k_homesUnderWay k_on k_stepsLeft k_steps k_down k_written k_order) (WF_Disk_makeStep cB cI cJ cZ hDK hk_down hk_written hk_order k_underWay k_homesUnderWay k_down k_written k_order) := by
  refine z_start_i (cc := b_Disk_makeStep) (maxL := 1) (ret := (some .boolean)) (own := "RedoJournal$Disk") (nm := "makeStep") (by decide) rfl rfl rfl (Nat.le_of_ble_eq_true rfl) ?_
  intro p e s m below meth c A ls C hK hz hA hP hD hS hl
  obtain ⟨hx, hb, hml, hown, hts, hr, hlocks, hnm⟩ := id C
  have hP : va_P D vwCl [(hDK, .inr (0, [.ref hk_down, .ref hk_written, .ref hk_order, .int k_underWay, .long k_homesUnderWay, .int k_on, .int k_stepsLeft, .int k_steps])), (hk_down, .inl (cB, 16384, .inl k_down)), (hk_written, .inl (cB, 16384, .inl k_written)), (hk_order, .inl (cI, 264, .inl k_order))] s.heap := hP
  have hD : va_D A [(hDK, .inr (0, [.ref hk_down, .ref hk_written, .ref hk_order, .int k_underWay, .long k_homesUnderWay, .int k_on, .int k_stepsLeft, .int k_steps])), (hk_down, .inl (cB, 16384, .inl k_down)), (hk_written, .inl (cB, 16384, .inl k_written)), (hk_order, .inl (cI, 264, .inl k_order))] := hD
  have hl : lv_has ls 1 [(0, .ref hDK)] := hl
  refine lv_aload_n hx hb d_Disk_makeStep_0 rfl (lv_at hl 0 rfl) ?_
  refine va_get (D := D) (ci := 0) (v := .int k_stepsLeft) (C := "RedoJournal$Disk") (T := TX0) (N := 8) hx hb hts (fun w h => List.mem_cons_of_mem _ (inX0 w h)) hown hK hP 0 rfl rfl 6 (by decide) (hts _ (List.mem_cons_of_mem _ mA_92)) (fun _ h9 => h9) rfl d_Disk_makeStep_1 ?_
  refine lv_if_ne (tgt := 19) hx hb d_Disk_makeStep_4 (by decide) (fun c_4 => ?_) (fun c_4 => ?_)
  · refine lv_aload_n hx hb d_Disk_makeStep_19 rfl (lv_at hl 0 rfl) ?_
    refine va_get (D := D) (ci := 0) (v := .int k_stepsLeft) (C := "RedoJournal$Disk") (T := TX0) (N := 8) hx hb hts (fun w h => List.mem_cons_of_mem _ (inX0 w h)) hown hK hP 0 rfl rfl 6 (by decide) (hts _ (List.mem_cons_of_mem _ mA_92)) (fun _ h9 => h9) rfl d_Disk_makeStep_20 ?_
    refine lv_if_le (tgt := 36) hx hb d_Disk_makeStep_23 (by decide) (fun c_23 => ?_) (fun c_23 => ?_)
    · refine lv_aload_n hx hb d_Disk_makeStep_36 rfl (lv_at hl 0 rfl) ?_
      refine lv_dup hx hb d_Disk_makeStep_37 rfl ?_
      refine va_get (D := D) (ci := 0) (v := .int k_steps) (C := "RedoJournal$Disk") (T := TX0) (N := 8) hx hb hts (fun w h => List.mem_cons_of_mem _ (inX0 w h)) hown hK hP 0 rfl rfl 7 (by decide) (hts _ (List.mem_cons_of_mem _ mA_94)) (fun _ h9 => h9) rfl d_Disk_makeStep_38 ?_
      refine lv_iconst (v := 1) hx hb d_Disk_makeStep_41 (by decide) ?_
      refine lv_iadd hx hb d_Disk_makeStep_42 ?_
      refine lv_topi (fun v_43 e_43 => ?_)
      refine va_put (D := D) (ci := 0) (v := .int v_43) (ty := .int) (C := "RedoJournal$Disk") (T := TX0) (N := 8) hx hb hts (fun w h => List.mem_cons_of_mem _ (inX0 w h)) tyX0 tyX0_ok nmX0 hown hK hP hD hS 0 rfl rfl 7 (by decide) (hts _ (List.mem_cons_of_mem _ mA_94)) (fun _ h9 => h9) rfl (by decide +kernel) rfl rfl (Nat.le_of_ble_eq_true rfl) d_Disk_makeStep_43 (fun H locs hP hD hS => ?_)
      have hP : va_P D vwCl [(hDK, .inr (0, [.ref hk_down, .ref hk_written, .ref hk_order, .int k_underWay, .long k_homesUnderWay, .int k_on, .int k_stepsLeft, .int v_43])), (hk_down, .inl (cB, 16384, .inl k_down)), (hk_written, .inl (cB, 16384, .inl k_written)), (hk_order, .inl (cI, 264, .inl k_order))] H := hP
      have hD : va_D A [(hDK, .inr (0, [.ref hk_down, .ref hk_written, .ref hk_order, .int k_underWay, .long k_homesUnderWay, .int k_on, .int k_stepsLeft, .int v_43])), (hk_down, .inl (cB, 16384, .inl k_down)), (hk_written, .inl (cB, 16384, .inl k_written)), (hk_order, .inl (cI, 264, .inl k_order))] := hD
      refine lv_iconst (v := 1) hx hb d_Disk_makeStep_46 (by decide) ?_
      exact z_zret (u := (k_on, k_stepsLeft, v_43)) C (by decide) (vc_Disk_makeStep_47_0 k_underWay k_homesUnderWay k_on k_stepsLeft k_steps k_down k_written k_order v_43 hpre c_4 c_23 e_43) (hP.sub [0, 1, 2, 3] rfl) (hD.sub [0, 1, 2, 3] (by decide) rfl) hS d_Disk_makeStep_47
    · refine lv_aload_n hx hb d_Disk_makeStep_26 rfl (lv_at hl 0 rfl) ?_
      refine lv_dup hx hb d_Disk_makeStep_27 rfl ?_
      refine va_get (D := D) (ci := 0) (v := .int k_stepsLeft) (C := "RedoJournal$Disk") (T := TX0) (N := 8) hx hb hts (fun w h => List.mem_cons_of_mem _ (inX0 w h)) hown hK hP 0 rfl rfl 6 (by decide) (hts _ (List.mem_cons_of_mem _ mA_92)) (fun _ h9 => h9) rfl d_Disk_makeStep_28 ?_
      refine lv_iconst (v := 1) hx hb d_Disk_makeStep_31 (by decide) ?_
      refine lv_isub hx hb d_Disk_makeStep_32 ?_
      refine lv_topi (fun v_33 e_33 => ?_)
      refine va_put (D := D) (ci := 0) (v := .int v_33) (ty := .int) (C := "RedoJournal$Disk") (T := TX0) (N := 8) hx hb hts (fun w h => List.mem_cons_of_mem _ (inX0 w h)) tyX0 tyX0_ok nmX0 hown hK hP hD hS 0 rfl rfl 6 (by decide) (hts _ (List.mem_cons_of_mem _ mA_92)) (fun _ h9 => h9) rfl (by decide +kernel) rfl rfl (Nat.le_of_ble_eq_true rfl) d_Disk_makeStep_33 (fun H locs hP hD hS => ?_)
      have hP : va_P D vwCl [(hDK, .inr (0, [.ref hk_down, .ref hk_written, .ref hk_order, .int k_underWay, .long k_homesUnderWay, .int k_on, .int v_33, .int k_steps])), (hk_down, .inl (cB, 16384, .inl k_down)), (hk_written, .inl (cB, 16384, .inl k_written)), (hk_order, .inl (cI, 264, .inl k_order))] H := hP
      have hD : va_D A [(hDK, .inr (0, [.ref hk_down, .ref hk_written, .ref hk_order, .int k_underWay, .long k_homesUnderWay, .int k_on, .int v_33, .int k_steps])), (hk_down, .inl (cB, 16384, .inl k_down)), (hk_written, .inl (cB, 16384, .inl k_written)), (hk_order, .inl (cI, 264, .inl k_order))] := hD
      refine lv_aload_n hx hb d_Disk_makeStep_36 rfl (lv_at hl 0 rfl) ?_
      refine lv_dup hx hb d_Disk_makeStep_37 rfl ?_
      refine va_get (D := D) (ci := 0) (v := .int k_steps) (C := "RedoJournal$Disk") (T := TX0) (N := 8) hx hb hts (fun w h => List.mem_cons_of_mem _ (inX0 w h)) hown hK hP 0 rfl rfl 7 (by decide) (hts _ (List.mem_cons_of_mem _ mA_94)) (fun _ h9 => h9) rfl d_Disk_makeStep_38 ?_
      refine lv_iconst (v := 1) hx hb d_Disk_makeStep_41 (by decide) ?_
      refine lv_iadd hx hb d_Disk_makeStep_42 ?_
      refine lv_topi (fun v_43 e_43 => ?_)
      refine va_put (D := D) (ci := 0) (v := .int v_43) (ty := .int) (C := "RedoJournal$Disk") (T := TX0) (N := 8) hx hb hts (fun w h => List.mem_cons_of_mem _ (inX0 w h)) tyX0 tyX0_ok nmX0 hown hK hP hD hS 0 rfl rfl 7 (by decide) (hts _ (List.mem_cons_of_mem _ mA_94)) (fun _ h9 => h9) rfl (by decide +kernel) rfl rfl (Nat.le_of_ble_eq_true rfl) d_Disk_makeStep_43 (fun H locs hP hD hS => ?_)
      have hP : va_P D vwCl [(hDK, .inr (0, [.ref hk_down, .ref hk_written, .ref hk_order, .int k_underWay, .long k_homesUnderWay, .int k_on, .int v_33, .int v_43])), (hk_down, .inl (cB, 16384, .inl k_down)), (hk_written, .inl (cB, 16384, .inl k_written)), (hk_order, .inl (cI, 264, .inl k_order))] H := hP
      have hD : va_D A [(hDK, .inr (0, [.ref hk_down, .ref hk_written, .ref hk_order, .int k_underWay, .long k_homesUnderWay, .int k_on, .int v_33, .int v_43])), (hk_down, .inl (cB, 16384, .inl k_down)), (hk_written, .inl (cB, 16384, .inl k_written)), (hk_order, .inl (cI, 264, .inl k_order))] := hD
      refine lv_iconst (v := 1) hx hb d_Disk_makeStep_46 (by decide) ?_
      exact z_zret (u := (k_on, v_33, v_43)) C (by decide) (vc_Disk_makeStep_47_1 k_underWay k_homesUnderWay k_on k_stepsLeft k_steps k_down k_written k_order v_33 v_43 hpre c_4 c_23 e_33 e_43) (hP.sub [0, 1, 2, 3] rfl) (hD.sub [0, 1, 2, 3] (by decide) rfl) hS d_Disk_makeStep_47
  · refine lv_aload_n hx hb d_Disk_makeStep_7 rfl (lv_at hl 0 rfl) ?_
    refine lv_iconst (v := 0) hx hb d_Disk_makeStep_8 (by decide) ?_
    refine va_put (D := D) (ci := 0) (v := .int 0) (ty := .boolean) (C := "RedoJournal$Disk") (T := TX0) (N := 8) hx hb hts (fun w h => List.mem_cons_of_mem _ (inX0 w h)) tyX0 tyX0_ok nmX0 hown hK hP hD hS 0 rfl rfl 5 (by decide) (hts _ (List.mem_cons_of_mem _ mA_90)) (fun _ h9 => h9) rfl (by decide +kernel) (by decide) (by decide) (Nat.le_of_ble_eq_true rfl) d_Disk_makeStep_9 (fun H locs hP hD hS => ?_)
    have hP : va_P D vwCl [(hDK, .inr (0, [.ref hk_down, .ref hk_written, .ref hk_order, .int k_underWay, .long k_homesUnderWay, .int 0, .int k_stepsLeft, .int k_steps])), (hk_down, .inl (cB, 16384, .inl k_down)), (hk_written, .inl (cB, 16384, .inl k_written)), (hk_order, .inl (cI, 264, .inl k_order))] H := hP
    have hD : va_D A [(hDK, .inr (0, [.ref hk_down, .ref hk_written, .ref hk_order, .int k_underWay, .long k_homesUnderWay, .int 0, .int k_stepsLeft, .int k_steps])), (hk_down, .inl (cB, 16384, .inl k_down)), (hk_written, .inl (cB, 16384, .inl k_written)), (hk_order, .inl (cI, 264, .inl k_order))] := hD
    refine lv_aload_n hx hb d_Disk_makeStep_12 rfl (lv_at hl 0 rfl) ?_
    refine lv_iconst (v := (-1)) hx hb d_Disk_makeStep_13 (by decide) ?_
    refine va_put (D := D) (ci := 0) (v := .int (-1)) (ty := .int) (C := "RedoJournal$Disk") (T := TX0) (N := 8) hx hb hts (fun w h => List.mem_cons_of_mem _ (inX0 w h)) tyX0 tyX0_ok nmX0 hown hK hP hD hS 0 rfl rfl 6 (by decide) (hts _ (List.mem_cons_of_mem _ mA_92)) (fun _ h9 => h9) rfl (by decide +kernel) rfl rfl (Nat.le_of_ble_eq_true rfl) d_Disk_makeStep_14 (fun H locs hP hD hS => ?_)
    have hP : va_P D vwCl [(hDK, .inr (0, [.ref hk_down, .ref hk_written, .ref hk_order, .int k_underWay, .long k_homesUnderWay, .int 0, .int (-1), .int k_steps])), (hk_down, .inl (cB, 16384, .inl k_down)), (hk_written, .inl (cB, 16384, .inl k_written)), (hk_order, .inl (cI, 264, .inl k_order))] H := hP
    have hD : va_D A [(hDK, .inr (0, [.ref hk_down, .ref hk_written, .ref hk_order, .int k_underWay, .long k_homesUnderWay, .int 0, .int (-1), .int k_steps])), (hk_down, .inl (cB, 16384, .inl k_down)), (hk_written, .inl (cB, 16384, .inl k_written)), (hk_order, .inl (cI, 264, .inl k_order))] := hD
    refine lv_iconst (v := 0) hx hb d_Disk_makeStep_17 (by decide) ?_
    exact z_zret (u := (0, (-1), k_steps)) C (by decide) (vc_Disk_makeStep_18_0 k_underWay k_homesUnderWay k_on k_stepsLeft k_steps k_down k_written k_order hpre c_4) (hP.sub [0, 1, 2, 3] rfl) (hD.sub [0, 1, 2, 3] (by decide) rfl) hS d_Disk_makeStep_18
abbrev RM_Disk_forgetUnderWay : Room := { frames := 0, cells := 0, slots := 0, locals := 0 }
abbrev AV_Disk_forgetUnderWay (hDK : Nat) : List Value := [.ref hDK]
abbrev WS_Disk_forgetUnderWay (cB cI cJ cZ : ClassId) (hDK hk_down hk_written hk_order : Nat) (k_underWay : Int32) (k_homesUnderWay : Int64) (k_on : Int32) (k_stepsLeft : Int32) (k_steps : Int32) (k_down : Nat → Int32) (k_written : Nat → Int32) (k_order : Nat → Int32) : va_W := [(hDK, .inr (0, [.ref hk_down, .ref hk_written, .ref hk_order, .int k_underWay, .long k_homesUnderWay, .int k_on, .int k_stepsLeft, .int k_steps])), (hk_down, .inl (cB, 16384, .inl k_down)), (hk_written, .inl (cB, 16384, .inl k_written)), (hk_order, .inl (cI, 264, .inl k_order))]
abbrev WF_Disk_forgetUnderWay (cB cI cJ cZ : ClassId) (hDK hk_down hk_written hk_order : Nat) (k_on : Int32) (k_stepsLeft : Int32) (k_steps : Int32) (k_down : Nat → Int32) (k_written : Nat → Int32) (k_order : Nat → Int32) : (Int32 × Int64) → va_W := fun u => [(hDK, .inr (0, [.ref hk_down, .ref hk_written, .ref hk_order, .int u.1, .long u.2, .int k_on, .int k_stepsLeft, .int k_steps])), (hk_down, .inl (cB, 16384, .inl k_down)), (hk_written, .inl (cB, 16384, .inl k_written)), (hk_order, .inl (cI, 264, .inl k_order))]
abbrev PO_Disk_forgetUnderWay (k_underWay : Int32) (k_homesUnderWay : Int64) (k_on : Int32) (k_stepsLeft : Int32) (k_steps : Int32) (k_down : Nat → Int32) (k_written : Nat → Int32) (k_order : Nat → Int32) : (Int32 × Int64) → Prop := fun u => po_Disk_forgetUnderWay (k_underWay, k_homesUnderWay, k_on, k_stepsLeft, k_steps, k_down, k_written, k_order) (u.1, u.2, k_on, k_stepsLeft, k_steps, k_down, k_written, k_order)
set_option maxHeartbeats 4000000 in
set_option maxRecDepth 100000 in
theorem c_Disk_forgetUnderWay (l : Launch) (D : va_G) (cB cI cJ cZ : ClassId) (hDK hk_down hk_written hk_order : Nat) (sz : Nat) (k_underWay : Int32) (k_homesUnderWay : Int64) (k_on : Int32) (k_stepsLeft : Int32) (k_steps : Int32) (k_down : Nat → Int32) (k_written : Nat → Int32) (k_order : Nat → Int32) (hpre : pr_Disk_forgetUnderWay (k_underWay, k_homesUnderWay, k_on, k_stepsLeft, k_steps, k_down, k_written, k_order)) : ZMv l y_Disk_forgetUnderWay (Cond.code y_Disk_forgetUnderWay b_Disk_forgetUnderWay 1 none :: wA) RM_Disk_forgetUnderWay D vwCl (zTY cB cI cJ cZ) (AV_Disk_forgetUnderWay hDK) (WS_Disk_forgetUnderWay cB cI cJ cZ hDK hk_down hk_written hk_order k_underWay k_homesUnderWay k_on k_stepsLeft k_steps k_down k_written k_order) sz (PO_Disk_forgetUnderWay k_underWay k_homesUnderWay k_on k_stepsLeft k_steps k_down k_written k_order) (WF_Disk_forgetUnderWay cB cI cJ cZ hDK hk_down hk_written hk_order k_on k_stepsLeft k_steps k_down k_written k_order) := by
  refine z_start_v (cc := b_Disk_forgetUnderWay) (maxL := 1) (ret := none) (own := "RedoJournal$Disk") (nm := "forgetUnderWay") (by decide) rfl rfl rfl (Nat.le_of_ble_eq_true rfl) ?_
  intro p e s m below meth c A ls C hK hz hA hP hD hS hl
  obtain ⟨hx, hb, hml, hown, hts, hr, hlocks, hnm⟩ := id C
  have hP : va_P D vwCl [(hDK, .inr (0, [.ref hk_down, .ref hk_written, .ref hk_order, .int k_underWay, .long k_homesUnderWay, .int k_on, .int k_stepsLeft, .int k_steps])), (hk_down, .inl (cB, 16384, .inl k_down)), (hk_written, .inl (cB, 16384, .inl k_written)), (hk_order, .inl (cI, 264, .inl k_order))] s.heap := hP
  have hD : va_D A [(hDK, .inr (0, [.ref hk_down, .ref hk_written, .ref hk_order, .int k_underWay, .long k_homesUnderWay, .int k_on, .int k_stepsLeft, .int k_steps])), (hk_down, .inl (cB, 16384, .inl k_down)), (hk_written, .inl (cB, 16384, .inl k_written)), (hk_order, .inl (cI, 264, .inl k_order))] := hD
  have hl : lv_has ls 1 [(0, .ref hDK)] := hl
  refine lv_aload_n hx hb d_Disk_forgetUnderWay_0 rfl (lv_at hl 0 rfl) ?_
  refine lv_iconst (v := 0) hx hb d_Disk_forgetUnderWay_1 (by decide) ?_
  refine va_put (D := D) (ci := 0) (v := .int 0) (ty := .int) (C := "RedoJournal$Disk") (T := TX0) (N := 8) hx hb hts (fun w h => List.mem_cons_of_mem _ (inX0 w h)) tyX0 tyX0_ok nmX0 hown hK hP hD hS 0 rfl rfl 3 (by decide) (hts _ (List.mem_cons_of_mem _ mA_87)) (fun _ h9 => h9) rfl (by decide +kernel) rfl rfl (Nat.le_of_ble_eq_true rfl) d_Disk_forgetUnderWay_2 (fun H locs hP hD hS => ?_)
  have hP : va_P D vwCl [(hDK, .inr (0, [.ref hk_down, .ref hk_written, .ref hk_order, .int 0, .long k_homesUnderWay, .int k_on, .int k_stepsLeft, .int k_steps])), (hk_down, .inl (cB, 16384, .inl k_down)), (hk_written, .inl (cB, 16384, .inl k_written)), (hk_order, .inl (cI, 264, .inl k_order))] H := hP
  have hD : va_D A [(hDK, .inr (0, [.ref hk_down, .ref hk_written, .ref hk_order, .int 0, .long k_homesUnderWay, .int k_on, .int k_stepsLeft, .int k_steps])), (hk_down, .inl (cB, 16384, .inl k_down)), (hk_written, .inl (cB, 16384, .inl k_written)), (hk_order, .inl (cI, 264, .inl k_order))] := hD
  refine lv_aload_n hx hb d_Disk_forgetUnderWay_5 rfl (lv_at hl 0 rfl) ?_
  refine lv_lconst (v := 0) hx hb d_Disk_forgetUnderWay_6 (by decide) ?_
  refine va_put (D := D) (ci := 0) (v := .long 0) (ty := .long) (C := "RedoJournal$Disk") (T := TX0) (N := 8) hx hb hts (fun w h => List.mem_cons_of_mem _ (inX0 w h)) tyX0 tyX0_ok nmX0 hown hK hP hD hS 0 rfl rfl 4 (by decide) (hts _ (List.mem_cons_of_mem _ mA_89)) (fun _ h9 => h9) rfl (by decide +kernel) rfl rfl (Nat.le_of_ble_eq_true rfl) d_Disk_forgetUnderWay_7 (fun H locs hP hD hS => ?_)
  have hP : va_P D vwCl [(hDK, .inr (0, [.ref hk_down, .ref hk_written, .ref hk_order, .int 0, .long 0, .int k_on, .int k_stepsLeft, .int k_steps])), (hk_down, .inl (cB, 16384, .inl k_down)), (hk_written, .inl (cB, 16384, .inl k_written)), (hk_order, .inl (cI, 264, .inl k_order))] H := hP
  have hD : va_D A [(hDK, .inr (0, [.ref hk_down, .ref hk_written, .ref hk_order, .int 0, .long 0, .int k_on, .int k_stepsLeft, .int k_steps])), (hk_down, .inl (cB, 16384, .inl k_down)), (hk_written, .inl (cB, 16384, .inl k_written)), (hk_order, .inl (cI, 264, .inl k_order))] := hD
  exact z_vret (u := (0, 0)) C (vc_Disk_forgetUnderWay_10_0 k_underWay k_homesUnderWay k_on k_stepsLeft k_steps k_down k_written k_order hpre) (hP.sub [0, 1, 2, 3] rfl) (hD.sub [0, 1, 2, 3] (by decide) rfl) hS d_Disk_forgetUnderWay_10
abbrev RM_Disk_putUnderWay : Room := { frames := 0, cells := 0, slots := 0, locals := 0 }
abbrev AV_Disk_putUnderWay (hDK : Nat) (a_b : Int32) : List Value := [.ref hDK, .int a_b]
abbrev WS_Disk_putUnderWay (cB cI cJ cZ : ClassId) (hDK hk_down hk_written hk_order : Nat) (k_underWay : Int32) (k_homesUnderWay : Int64) (k_on : Int32) (k_stepsLeft : Int32) (k_steps : Int32) (k_down : Nat → Int32) (k_written : Nat → Int32) (k_order : Nat → Int32) : va_W := [(hDK, .inr (0, [.ref hk_down, .ref hk_written, .ref hk_order, .int k_underWay, .long k_homesUnderWay, .int k_on, .int k_stepsLeft, .int k_steps])), (hk_down, .inl (cB, 16384, .inl k_down)), (hk_written, .inl (cB, 16384, .inl k_written)), (hk_order, .inl (cI, 264, .inl k_order))]
abbrev WF_Disk_putUnderWay (cB cI cJ cZ : ClassId) (hDK hk_down hk_written hk_order : Nat) (k_homesUnderWay : Int64) (k_on : Int32) (k_stepsLeft : Int32) (k_steps : Int32) (k_down : Nat → Int32) (k_written : Nat → Int32) : (Int32 × (Nat → Int32)) → va_W := fun u => [(hDK, .inr (0, [.ref hk_down, .ref hk_written, .ref hk_order, .int u.1, .long k_homesUnderWay, .int k_on, .int k_stepsLeft, .int k_steps])), (hk_down, .inl (cB, 16384, .inl k_down)), (hk_written, .inl (cB, 16384, .inl k_written)), (hk_order, .inl (cI, 264, .inl u.2))]
abbrev PO_Disk_putUnderWay (a_b : Int32) (k_underWay : Int32) (k_homesUnderWay : Int64) (k_on : Int32) (k_stepsLeft : Int32) (k_steps : Int32) (k_down : Nat → Int32) (k_written : Nat → Int32) (k_order : Nat → Int32) : (Int32 × (Nat → Int32)) → Prop := fun u => po_Disk_putUnderWay a_b (k_underWay, k_homesUnderWay, k_on, k_stepsLeft, k_steps, k_down, k_written, k_order) (u.1, k_homesUnderWay, k_on, k_stepsLeft, k_steps, k_down, k_written, u.2)
set_option maxHeartbeats 4000000 in
set_option maxRecDepth 100000 in
theorem c_Disk_putUnderWay (l : Launch) (D : va_G) (cB cI cJ cZ : ClassId) (hDK hk_down hk_written hk_order : Nat) (sz : Nat) (a_b : Int32) (k_underWay : Int32) (k_homesUnderWay : Int64) (k_on : Int32) (k_stepsLeft : Int32) (k_steps : Int32) (k_down : Nat → Int32) (k_written : Nat → Int32) (k_order : Nat → Int32) (hpre : pr_Disk_putUnderWay a_b (k_underWay, k_homesUnderWay, k_on, k_stepsLeft, k_steps, k_down, k_written, k_order)) : ZMv l y_Disk_putUnderWay (Cond.code y_Disk_putUnderWay b_Disk_putUnderWay 2 none :: wA) RM_Disk_putUnderWay D vwCl (zTY cB cI cJ cZ) (AV_Disk_putUnderWay hDK a_b) (WS_Disk_putUnderWay cB cI cJ cZ hDK hk_down hk_written hk_order k_underWay k_homesUnderWay k_on k_stepsLeft k_steps k_down k_written k_order) sz (PO_Disk_putUnderWay a_b k_underWay k_homesUnderWay k_on k_stepsLeft k_steps k_down k_written k_order) (WF_Disk_putUnderWay cB cI cJ cZ hDK hk_down hk_written hk_order k_homesUnderWay k_on k_stepsLeft k_steps k_down k_written) := by
  refine z_start_v (cc := b_Disk_putUnderWay) (maxL := 2) (ret := none) (own := "RedoJournal$Disk") (nm := "putUnderWay") (by decide) rfl rfl rfl (Nat.le_of_ble_eq_true rfl) ?_
  intro p e s m below meth c A ls C hK hz hA hP hD hS hl
  obtain ⟨hx, hb, hml, hown, hts, hr, hlocks, hnm⟩ := id C
  have hP : va_P D vwCl [(hDK, .inr (0, [.ref hk_down, .ref hk_written, .ref hk_order, .int k_underWay, .long k_homesUnderWay, .int k_on, .int k_stepsLeft, .int k_steps])), (hk_down, .inl (cB, 16384, .inl k_down)), (hk_written, .inl (cB, 16384, .inl k_written)), (hk_order, .inl (cI, 264, .inl k_order))] s.heap := hP
  have hD : va_D A [(hDK, .inr (0, [.ref hk_down, .ref hk_written, .ref hk_order, .int k_underWay, .long k_homesUnderWay, .int k_on, .int k_stepsLeft, .int k_steps])), (hk_down, .inl (cB, 16384, .inl k_down)), (hk_written, .inl (cB, 16384, .inl k_written)), (hk_order, .inl (cI, 264, .inl k_order))] := hD
  have hl : lv_has ls 2 [(0, .ref hDK), (1, .int a_b)] := hl
  refine lv_aload_n hx hb d_Disk_putUnderWay_0 rfl (lv_at hl 0 rfl) ?_
  refine va_get (D := D) (ci := 0) (v := .int k_underWay) (C := "RedoJournal$Disk") (T := TX0) (N := 8) hx hb hts (fun w h => List.mem_cons_of_mem _ (inX0 w h)) hown hK hP 0 rfl rfl 3 (by decide) (hts _ (List.mem_cons_of_mem _ mA_87)) (fun _ h9 => h9) rfl d_Disk_putUnderWay_1 ?_
  refine lv_aload_n hx hb d_Disk_putUnderWay_4 rfl (lv_at hl 0 rfl) ?_
  refine va_get (D := D) (ci := 0) (v := .ref hk_order) (C := "RedoJournal$Disk") (T := TX0) (N := 8) hx hb hts (fun w h => List.mem_cons_of_mem _ (inX0 w h)) hown hK hP 0 rfl rfl 2 (by decide) (hts _ (List.mem_cons_of_mem _ mA_86)) (fun _ h9 => h9) rfl d_Disk_putUnderWay_5 ?_
  refine va_alen hx hb hK hP 3 1 rfl rfl (v := 264) rfl d_Disk_putUnderWay_8 ?_
  refine lv_icmp_ge (tgt := 32) hx hb d_Disk_putUnderWay_9 (by decide) (fun c_9 => ?_) (fun c_9 => ?_)
  · exact z_vret (u := (k_underWay, k_order)) C (vc_Disk_putUnderWay_32_0 a_b k_underWay k_homesUnderWay k_on k_stepsLeft k_steps k_down k_written k_order hpre c_9) (hP.sub [0, 1, 2, 3] rfl) (hD.sub [0, 1, 2, 3] (by decide) rfl) hS d_Disk_putUnderWay_32
  · refine lv_aload_n hx hb d_Disk_putUnderWay_12 rfl (lv_at hl 0 rfl) ?_
    refine va_get (D := D) (ci := 0) (v := .ref hk_order) (C := "RedoJournal$Disk") (T := TX0) (N := 8) hx hb hts (fun w h => List.mem_cons_of_mem _ (inX0 w h)) hown hK hP 0 rfl rfl 2 (by decide) (hts _ (List.mem_cons_of_mem _ mA_86)) (fun _ h9 => h9) rfl d_Disk_putUnderWay_13 ?_
    refine lv_aload_n hx hb d_Disk_putUnderWay_16 rfl (lv_at hl 0 rfl) ?_
    refine va_get (D := D) (ci := 0) (v := .int k_underWay) (C := "RedoJournal$Disk") (T := TX0) (N := 8) hx hb hts (fun w h => List.mem_cons_of_mem _ (inX0 w h)) hown hK hP 0 rfl rfl 3 (by decide) (hts _ (List.mem_cons_of_mem _ mA_87)) (fun _ h9 => h9) rfl d_Disk_putUnderWay_17 ?_
    refine lv_iload_n hx hb d_Disk_putUnderWay_20 rfl (lv_at hl 1 rfl) ?_
    refine va_iast hx hb hK hP hD hS 3 1 rfl rfl (vc_Disk_putUnderWay_21_0 a_b k_underWay k_homesUnderWay k_on k_stepsLeft k_steps k_down k_written k_order hpre c_9) d_Disk_putUnderWay_21 (fun H locs hP hD hS => ?_)
    have hP : va_P D vwCl [(hDK, .inr (0, [.ref hk_down, .ref hk_written, .ref hk_order, .int k_underWay, .long k_homesUnderWay, .int k_on, .int k_stepsLeft, .int k_steps])), (hk_down, .inl (cB, 16384, .inl k_down)), (hk_written, .inl (cB, 16384, .inl k_written)), (hk_order, .inl (cI, 264, .inl (upd k_order (k_underWay).toNatClampNeg a_b)))] H := hP
    have hD : va_D A [(hDK, .inr (0, [.ref hk_down, .ref hk_written, .ref hk_order, .int k_underWay, .long k_homesUnderWay, .int k_on, .int k_stepsLeft, .int k_steps])), (hk_down, .inl (cB, 16384, .inl k_down)), (hk_written, .inl (cB, 16384, .inl k_written)), (hk_order, .inl (cI, 264, .inl (upd k_order (k_underWay).toNatClampNeg a_b)))] := hD
    refine lv_aload_n hx hb d_Disk_putUnderWay_22 rfl (lv_at hl 0 rfl) ?_
    refine lv_dup hx hb d_Disk_putUnderWay_23 rfl ?_
    refine va_get (D := D) (ci := 0) (v := .int k_underWay) (C := "RedoJournal$Disk") (T := TX0) (N := 8) hx hb hts (fun w h => List.mem_cons_of_mem _ (inX0 w h)) hown hK hP 0 rfl rfl 3 (by decide) (hts _ (List.mem_cons_of_mem _ mA_87)) (fun _ h9 => h9) rfl d_Disk_putUnderWay_24 ?_
    refine lv_iconst (v := 1) hx hb d_Disk_putUnderWay_27 (by decide) ?_
    refine lv_iadd hx hb d_Disk_putUnderWay_28 ?_
    refine lv_topi (fun v_29 e_29 => ?_)
    refine va_put (D := D) (ci := 0) (v := .int v_29) (ty := .int) (C := "RedoJournal$Disk") (T := TX0) (N := 8) hx hb hts (fun w h => List.mem_cons_of_mem _ (inX0 w h)) tyX0 tyX0_ok nmX0 hown hK hP hD hS 0 rfl rfl 3 (by decide) (hts _ (List.mem_cons_of_mem _ mA_87)) (fun _ h9 => h9) rfl (by decide +kernel) rfl rfl (Nat.le_of_ble_eq_true rfl) d_Disk_putUnderWay_29 (fun H locs hP hD hS => ?_)
    have hP : va_P D vwCl [(hDK, .inr (0, [.ref hk_down, .ref hk_written, .ref hk_order, .int v_29, .long k_homesUnderWay, .int k_on, .int k_stepsLeft, .int k_steps])), (hk_down, .inl (cB, 16384, .inl k_down)), (hk_written, .inl (cB, 16384, .inl k_written)), (hk_order, .inl (cI, 264, .inl (upd k_order (k_underWay).toNatClampNeg a_b)))] H := hP
    have hD : va_D A [(hDK, .inr (0, [.ref hk_down, .ref hk_written, .ref hk_order, .int v_29, .long k_homesUnderWay, .int k_on, .int k_stepsLeft, .int k_steps])), (hk_down, .inl (cB, 16384, .inl k_down)), (hk_written, .inl (cB, 16384, .inl k_written)), (hk_order, .inl (cI, 264, .inl (upd k_order (k_underWay).toNatClampNeg a_b)))] := hD
    exact z_vret (u := (v_29, (upd k_order (k_underWay).toNatClampNeg a_b))) C (vc_Disk_putUnderWay_32_1 a_b k_underWay k_homesUnderWay k_on k_stepsLeft k_steps k_down k_written k_order v_29 hpre c_9 e_29) (hP.sub [0, 1, 2, 3] rfl) (hD.sub [0, 1, 2, 3] (by decide) rfl) hS d_Disk_putUnderWay_32
abbrev RM_Disk_partDown : Room := { frames := 0, cells := 0, slots := 0, locals := 0 }
abbrev AV_Disk_partDown (a_p : Int32) (a_bits : Int64) : List Value := [.int a_p, .long a_bits]
abbrev WS_Disk_partDown (cB cI cJ cZ : ClassId) : va_W := []
abbrev WF_Disk_partDown (cB cI cJ cZ : ClassId) : Unit → va_W := fun u => []
abbrev PO_Disk_partDown (a_p : Int32) (a_bits : Int64) : Int32 → Unit → Prop := fun r u => po_Disk_partDown a_p a_bits r
set_option maxHeartbeats 4000000 in
set_option maxRecDepth 100000 in
theorem c_Disk_partDown (l : Launch) (D : va_G) (cB cI cJ cZ : ClassId) (sz : Nat) (a_p : Int32) (a_bits : Int64) (hpre : pr_Disk_partDown a_p a_bits) : ZMi l y_Disk_partDown (Cond.code y_Disk_partDown b_Disk_partDown 3 (some .int) :: wA) RM_Disk_partDown D vwCl (zTY cB cI cJ cZ) (AV_Disk_partDown a_p a_bits) (WS_Disk_partDown cB cI cJ cZ ) sz (PO_Disk_partDown a_p a_bits) (WF_Disk_partDown cB cI cJ cZ ) := by
  refine z_start_i (cc := b_Disk_partDown) (maxL := 3) (ret := (some .int)) (own := "RedoJournal$Disk") (nm := "partDown") (by decide) rfl rfl rfl (Nat.le_of_ble_eq_true rfl) ?_
  intro p e s m below meth c A ls C hK hz hA hP hD hS hl
  obtain ⟨hx, hb, hml, hown, hts, hr, hlocks, hnm⟩ := id C
  have hP : va_P D vwCl [] s.heap := hP
  have hD : va_D A [] := hD
  have hl : lv_has ls 3 [(0, .int a_p), (1, .long a_bits)] := hl
  refine lv_iload_n hx hb d_Disk_partDown_0 rfl (lv_at hl 0 rfl) ?_
  refine lv_bipush (v := 32) hx hb d_Disk_partDown_1 (by decide) ?_
  refine lv_icmp_ge (tgt := 17) hx hb d_Disk_partDown_3 (by decide) (fun c_3 => ?_) (fun c_3 => ?_)
  · refine lv_iconst (v := 0) hx hb d_Disk_partDown_17 (by decide) ?_
    exact z_iret (u := ()) C (vc_Disk_partDown_18_0 a_p a_bits hpre c_3) (hP.sub [] rfl) (hD.sub [] (by decide) rfl) hS d_Disk_partDown_18
  · refine lv_lload_n hx hb d_Disk_partDown_6 rfl (lv_at hl 1 rfl) ?_
    refine lv_iconst (v := 2) hx hb d_Disk_partDown_7 (by decide) ?_
    refine lv_iload_n hx hb d_Disk_partDown_8 rfl (lv_at hl 0 rfl) ?_
    refine lv_imul hx hb d_Disk_partDown_9 ?_
    refine lv_lushr (v := ((Int64.toUInt64 a_bits) >>> ((Int32.toInt64 (2 * a_p)).toUInt64 &&& Int64.toUInt64 63)).toInt64) hx hb d_Disk_partDown_10 rfl ?_
    refine lv_l2i (v := (Int64.toInt32 (((Int64.toUInt64 a_bits) >>> ((Int32.toInt64 (2 * a_p)).toUInt64 &&& Int64.toUInt64 63)).toInt64))) hx hb d_Disk_partDown_11 rfl ?_
    refine lv_iconst (v := 3) hx hb d_Disk_partDown_12 (by decide) ?_
    refine lv_iand hx hb d_Disk_partDown_13 ?_
    refine lv_goto (tgt := 18) hx hb d_Disk_partDown_14 (by decide) ?_
    exact z_iret (u := ()) C (vc_Disk_partDown_18_1 a_p a_bits hpre c_3) (hP.sub [] rfl) (hD.sub [] (by decide) rfl) hS d_Disk_partDown_18
abbrev RM_Disk_isFirstHalfDown : Room := { frames := 1, cells := 0, slots := 0, locals := 22 }
abbrev AV_Disk_isFirstHalfDown (a_p : Int32) (a_bits : Int64) : List Value := [.int a_p, .long a_bits]
abbrev WS_Disk_isFirstHalfDown (cB cI cJ cZ : ClassId) : va_W := []
abbrev WF_Disk_isFirstHalfDown (cB cI cJ cZ : ClassId) : Unit → va_W := fun u => []
abbrev PO_Disk_isFirstHalfDown (a_p : Int32) (a_bits : Int64) : Int32 → Unit → Prop := fun r u => po_Disk_isFirstHalfDown a_p a_bits r
set_option maxHeartbeats 4000000 in
set_option maxRecDepth 100000 in
theorem c_Disk_isFirstHalfDown (l : Launch) (D : va_G) (cB cI cJ cZ : ClassId) (sz : Nat) (a_p : Int32) (a_bits : Int64) (hpre : pr_Disk_isFirstHalfDown a_p a_bits) : ZMi l y_Disk_isFirstHalfDown (Cond.code y_Disk_isFirstHalfDown b_Disk_isFirstHalfDown 4 (some .boolean) :: wA) RM_Disk_isFirstHalfDown D vwCl (zTY cB cI cJ cZ) (AV_Disk_isFirstHalfDown a_p a_bits) (WS_Disk_isFirstHalfDown cB cI cJ cZ ) sz (PO_Disk_isFirstHalfDown a_p a_bits) (WF_Disk_isFirstHalfDown cB cI cJ cZ ) := by
  refine z_start_i (cc := b_Disk_isFirstHalfDown) (maxL := 4) (ret := (some .boolean)) (own := "RedoJournal$Disk") (nm := "isFirstHalfDown") (by decide) rfl rfl rfl (Nat.le_of_ble_eq_true rfl) ?_
  intro p e s m below meth c A ls C hK hz hA hP hD hS hl
  obtain ⟨hx, hb, hml, hown, hts, hr, hlocks, hnm⟩ := id C
  have hP : va_P D vwCl [] s.heap := hP
  have hD : va_D A [] := hD
  have hl : lv_has ls 4 [(0, .int a_p), (1, .long a_bits)] := hl
  refine lv_iload_n hx hb d_Disk_isFirstHalfDown_0 rfl (lv_at hl 0 rfl) ?_
  refine lv_lload_n hx hb d_Disk_isFirstHalfDown_1 rfl (lv_at hl 1 rfl) ?_
  refine z_ci (wc := []) (wr := []) hP hD hS hA [] [] rfl rfl (by decide) (by decide) (va_runS (As := [.int a_p, .long a_bits]) (rest := []) ⟨hx, hb, hml, hown, hts⟩ (c_Disk_partDown l D cB cI cJ cZ  _ a_p a_bits (vc_Disk_isFirstHalfDown_2_0 a_p a_bits hpre)) (va_cwS 2 hts (gdS mA_281 mA_282 mA_64 mA_283) rfl rfl rfl (by decide +kernel) ⟨Nat.le_of_ble_eq_true rfl, Nat.le_of_ble_eq_true rfl⟩) ⟨zw_blind, (z_pre (wc := []) hK hz hP hD [] (by decide) rfl rfl)⟩ rfl rfl hl.1 rfl (lv_room (Nat.le_of_ble_eq_true rfl)) d_Disk_isFirstHalfDown_2 ⟨Nat.zero_le _, Nat.zero_le _⟩) (fun r_2 u H locs w_2 hP hD hS => ?_)
  have w_2 : po_Disk_partDown a_p a_bits r_2 := w_2
  have hP : va_P D vwCl [] H := hP
  have hD : va_D A [] := hD
  refine lv_istore_n (lv' := [(3, .int r_2), (0, .int a_p), (1, .long a_bits)]) hx hb d_Disk_isFirstHalfDown_5 rfl hl (by decide) rfl (fun ls hl => ?_)
  refine lv_iload_n hx hb d_Disk_isFirstHalfDown_6 rfl (lv_at hl 0 rfl) ?_
  refine lv_iconst (v := 1) hx hb d_Disk_isFirstHalfDown_7 (by decide) ?_
  refine lv_icmp_eq (tgt := 16) hx hb d_Disk_isFirstHalfDown_8 (by decide) (fun c_8 => ?_) (fun c_8 => ?_)
  · refine lv_iconst (v := 1) hx hb d_Disk_isFirstHalfDown_16 (by decide) ?_
    refine lv_goto (tgt := 21) hx hb d_Disk_isFirstHalfDown_17 (by decide) ?_
    exact z_zret (u := ()) C (by decide) (vc_Disk_isFirstHalfDown_21_0 a_p a_bits r_2 hpre w_2 c_8) (hP.sub [] rfl) (hD.sub [] (by decide) rfl) hS d_Disk_isFirstHalfDown_21
  · refine lv_iload_n hx hb d_Disk_isFirstHalfDown_11 rfl (lv_at hl 0 rfl) ?_
    refine lv_iconst (v := 2) hx hb d_Disk_isFirstHalfDown_12 (by decide) ?_
    refine lv_icmp_ne (tgt := 20) hx hb d_Disk_isFirstHalfDown_13 (by decide) (fun c_13 => ?_) (fun c_13 => ?_)
    · refine lv_iconst (v := 0) hx hb d_Disk_isFirstHalfDown_20 (by decide) ?_
      exact z_zret (u := ()) C (by decide) (vc_Disk_isFirstHalfDown_21_1 a_p a_bits r_2 hpre w_2 c_8 c_13) (hP.sub [] rfl) (hD.sub [] (by decide) rfl) hS d_Disk_isFirstHalfDown_21
    · refine lv_iconst (v := 1) hx hb d_Disk_isFirstHalfDown_16 (by decide) ?_
      refine lv_goto (tgt := 21) hx hb d_Disk_isFirstHalfDown_17 (by decide) ?_
      exact z_zret (u := ()) C (by decide) (vc_Disk_isFirstHalfDown_21_2 a_p a_bits r_2 hpre w_2 c_8 c_13) (hP.sub [] rfl) (hD.sub [] (by decide) rfl) hS d_Disk_isFirstHalfDown_21
abbrev RM_Disk_isLastHalfDown : Room := { frames := 1, cells := 0, slots := 0, locals := 22 }
abbrev AV_Disk_isLastHalfDown (a_p : Int32) (a_bits : Int64) : List Value := [.int a_p, .long a_bits]
abbrev WS_Disk_isLastHalfDown (cB cI cJ cZ : ClassId) : va_W := []
abbrev WF_Disk_isLastHalfDown (cB cI cJ cZ : ClassId) : Unit → va_W := fun u => []
abbrev PO_Disk_isLastHalfDown (a_p : Int32) (a_bits : Int64) : Int32 → Unit → Prop := fun r u => po_Disk_isLastHalfDown a_p a_bits r
set_option maxHeartbeats 4000000 in
set_option maxRecDepth 100000 in
theorem c_Disk_isLastHalfDown (l : Launch) (D : va_G) (cB cI cJ cZ : ClassId) (sz : Nat) (a_p : Int32) (a_bits : Int64) (hpre : pr_Disk_isLastHalfDown a_p a_bits) : ZMi l y_Disk_isLastHalfDown (Cond.code y_Disk_isLastHalfDown b_Disk_isLastHalfDown 4 (some .boolean) :: wA) RM_Disk_isLastHalfDown D vwCl (zTY cB cI cJ cZ) (AV_Disk_isLastHalfDown a_p a_bits) (WS_Disk_isLastHalfDown cB cI cJ cZ ) sz (PO_Disk_isLastHalfDown a_p a_bits) (WF_Disk_isLastHalfDown cB cI cJ cZ ) := by
  refine z_start_i (cc := b_Disk_isLastHalfDown) (maxL := 4) (ret := (some .boolean)) (own := "RedoJournal$Disk") (nm := "isLastHalfDown") (by decide) rfl rfl rfl (Nat.le_of_ble_eq_true rfl) ?_
  intro p e s m below meth c A ls C hK hz hA hP hD hS hl
  obtain ⟨hx, hb, hml, hown, hts, hr, hlocks, hnm⟩ := id C
  have hP : va_P D vwCl [] s.heap := hP
  have hD : va_D A [] := hD
  have hl : lv_has ls 4 [(0, .int a_p), (1, .long a_bits)] := hl
  refine lv_iload_n hx hb d_Disk_isLastHalfDown_0 rfl (lv_at hl 0 rfl) ?_
  refine lv_lload_n hx hb d_Disk_isLastHalfDown_1 rfl (lv_at hl 1 rfl) ?_
  refine z_ci (wc := []) (wr := []) hP hD hS hA [] [] rfl rfl (by decide) (by decide) (va_runS (As := [.int a_p, .long a_bits]) (rest := []) ⟨hx, hb, hml, hown, hts⟩ (c_Disk_partDown l D cB cI cJ cZ  _ a_p a_bits (vc_Disk_isLastHalfDown_2_0 a_p a_bits hpre)) (va_cwS 2 hts (gdS mA_281 mA_282 mA_64 mA_283) rfl rfl rfl (by decide +kernel) ⟨Nat.le_of_ble_eq_true rfl, Nat.le_of_ble_eq_true rfl⟩) ⟨zw_blind, (z_pre (wc := []) hK hz hP hD [] (by decide) rfl rfl)⟩ rfl rfl hl.1 rfl (lv_room (Nat.le_of_ble_eq_true rfl)) d_Disk_isLastHalfDown_2 ⟨Nat.zero_le _, Nat.zero_le _⟩) (fun r_2 u H locs w_2 hP hD hS => ?_)
  have w_2 : po_Disk_partDown a_p a_bits r_2 := w_2
  have hP : va_P D vwCl [] H := hP
  have hD : va_D A [] := hD
  refine lv_istore_n (lv' := [(3, .int r_2), (0, .int a_p), (1, .long a_bits)]) hx hb d_Disk_isLastHalfDown_5 rfl hl (by decide) rfl (fun ls hl => ?_)
  refine lv_iload_n hx hb d_Disk_isLastHalfDown_6 rfl (lv_at hl 0 rfl) ?_
  refine lv_iconst (v := 1) hx hb d_Disk_isLastHalfDown_7 (by decide) ?_
  refine lv_icmp_eq (tgt := 16) hx hb d_Disk_isLastHalfDown_8 (by decide) (fun c_8 => ?_) (fun c_8 => ?_)
  · refine lv_iconst (v := 1) hx hb d_Disk_isLastHalfDown_16 (by decide) ?_
    refine lv_goto (tgt := 21) hx hb d_Disk_isLastHalfDown_17 (by decide) ?_
    exact z_zret (u := ()) C (by decide) (vc_Disk_isLastHalfDown_21_0 a_p a_bits r_2 hpre w_2 c_8) (hP.sub [] rfl) (hD.sub [] (by decide) rfl) hS d_Disk_isLastHalfDown_21
  · refine lv_iload_n hx hb d_Disk_isLastHalfDown_11 rfl (lv_at hl 0 rfl) ?_
    refine lv_iconst (v := 3) hx hb d_Disk_isLastHalfDown_12 (by decide) ?_
    refine lv_icmp_ne (tgt := 20) hx hb d_Disk_isLastHalfDown_13 (by decide) (fun c_13 => ?_) (fun c_13 => ?_)
    · refine lv_iconst (v := 0) hx hb d_Disk_isLastHalfDown_20 (by decide) ?_
      exact z_zret (u := ()) C (by decide) (vc_Disk_isLastHalfDown_21_1 a_p a_bits r_2 hpre w_2 c_8 c_13) (hP.sub [] rfl) (hD.sub [] (by decide) rfl) hS d_Disk_isLastHalfDown_21
    · refine lv_iconst (v := 1) hx hb d_Disk_isLastHalfDown_16 (by decide) ?_
      refine lv_goto (tgt := 21) hx hb d_Disk_isLastHalfDown_17 (by decide) ?_
      exact z_zret (u := ()) C (by decide) (vc_Disk_isLastHalfDown_21_2 a_p a_bits r_2 hpre w_2 c_8 c_13) (hP.sub [] rfl) (hD.sub [] (by decide) rfl) hS d_Disk_isLastHalfDown_21
abbrev RM_Disk_bringDown : Room := { frames := 1, cells := 0, slots := 0, locals := 20 }
abbrev AV_Disk_bringDown (hDK : Nat) (a_b : Int32) (a_a : Int32) (a_n : Int32) : List Value := [.ref hDK, .int a_b, .int a_a, .int a_n]
abbrev WS_Disk_bringDown (cB cI cJ cZ : ClassId) (hDK hk_down hk_written hk_order : Nat) (k_underWay : Int32) (k_homesUnderWay : Int64) (k_on : Int32) (k_stepsLeft : Int32) (k_steps : Int32) (k_down : Nat → Int32) (k_written : Nat → Int32) (k_order : Nat → Int32) : va_W := [(hDK, .inr (0, [.ref hk_down, .ref hk_written, .ref hk_order, .int k_underWay, .long k_homesUnderWay, .int k_on, .int k_stepsLeft, .int k_steps])), (hk_down, .inl (cB, 16384, .inl k_down)), (hk_written, .inl (cB, 16384, .inl k_written)), (hk_order, .inl (cI, 264, .inl k_order))]
abbrev WF_Disk_bringDown (cB cI cJ cZ : ClassId) (hDK hk_down hk_written hk_order : Nat) (k_underWay : Int32) (k_homesUnderWay : Int64) (k_on : Int32) (k_stepsLeft : Int32) (k_steps : Int32) (k_written : Nat → Int32) (k_order : Nat → Int32) : ((Nat → Int32)) → va_W := fun u => [(hDK, .inr (0, [.ref hk_down, .ref hk_written, .ref hk_order, .int k_underWay, .long k_homesUnderWay, .int k_on, .int k_stepsLeft, .int k_steps])), (hk_down, .inl (cB, 16384, .inl u)), (hk_written, .inl (cB, 16384, .inl k_written)), (hk_order, .inl (cI, 264, .inl k_order))]
abbrev PO_Disk_bringDown (a_b : Int32) (a_a : Int32) (a_n : Int32) (k_underWay : Int32) (k_homesUnderWay : Int64) (k_on : Int32) (k_stepsLeft : Int32) (k_steps : Int32) (k_down : Nat → Int32) (k_written : Nat → Int32) (k_order : Nat → Int32) : ((Nat → Int32)) → Prop := fun u => po_Disk_bringDown a_b a_a a_n (k_underWay, k_homesUnderWay, k_on, k_stepsLeft, k_steps, k_down, k_written, k_order) (k_underWay, k_homesUnderWay, k_on, k_stepsLeft, k_steps, u, k_written, k_order)
set_option maxHeartbeats 4000000 in
set_option maxRecDepth 100000 in
theorem c_Disk_bringDown (l : Launch) (D : va_G) (cB cI cJ cZ : ClassId) (hDK hk_down hk_written hk_order : Nat) (sz : Nat) (a_b : Int32) (a_a : Int32) (a_n : Int32) (k_underWay : Int32) (k_homesUnderWay : Int64) (k_on : Int32) (k_stepsLeft : Int32) (k_steps : Int32) (k_down : Nat → Int32) (k_written : Nat → Int32) (k_order : Nat → Int32) (hpre : pr_Disk_bringDown a_b a_a a_n (k_underWay, k_homesUnderWay, k_on, k_stepsLeft, k_steps, k_down, k_written, k_order)) : ZMv l y_Disk_bringDown (Cond.code y_Disk_bringDown b_Disk_bringDown 5 none :: wA) RM_Disk_bringDown D vwCl (zTY cB cI cJ cZ) (AV_Disk_bringDown hDK a_b a_a a_n) (WS_Disk_bringDown cB cI cJ cZ hDK hk_down hk_written hk_order k_underWay k_homesUnderWay k_on k_stepsLeft k_steps k_down k_written k_order) sz (PO_Disk_bringDown a_b a_a a_n k_underWay k_homesUnderWay k_on k_stepsLeft k_steps k_down k_written k_order) (WF_Disk_bringDown cB cI cJ cZ hDK hk_down hk_written hk_order k_underWay k_homesUnderWay k_on k_stepsLeft k_steps k_written k_order) := by
  refine z_start_v (cc := b_Disk_bringDown) (maxL := 5) (ret := none) (own := "RedoJournal$Disk") (nm := "bringDown") (by decide) rfl rfl rfl (Nat.le_of_ble_eq_true rfl) ?_
  intro p e s m below meth c A ls C hK hz hA hP hD hS hl
  obtain ⟨hx, hb, hml, hown, hts, hr, hlocks, hnm⟩ := id C
  have hP : va_P D vwCl [(hDK, .inr (0, [.ref hk_down, .ref hk_written, .ref hk_order, .int k_underWay, .long k_homesUnderWay, .int k_on, .int k_stepsLeft, .int k_steps])), (hk_down, .inl (cB, 16384, .inl k_down)), (hk_written, .inl (cB, 16384, .inl k_written)), (hk_order, .inl (cI, 264, .inl k_order))] s.heap := hP
  have hD : va_D A [(hDK, .inr (0, [.ref hk_down, .ref hk_written, .ref hk_order, .int k_underWay, .long k_homesUnderWay, .int k_on, .int k_stepsLeft, .int k_steps])), (hk_down, .inl (cB, 16384, .inl k_down)), (hk_written, .inl (cB, 16384, .inl k_written)), (hk_order, .inl (cI, 264, .inl k_order))] := hD
  have hl : lv_has ls 5 [(0, .ref hDK), (1, .int a_b), (2, .int a_a), (3, .int a_n)] := hl
  refine lv_iload_n hx hb d_Disk_bringDown_0 rfl (lv_at hl 1 rfl) ?_
  refine z_ci (wc := []) (wr := [(hDK, .inr (0, [.ref hk_down, .ref hk_written, .ref hk_order, .int k_underWay, .long k_homesUnderWay, .int k_on, .int k_stepsLeft, .int k_steps])), (hk_down, .inl (cB, 16384, .inl k_down)), (hk_written, .inl (cB, 16384, .inl k_written)), (hk_order, .inl (cI, 264, .inl k_order))]) hP hD hS hA [] [0, 1, 2, 3] rfl rfl (by decide) (by decide) (va_runSN (As := [.int a_b]) (rest := []) ⟨hx, hb, hml, hown, hts⟩ (c_isHome l D cB cI cJ cZ  _ a_b (vc_Disk_bringDown_1_0 a_b a_a a_n k_underWay k_homesUnderWay k_on k_stepsLeft k_steps k_down k_written k_order hpre)) ⟨va_cnB 1 hts (gdC mA_152) rfl rfl rfl (hz _ (List.mem_of_getElem? (i := 2) rfl)) (hts _ (List.mem_cons_of_mem _ mA_63)) (by decide +kernel) ⟨Nat.le_of_ble_eq_true rfl, Nat.le_of_ble_eq_true rfl⟩, (hts _ (List.mem_cons_of_mem _ mA_151)), trivial⟩ ⟨zw_blind, (z_pre (wc := []) hK hz hP hD [] (by decide) rfl rfl)⟩ rfl rfl hl.1 rfl (lv_room (Nat.le_of_ble_eq_true rfl)) d_Disk_bringDown_1 ⟨Nat.zero_le _, Nat.zero_le _⟩) (fun r_1 u H locs w_1 hP hD hS => ?_)
  have w_1 : po_isHome a_b r_1 := w_1
  have hP : va_P D vwCl [(hDK, .inr (0, [.ref hk_down, .ref hk_written, .ref hk_order, .int k_underWay, .long k_homesUnderWay, .int k_on, .int k_stepsLeft, .int k_steps])), (hk_down, .inl (cB, 16384, .inl k_down)), (hk_written, .inl (cB, 16384, .inl k_written)), (hk_order, .inl (cI, 264, .inl k_order))] H := hP
  have hD : va_D A [(hDK, .inr (0, [.ref hk_down, .ref hk_written, .ref hk_order, .int k_underWay, .long k_homesUnderWay, .int k_on, .int k_stepsLeft, .int k_steps])), (hk_down, .inl (cB, 16384, .inl k_down)), (hk_written, .inl (cB, 16384, .inl k_written)), (hk_order, .inl (cI, 264, .inl k_order))] := hD
  refine lv_if_eq (tgt := 32) hx hb d_Disk_bringDown_4 (by decide) (fun c_4 => ?_) (fun c_4 => ?_)
  · exact z_vret (u := k_down) C (vc_Disk_bringDown_32_0 a_b a_a a_n k_underWay k_homesUnderWay k_on k_stepsLeft k_steps k_down k_written k_order r_1 hpre w_1 c_4) (hP.sub [0, 1, 2, 3] rfl) (hD.sub [0, 1, 2, 3] (by decide) rfl) hS d_Disk_bringDown_32
  · refine lv_iload_n hx hb d_Disk_bringDown_7 rfl (lv_at hl 1 rfl) ?_
    refine lv_sipush (v := 256) hx hb d_Disk_bringDown_8 (by decide) ?_
    refine lv_imul hx hb d_Disk_bringDown_11 ?_
    refine lv_iload_n hx hb d_Disk_bringDown_12 rfl (lv_at hl 2 rfl) ?_
    refine lv_iadd hx hb d_Disk_bringDown_13 ?_
    refine lv_topi (fun v_14 e_14 => ?_)
    refine lv_istore (lv' := [(4, .int v_14), (0, .ref hDK), (1, .int a_b), (2, .int a_a), (3, .int a_n)]) hx hb d_Disk_bringDown_14 hl (by decide) rfl (fun ls hl => ?_)
    refine lv_aload_n hx hb d_Disk_bringDown_16 rfl (lv_at hl 1 rfl) ?_
    refine va_get (D := D) (ci := 0) (v := .ref hk_written) (C := "RedoJournal$Disk") (T := TX0) (N := 8) hx hb hts (fun w h => List.mem_cons_of_mem _ (inX0 w h)) hown hK hP 0 rfl rfl 1 (by decide) (hts _ (List.mem_cons_of_mem _ mA_84)) (fun _ h9 => h9) rfl d_Disk_bringDown_17 ?_
    refine lv_iload hx hb d_Disk_bringDown_20 (lv_at hl 0 rfl) ?_
    refine lv_aload_n hx hb d_Disk_bringDown_22 rfl (lv_at hl 1 rfl) ?_
    refine va_get (D := D) (ci := 0) (v := .ref hk_down) (C := "RedoJournal$Disk") (T := TX0) (N := 8) hx hb hts (fun w h => List.mem_cons_of_mem _ (inX0 w h)) hown hK hP 0 rfl rfl 0 (by decide) (hts _ (List.mem_cons_of_mem _ mA_83)) (fun _ h9 => h9) rfl d_Disk_bringDown_23 ?_
    refine lv_iload hx hb d_Disk_bringDown_26 (lv_at hl 0 rfl) ?_
    refine lv_iload_n hx hb d_Disk_bringDown_28 rfl (lv_at hl 4 rfl) ?_
    have hv := (vc_Disk_bringDown_29_0 a_b a_a a_n k_underWay k_homesUnderWay k_on k_stepsLeft k_steps k_down k_written k_order r_1 v_14 hpre w_1 c_4 e_14)
    refine va_copyi hx hb (hml.trans hl.1.symm) hown (hts _ (List.mem_cons_of_mem _ mA_207)) (hts _ (List.mem_cons_of_mem _ mA_185)) (hts _ (List.mem_cons_of_mem _ mA_184)) (hts _ (List.mem_cons_of_mem _ mA_69)) hK hP hD hS 2 1 0 0 rfl rfl rfl rfl rfl hv.1 hv.2.1 hv.2.2.1 hv.2.2.2.1 hv.2.2.2.2.1 hv.2.2.2.2.2 (Nat.le_of_ble_eq_true rfl) (Nat.le_of_ble_eq_true rfl) d_Disk_bringDown_29 (fun H locs hP hD hS => ?_)
    have hP : va_P D vwCl [(hDK, .inr (0, [.ref hk_down, .ref hk_written, .ref hk_order, .int k_underWay, .long k_homesUnderWay, .int k_on, .int k_stepsLeft, .int k_steps])), (hk_down, .inl (cB, 16384, .inl (va_cpy k_written k_down (v_14).toNatClampNeg (v_14).toNatClampNeg (a_n).toNatClampNeg))), (hk_written, .inl (cB, 16384, .inl k_written)), (hk_order, .inl (cI, 264, .inl k_order))] H := hP
    have hD : va_D A [(hDK, .inr (0, [.ref hk_down, .ref hk_written, .ref hk_order, .int k_underWay, .long k_homesUnderWay, .int k_on, .int k_stepsLeft, .int k_steps])), (hk_down, .inl (cB, 16384, .inl (va_cpy k_written k_down (v_14).toNatClampNeg (v_14).toNatClampNeg (a_n).toNatClampNeg))), (hk_written, .inl (cB, 16384, .inl k_written)), (hk_order, .inl (cI, 264, .inl k_order))] := hD
    exact z_vret (u := (va_cpy k_written k_down (v_14).toNatClampNeg (v_14).toNatClampNeg (a_n).toNatClampNeg)) C (vc_Disk_bringDown_32_1 a_b a_a a_n k_underWay k_homesUnderWay k_on k_stepsLeft k_steps k_down k_written k_order r_1 v_14 hpre w_1 c_4 e_14) (hP.sub [0, 1, 2, 3] rfl) (hD.sub [0, 1, 2, 3] (by decide) rfl) hS d_Disk_bringDown_32
abbrev RM_Disk_makeNew : Room := { frames := 1, cells := 0, slots := 0, locals := 23 }
abbrev AV_Disk_makeNew (hDK : Nat) : List Value := [.ref hDK]
abbrev WS_Disk_makeNew (cB cI cJ cZ : ClassId) (hDK hk_down hk_written hk_order : Nat) (k_underWay : Int32) (k_homesUnderWay : Int64) (k_on : Int32) (k_stepsLeft : Int32) (k_steps : Int32) (k_down : Nat → Int32) (k_written : Nat → Int32) (k_order : Nat → Int32) : va_W := [(hDK, .inr (0, [.ref hk_down, .ref hk_written, .ref hk_order, .int k_underWay, .long k_homesUnderWay, .int k_on, .int k_stepsLeft, .int k_steps])), (hk_down, .inl (cB, 16384, .inl k_down)), (hk_written, .inl (cB, 16384, .inl k_written)), (hk_order, .inl (cI, 264, .inl k_order))]
abbrev WF_Disk_makeNew (cB cI cJ cZ : ClassId) (hDK hk_down hk_written hk_order : Nat) (k_order : Nat → Int32) : (Int32 × Int64 × Int32 × Int32 × Int32 × (Nat → Int32) × (Nat → Int32)) → va_W := fun u => [(hDK, .inr (0, [.ref hk_down, .ref hk_written, .ref hk_order, .int u.1, .long u.2.1, .int u.2.2.1, .int u.2.2.2.1, .int u.2.2.2.2.1])), (hk_down, .inl (cB, 16384, .inl u.2.2.2.2.2.1)), (hk_written, .inl (cB, 16384, .inl u.2.2.2.2.2.2)), (hk_order, .inl (cI, 264, .inl k_order))]
abbrev PO_Disk_makeNew (k_underWay : Int32) (k_homesUnderWay : Int64) (k_on : Int32) (k_stepsLeft : Int32) (k_steps : Int32) (k_down : Nat → Int32) (k_written : Nat → Int32) (k_order : Nat → Int32) : (Int32 × Int64 × Int32 × Int32 × Int32 × (Nat → Int32) × (Nat → Int32)) → Prop := fun u => po_Disk_makeNew (k_underWay, k_homesUnderWay, k_on, k_stepsLeft, k_steps, k_down, k_written, k_order) (u.1, u.2.1, u.2.2.1, u.2.2.2.1, u.2.2.2.2.1, u.2.2.2.2.2.1, u.2.2.2.2.2.2, k_order)
set_option maxHeartbeats 4000000 in
set_option maxRecDepth 100000 in
theorem c_Disk_makeNew (l : Launch) (D : va_G) (cB cI cJ cZ : ClassId) (hDK hk_down hk_written hk_order : Nat) (sz : Nat) (k_underWay : Int32) (k_homesUnderWay : Int64) (k_on : Int32) (k_stepsLeft : Int32) (k_steps : Int32) (k_down : Nat → Int32) (k_written : Nat → Int32) (k_order : Nat → Int32) (hpre : pr_Disk_makeNew (k_underWay, k_homesUnderWay, k_on, k_stepsLeft, k_steps, k_down, k_written, k_order)) : ZMv l y_Disk_makeNew (Cond.code y_Disk_makeNew b_Disk_makeNew 1 none :: wA) RM_Disk_makeNew D vwCl (zTY cB cI cJ cZ) (AV_Disk_makeNew hDK) (WS_Disk_makeNew cB cI cJ cZ hDK hk_down hk_written hk_order k_underWay k_homesUnderWay k_on k_stepsLeft k_steps k_down k_written k_order) sz (PO_Disk_makeNew k_underWay k_homesUnderWay k_on k_stepsLeft k_steps k_down k_written k_order) (WF_Disk_makeNew cB cI cJ cZ hDK hk_down hk_written hk_order k_order) := by
  refine z_start_v (cc := b_Disk_makeNew) (maxL := 1) (ret := none) (own := "RedoJournal$Disk") (nm := "makeNew") (by decide) rfl rfl rfl (Nat.le_of_ble_eq_true rfl) ?_
  intro p e s m below meth c A ls C hK hz hA hP hD hS hl
  obtain ⟨hx, hb, hml, hown, hts, hr, hlocks, hnm⟩ := id C
  have hP : va_P D vwCl [(hDK, .inr (0, [.ref hk_down, .ref hk_written, .ref hk_order, .int k_underWay, .long k_homesUnderWay, .int k_on, .int k_stepsLeft, .int k_steps])), (hk_down, .inl (cB, 16384, .inl k_down)), (hk_written, .inl (cB, 16384, .inl k_written)), (hk_order, .inl (cI, 264, .inl k_order))] s.heap := hP
  have hD : va_D A [(hDK, .inr (0, [.ref hk_down, .ref hk_written, .ref hk_order, .int k_underWay, .long k_homesUnderWay, .int k_on, .int k_stepsLeft, .int k_steps])), (hk_down, .inl (cB, 16384, .inl k_down)), (hk_written, .inl (cB, 16384, .inl k_written)), (hk_order, .inl (cI, 264, .inl k_order))] := hD
  have hl : lv_has ls 1 [(0, .ref hDK)] := hl
  refine lv_aload_n hx hb d_Disk_makeNew_0 rfl (lv_at hl 0 rfl) ?_
  refine va_get (D := D) (ci := 0) (v := .ref hk_down) (C := "RedoJournal$Disk") (T := TX0) (N := 8) hx hb hts (fun w h => List.mem_cons_of_mem _ (inX0 w h)) hown hK hP 0 rfl rfl 0 (by decide) (hts _ (List.mem_cons_of_mem _ mA_83)) (fun _ h9 => h9) rfl d_Disk_makeNew_1 ?_
  refine lv_iconst (v := 0) hx hb d_Disk_makeNew_4 (by decide) ?_
  refine z_cv (wc := [(hk_down, .inl (cB, 16384, .inl k_down))]) (wr := [(hDK, .inr (0, [.ref hk_down, .ref hk_written, .ref hk_order, .int k_underWay, .long k_homesUnderWay, .int k_on, .int k_stepsLeft, .int k_steps])), (hk_written, .inl (cB, 16384, .inl k_written)), (hk_order, .inl (cI, 264, .inl k_order))]) hP hD hS hA [1] [0, 2, 3] rfl rfl (by decide) (by decide) (va_runS (As := [.ref hk_down, .int 0]) (rest := []) ⟨hx, hb, hml, hown, hts⟩ (c_fillA l D cB cI cJ cZ hk_down _ 0 16384 k_down (vc_Disk_makeNew_5_0 k_underWay k_homesUnderWay k_on k_stepsLeft k_steps k_down k_written k_order hpre)) (va_cwS 2 hts (gdS mA_128 mA_129 mA_67 mA_130) rfl rfl rfl (by decide +kernel) ⟨Nat.le_of_ble_eq_true rfl, Nat.le_of_ble_eq_true rfl⟩) ⟨zw_blind, (z_pre (wc := [(hk_down, .inl (cB, 16384, .inl k_down))]) hK hz hP hD [1] (by decide) rfl rfl)⟩ rfl rfl hl.1 rfl (lv_room (Nat.le_of_ble_eq_true rfl)) d_Disk_makeNew_5 ⟨Nat.zero_le _, Nat.zero_le _⟩) (fun u H locs w_5 hP hD hS => ?_)
  obtain ⟨ar_5, rfl⟩ : ∃ z, z = u := ⟨_, rfl⟩
  have w_5 : po_fillA 0 16384 k_down ar_5 := w_5
  have hP : va_P D vwCl [(hDK, .inr (0, [.ref hk_down, .ref hk_written, .ref hk_order, .int k_underWay, .long k_homesUnderWay, .int k_on, .int k_stepsLeft, .int k_steps])), (hk_written, .inl (cB, 16384, .inl k_written)), (hk_order, .inl (cI, 264, .inl k_order)), (hk_down, .inl (cB, 16384, .inl ar_5))] H := hP
  have hD : va_D A [(hDK, .inr (0, [.ref hk_down, .ref hk_written, .ref hk_order, .int k_underWay, .long k_homesUnderWay, .int k_on, .int k_stepsLeft, .int k_steps])), (hk_written, .inl (cB, 16384, .inl k_written)), (hk_order, .inl (cI, 264, .inl k_order)), (hk_down, .inl (cB, 16384, .inl ar_5))] := hD
  refine lv_aload_n hx hb d_Disk_makeNew_8 rfl (lv_at hl 0 rfl) ?_
  refine va_get (D := D) (ci := 0) (v := .ref hk_written) (C := "RedoJournal$Disk") (T := TX0) (N := 8) hx hb hts (fun w h => List.mem_cons_of_mem _ (inX0 w h)) hown hK hP 0 rfl rfl 1 (by decide) (hts _ (List.mem_cons_of_mem _ mA_84)) (fun _ h9 => h9) rfl d_Disk_makeNew_9 ?_
  refine lv_iconst (v := 0) hx hb d_Disk_makeNew_12 (by decide) ?_
  refine z_cv (wc := [(hk_written, .inl (cB, 16384, .inl k_written))]) (wr := [(hDK, .inr (0, [.ref hk_down, .ref hk_written, .ref hk_order, .int k_underWay, .long k_homesUnderWay, .int k_on, .int k_stepsLeft, .int k_steps])), (hk_order, .inl (cI, 264, .inl k_order)), (hk_down, .inl (cB, 16384, .inl ar_5))]) hP hD hS hA [1] [0, 2, 3] rfl rfl (by decide) (by decide) (va_runS (As := [.ref hk_written, .int 0]) (rest := []) ⟨hx, hb, hml, hown, hts⟩ (c_fillA l D cB cI cJ cZ hk_written _ 0 16384 k_written (vc_Disk_makeNew_13_0 k_underWay k_homesUnderWay k_on k_stepsLeft k_steps k_down k_written k_order ar_5 hpre w_5)) (va_cwS 2 hts (gdS mA_128 mA_129 mA_67 mA_130) rfl rfl rfl (by decide +kernel) ⟨Nat.le_of_ble_eq_true rfl, Nat.le_of_ble_eq_true rfl⟩) ⟨zw_blind, (z_pre (wc := [(hk_written, .inl (cB, 16384, .inl k_written))]) hK hz hP hD [1] (by decide) rfl rfl)⟩ rfl rfl hl.1 rfl (lv_room (Nat.le_of_ble_eq_true rfl)) d_Disk_makeNew_13 ⟨Nat.zero_le _, Nat.zero_le _⟩) (fun u H locs w_13 hP hD hS => ?_)
  obtain ⟨ar_13, rfl⟩ : ∃ z, z = u := ⟨_, rfl⟩
  have w_13 : po_fillA 0 16384 k_written ar_13 := w_13
  have hP : va_P D vwCl [(hDK, .inr (0, [.ref hk_down, .ref hk_written, .ref hk_order, .int k_underWay, .long k_homesUnderWay, .int k_on, .int k_stepsLeft, .int k_steps])), (hk_order, .inl (cI, 264, .inl k_order)), (hk_down, .inl (cB, 16384, .inl ar_5)), (hk_written, .inl (cB, 16384, .inl ar_13))] H := hP
  have hD : va_D A [(hDK, .inr (0, [.ref hk_down, .ref hk_written, .ref hk_order, .int k_underWay, .long k_homesUnderWay, .int k_on, .int k_stepsLeft, .int k_steps])), (hk_order, .inl (cI, 264, .inl k_order)), (hk_down, .inl (cB, 16384, .inl ar_5)), (hk_written, .inl (cB, 16384, .inl ar_13))] := hD
  refine lv_aload_n hx hb d_Disk_makeNew_16 rfl (lv_at hl 0 rfl) ?_
  refine z_cv (wc := [(hDK, .inr (0, [.ref hk_down, .ref hk_written, .ref hk_order, .int k_underWay, .long k_homesUnderWay, .int k_on, .int k_stepsLeft, .int k_steps])), (hk_down, .inl (cB, 16384, .inl ar_5)), (hk_written, .inl (cB, 16384, .inl ar_13)), (hk_order, .inl (cI, 264, .inl k_order))]) (wr := []) hP hD hS hA [0, 2, 3, 1] [] rfl rfl (by decide) (by decide) (va_runV (As := []) (rest := []) ⟨hx, hb, hml, hown, hts⟩ (c_Disk_forgetUnderWay l D cB cI cJ cZ hDK hk_down hk_written hk_order _ k_underWay k_homesUnderWay k_on k_stepsLeft k_steps ar_5 ar_13 k_order (vc_Disk_makeNew_17_0 k_underWay k_homesUnderWay k_on k_stepsLeft k_steps k_down k_written k_order ar_5 ar_13 hpre w_5 w_13)) (cwV 0 hts (gdV mA_131 mA_132 mA_133 mA_64 mA_134) rfl rfl rfl (by decide +kernel) ⟨Nat.le_of_ble_eq_true rfl, Nat.le_of_ble_eq_true rfl⟩) ⟨zw_blind, va_recv hK hP (ci := 0) (q0 := 0) rfl rfl, (z_pre (wc := [(hDK, .inr (0, [.ref hk_down, .ref hk_written, .ref hk_order, .int k_underWay, .long k_homesUnderWay, .int k_on, .int k_stepsLeft, .int k_steps])), (hk_down, .inl (cB, 16384, .inl ar_5)), (hk_written, .inl (cB, 16384, .inl ar_13)), (hk_order, .inl (cI, 264, .inl k_order))]) hK hz hP hD [0, 2, 3, 1] (by decide) rfl rfl)⟩ rfl rfl hl.1 rfl (lv_room (Nat.le_of_ble_eq_true rfl)) d_Disk_makeNew_17 ⟨Nat.zero_le _, Nat.zero_le _⟩) (fun u H locs w_17 hP hD hS => ?_)
  obtain ⟨k_underWay_17, k_homesUnderWay_17⟩ := u
  have w_17 : po_Disk_forgetUnderWay (k_underWay, k_homesUnderWay, k_on, k_stepsLeft, k_steps, ar_5, ar_13, k_order) (k_underWay_17, k_homesUnderWay_17, k_on, k_stepsLeft, k_steps, ar_5, ar_13, k_order) := w_17
  have hP : va_P D vwCl [(hDK, .inr (0, [.ref hk_down, .ref hk_written, .ref hk_order, .int k_underWay_17, .long k_homesUnderWay_17, .int k_on, .int k_stepsLeft, .int k_steps])), (hk_down, .inl (cB, 16384, .inl ar_5)), (hk_written, .inl (cB, 16384, .inl ar_13)), (hk_order, .inl (cI, 264, .inl k_order))] H := hP
  have hD : va_D A [(hDK, .inr (0, [.ref hk_down, .ref hk_written, .ref hk_order, .int k_underWay_17, .long k_homesUnderWay_17, .int k_on, .int k_stepsLeft, .int k_steps])), (hk_down, .inl (cB, 16384, .inl ar_5)), (hk_written, .inl (cB, 16384, .inl ar_13)), (hk_order, .inl (cI, 264, .inl k_order))] := hD
  refine lv_aload_n hx hb d_Disk_makeNew_20 rfl (lv_at hl 0 rfl) ?_
  refine lv_iconst (v := 1) hx hb d_Disk_makeNew_21 (by decide) ?_
  refine va_put (D := D) (ci := 0) (v := .int 1) (ty := .boolean) (C := "RedoJournal$Disk") (T := TX0) (N := 8) hx hb hts (fun w h => List.mem_cons_of_mem _ (inX0 w h)) tyX0 tyX0_ok nmX0 hown hK hP hD hS 0 rfl rfl 5 (by decide) (hts _ (List.mem_cons_of_mem _ mA_90)) (fun _ h9 => h9) rfl (by decide +kernel) (by decide) (by decide) (Nat.le_of_ble_eq_true rfl) d_Disk_makeNew_22 (fun H locs hP hD hS => ?_)
  have hP : va_P D vwCl [(hDK, .inr (0, [.ref hk_down, .ref hk_written, .ref hk_order, .int k_underWay_17, .long k_homesUnderWay_17, .int 1, .int k_stepsLeft, .int k_steps])), (hk_down, .inl (cB, 16384, .inl ar_5)), (hk_written, .inl (cB, 16384, .inl ar_13)), (hk_order, .inl (cI, 264, .inl k_order))] H := hP
  have hD : va_D A [(hDK, .inr (0, [.ref hk_down, .ref hk_written, .ref hk_order, .int k_underWay_17, .long k_homesUnderWay_17, .int 1, .int k_stepsLeft, .int k_steps])), (hk_down, .inl (cB, 16384, .inl ar_5)), (hk_written, .inl (cB, 16384, .inl ar_13)), (hk_order, .inl (cI, 264, .inl k_order))] := hD
  refine lv_aload_n hx hb d_Disk_makeNew_25 rfl (lv_at hl 0 rfl) ?_
  refine lv_iconst (v := (-1)) hx hb d_Disk_makeNew_26 (by decide) ?_
  refine va_put (D := D) (ci := 0) (v := .int (-1)) (ty := .int) (C := "RedoJournal$Disk") (T := TX0) (N := 8) hx hb hts (fun w h => List.mem_cons_of_mem _ (inX0 w h)) tyX0 tyX0_ok nmX0 hown hK hP hD hS 0 rfl rfl 6 (by decide) (hts _ (List.mem_cons_of_mem _ mA_92)) (fun _ h9 => h9) rfl (by decide +kernel) rfl rfl (Nat.le_of_ble_eq_true rfl) d_Disk_makeNew_27 (fun H locs hP hD hS => ?_)
  have hP : va_P D vwCl [(hDK, .inr (0, [.ref hk_down, .ref hk_written, .ref hk_order, .int k_underWay_17, .long k_homesUnderWay_17, .int 1, .int (-1), .int k_steps])), (hk_down, .inl (cB, 16384, .inl ar_5)), (hk_written, .inl (cB, 16384, .inl ar_13)), (hk_order, .inl (cI, 264, .inl k_order))] H := hP
  have hD : va_D A [(hDK, .inr (0, [.ref hk_down, .ref hk_written, .ref hk_order, .int k_underWay_17, .long k_homesUnderWay_17, .int 1, .int (-1), .int k_steps])), (hk_down, .inl (cB, 16384, .inl ar_5)), (hk_written, .inl (cB, 16384, .inl ar_13)), (hk_order, .inl (cI, 264, .inl k_order))] := hD
  refine lv_aload_n hx hb d_Disk_makeNew_30 rfl (lv_at hl 0 rfl) ?_
  refine lv_iconst (v := 0) hx hb d_Disk_makeNew_31 (by decide) ?_
  refine va_put (D := D) (ci := 0) (v := .int 0) (ty := .int) (C := "RedoJournal$Disk") (T := TX0) (N := 8) hx hb hts (fun w h => List.mem_cons_of_mem _ (inX0 w h)) tyX0 tyX0_ok nmX0 hown hK hP hD hS 0 rfl rfl 7 (by decide) (hts _ (List.mem_cons_of_mem _ mA_94)) (fun _ h9 => h9) rfl (by decide +kernel) rfl rfl (Nat.le_of_ble_eq_true rfl) d_Disk_makeNew_32 (fun H locs hP hD hS => ?_)
  have hP : va_P D vwCl [(hDK, .inr (0, [.ref hk_down, .ref hk_written, .ref hk_order, .int k_underWay_17, .long k_homesUnderWay_17, .int 1, .int (-1), .int 0])), (hk_down, .inl (cB, 16384, .inl ar_5)), (hk_written, .inl (cB, 16384, .inl ar_13)), (hk_order, .inl (cI, 264, .inl k_order))] H := hP
  have hD : va_D A [(hDK, .inr (0, [.ref hk_down, .ref hk_written, .ref hk_order, .int k_underWay_17, .long k_homesUnderWay_17, .int 1, .int (-1), .int 0])), (hk_down, .inl (cB, 16384, .inl ar_5)), (hk_written, .inl (cB, 16384, .inl ar_13)), (hk_order, .inl (cI, 264, .inl k_order))] := hD
  exact z_vret (u := (k_underWay_17, k_homesUnderWay_17, 1, (-1), 0, ar_5, ar_13)) C (vc_Disk_makeNew_35_0 k_underWay k_homesUnderWay k_on k_stepsLeft k_steps k_down k_written k_order ar_5 ar_13 k_underWay_17 k_homesUnderWay_17 hpre w_5 w_13 w_17) (hP.sub [0, 1, 2, 3] rfl) (hD.sub [0, 1, 2, 3] (by decide) rfl) hS d_Disk_makeNew_35
