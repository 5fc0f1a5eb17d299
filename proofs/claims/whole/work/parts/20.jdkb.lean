abbrev RM_bitCount : Room := { frames := 0, cells := 0, slots := 0, locals := 0 }
abbrev AV_bitCount (a_x : Int64) : List Value := [.long a_x]
abbrev WS_bitCount (cB cI cJ cZ : ClassId) : va_W := []
abbrev WF_bitCount (cB cI cJ cZ : ClassId) : Unit → va_W := fun u => []
abbrev PO_bitCount (a_x : Int64) : Int32 → Unit → Prop := fun r u => po_bitCount a_x r
set_option maxHeartbeats 4000000 in
set_option maxRecDepth 100000 in
theorem c_bitCount (l : Launch) (D : va_G) (cB cI cJ cZ : ClassId) (sz : Nat) (a_x : Int64) (hpre : pr_bitCount a_x) : ZMi l y_Long_bitCount (Cond.code y_Long_bitCount b_Long_bitCount 2 (some .int) :: wA) RM_bitCount D vwCl (zTY cB cI cJ cZ) (AV_bitCount a_x) (WS_bitCount cB cI cJ cZ ) sz (PO_bitCount a_x) (WF_bitCount cB cI cJ cZ ) := by
  refine z_start_i (cc := b_Long_bitCount) (maxL := 2) (ret := (some .int)) (own := "java/lang/Long") (nm := "bitCount") (by decide) rfl rfl rfl (Nat.le_of_ble_eq_true rfl) ?_
  intro p e s m below meth c A ls C hK hz hA hP hD hS hl
  obtain ⟨hx, hb, hml, hown, hts, hr, hlocks, hnm⟩ := id C
  have hP : va_P D vwCl [] s.heap := hP
  have hD : va_D A [] := hD
  have hl : lv_has ls 2 [(0, .long a_x)] := hl
  refine lv_lload_n hx hb d_Long_bitCount_0 rfl (lv_at hl 0 rfl) ?_
  refine lv_lload_n hx hb d_Long_bitCount_1 rfl (lv_at hl 0 rfl) ?_
  refine lv_iconst (v := 1) hx hb d_Long_bitCount_2 (by decide) ?_
  refine lv_lushr (v := ((Int64.toUInt64 a_x) >>> ((Int32.toInt64 1).toUInt64 &&& Int64.toUInt64 63)).toInt64) hx hb d_Long_bitCount_3 rfl ?_
  refine lv_ldc2 (v := 6148914691236517205) hx hb hown (hts _ (List.mem_cons_of_mem _ mA_165)) d_Long_bitCount_4 ?_
  refine lv_land hx hb d_Long_bitCount_7 ?_
  refine lv_lsub hx hb d_Long_bitCount_8 ?_
  refine lv_topl (fun v_9 e_9 => ?_)
  refine lv_lstore_n (lv' := [(0, .long v_9)]) hx hb d_Long_bitCount_9 rfl hl (by decide) rfl (fun ls hl => ?_)
  refine lv_lload_n hx hb d_Long_bitCount_10 rfl (lv_at hl 0 rfl) ?_
  refine lv_ldc2 (v := 3689348814741910323) hx hb hown (hts _ (List.mem_cons_of_mem _ mA_166)) d_Long_bitCount_11 ?_
  refine lv_land hx hb d_Long_bitCount_14 ?_
  refine lv_lload_n hx hb d_Long_bitCount_15 rfl (lv_at hl 0 rfl) ?_
  refine lv_iconst (v := 2) hx hb d_Long_bitCount_16 (by decide) ?_
  refine lv_lushr (v := ((Int64.toUInt64 v_9) >>> ((Int32.toInt64 2).toUInt64 &&& Int64.toUInt64 63)).toInt64) hx hb d_Long_bitCount_17 rfl ?_
  refine lv_ldc2 (v := 3689348814741910323) hx hb hown (hts _ (List.mem_cons_of_mem _ mA_166)) d_Long_bitCount_18 ?_
  refine lv_land hx hb d_Long_bitCount_21 ?_
  refine lv_ladd hx hb d_Long_bitCount_22 ?_
  refine lv_topl (fun v_23 e_23 => ?_)
  refine lv_lstore_n (lv' := [(0, .long v_23)]) hx hb d_Long_bitCount_23 rfl hl (by decide) rfl (fun ls hl => ?_)
  refine lv_lload_n hx hb d_Long_bitCount_24 rfl (lv_at hl 0 rfl) ?_
  refine lv_lload_n hx hb d_Long_bitCount_25 rfl (lv_at hl 0 rfl) ?_
  refine lv_iconst (v := 4) hx hb d_Long_bitCount_26 (by decide) ?_
  refine lv_lushr (v := ((Int64.toUInt64 v_23) >>> ((Int32.toInt64 4).toUInt64 &&& Int64.toUInt64 63)).toInt64) hx hb d_Long_bitCount_27 rfl ?_
  refine lv_ladd hx hb d_Long_bitCount_28 ?_
  refine lv_ldc2 (v := 1085102592571150095) hx hb hown (hts _ (List.mem_cons_of_mem _ mA_167)) d_Long_bitCount_29 ?_
  refine lv_land hx hb d_Long_bitCount_32 ?_
  refine lv_topl (fun v_33 e_33 => ?_)
  refine lv_lstore_n (lv' := [(0, .long v_33)]) hx hb d_Long_bitCount_33 rfl hl (by decide) rfl (fun ls hl => ?_)
  refine lv_lload_n hx hb d_Long_bitCount_34 rfl (lv_at hl 0 rfl) ?_
  refine lv_lload_n hx hb d_Long_bitCount_35 rfl (lv_at hl 0 rfl) ?_
  refine lv_bipush (v := 8) hx hb d_Long_bitCount_36 (by decide) ?_
  refine lv_lushr (v := ((Int64.toUInt64 v_33) >>> ((Int32.toInt64 8).toUInt64 &&& Int64.toUInt64 63)).toInt64) hx hb d_Long_bitCount_38 rfl ?_
  refine lv_ladd hx hb d_Long_bitCount_39 ?_
  refine lv_topl (fun v_40 e_40 => ?_)
  refine lv_lstore_n (lv' := [(0, .long v_40)]) hx hb d_Long_bitCount_40 rfl hl (by decide) rfl (fun ls hl => ?_)
  refine lv_lload_n hx hb d_Long_bitCount_41 rfl (lv_at hl 0 rfl) ?_
  refine lv_lload_n hx hb d_Long_bitCount_42 rfl (lv_at hl 0 rfl) ?_
  refine lv_bipush (v := 16) hx hb d_Long_bitCount_43 (by decide) ?_
  refine lv_lushr (v := ((Int64.toUInt64 v_40) >>> ((Int32.toInt64 16).toUInt64 &&& Int64.toUInt64 63)).toInt64) hx hb d_Long_bitCount_45 rfl ?_
  refine lv_ladd hx hb d_Long_bitCount_46 ?_
  refine lv_topl (fun v_47 e_47 => ?_)
  refine lv_lstore_n (lv' := [(0, .long v_47)]) hx hb d_Long_bitCount_47 rfl hl (by decide) rfl (fun ls hl => ?_)
  refine lv_lload_n hx hb d_Long_bitCount_48 rfl (lv_at hl 0 rfl) ?_
  refine lv_lload_n hx hb d_Long_bitCount_49 rfl (lv_at hl 0 rfl) ?_
  refine lv_bipush (v := 32) hx hb d_Long_bitCount_50 (by decide) ?_
  refine lv_lushr (v := ((Int64.toUInt64 v_47) >>> ((Int32.toInt64 32).toUInt64 &&& Int64.toUInt64 63)).toInt64) hx hb d_Long_bitCount_52 rfl ?_
  refine lv_ladd hx hb d_Long_bitCount_53 ?_
  refine lv_topl (fun v_54 e_54 => ?_)
  refine lv_lstore_n (lv' := [(0, .long v_54)]) hx hb d_Long_bitCount_54 rfl hl (by decide) rfl (fun ls hl => ?_)
  refine lv_lload_n hx hb d_Long_bitCount_55 rfl (lv_at hl 0 rfl) ?_
  refine lv_l2i (v := (Int64.toInt32 v_54)) hx hb d_Long_bitCount_56 rfl ?_
  refine lv_bipush (v := 127) hx hb d_Long_bitCount_57 (by decide) ?_
  refine lv_iand hx hb d_Long_bitCount_59 ?_
  exact z_iret (u := ()) C (vc_bitCount_60_0 a_x v_9 v_23 v_33 v_40 v_47 v_54 hpre e_9 e_23 e_33 e_40 e_47 e_54) (hP.sub [] rfl) (hD.sub [] (by decide) rfl) hS d_Long_bitCount_60
abbrev RM_rangeCheck : Room := { frames := 0, cells := 0, slots := 0, locals := 0 }
abbrev AV_rangeCheck (a_n : Int32) (a_fr : Int32) (a_to : Int32) : List Value := [.int a_n, .int a_fr, .int a_to]
abbrev WS_rangeCheck (cB cI cJ cZ : ClassId) : va_W := []
abbrev WF_rangeCheck (cB cI cJ cZ : ClassId) : Unit → va_W := fun u => []
abbrev PO_rangeCheck (a_n : Int32) (a_fr : Int32) (a_to : Int32) : Unit → Prop := fun u => po_rangeCheck a_n a_fr a_to
set_option maxHeartbeats 4000000 in
set_option maxRecDepth 100000 in
theorem c_rangeCheck (l : Launch) (D : va_G) (cB cI cJ cZ : ClassId) (sz : Nat) (a_n : Int32) (a_fr : Int32) (a_to : Int32) (hpre : pr_rangeCheck a_n a_fr a_to) : ZMv l y_Arr_rangeCheck (Cond.code y_Arr_rangeCheck b_Arr_rangeCheck 3 none :: wA) RM_rangeCheck D vwCl (zTY cB cI cJ cZ) (AV_rangeCheck a_n a_fr a_to) (WS_rangeCheck cB cI cJ cZ ) sz (PO_rangeCheck a_n a_fr a_to) (WF_rangeCheck cB cI cJ cZ ) := by
  refine z_start_v (cc := b_Arr_rangeCheck) (maxL := 3) (ret := none) (own := "java/util/Arrays") (nm := "rangeCheck") (by decide) rfl rfl rfl (Nat.le_of_ble_eq_true rfl) ?_
  intro p e s m below meth c A ls C hK hz hA hP hD hS hl
  obtain ⟨hx, hb, hml, hown, hts, hr, hlocks, hnm⟩ := id C
  have hP : va_P D vwCl [] s.heap := hP
  have hD : va_D A [] := hD
  have hl : lv_has ls 3 [(0, .int a_n), (1, .int a_fr), (2, .int a_to)] := hl
  refine lv_iload_n hx hb d_Arr_rangeCheck_0 rfl (lv_at hl 1 rfl) ?_
  refine lv_iload_n hx hb d_Arr_rangeCheck_1 rfl (lv_at hl 2 rfl) ?_
  refine lv_icmp_le (tgt := 46) hx hb d_Arr_rangeCheck_2 (by decide) (fun c_2 => ?_) (fun c_2 => ?_)
  · refine lv_iload_n hx hb d_Arr_rangeCheck_46 rfl (lv_at hl 1 rfl) ?_
    refine lv_if_ge (tgt := 59) hx hb d_Arr_rangeCheck_47 (by decide) (fun c_47 => ?_) (fun c_47 => ?_)
    · refine lv_iload_n hx hb d_Arr_rangeCheck_59 rfl (lv_at hl 2 rfl) ?_
      refine lv_iload_n hx hb d_Arr_rangeCheck_60 rfl (lv_at hl 0 rfl) ?_
      refine lv_icmp_le (tgt := 73) hx hb d_Arr_rangeCheck_61 (by decide) (fun c_61 => ?_) (fun c_61 => ?_)
      · exact z_vret (u := ()) C (vc_rangeCheck_73_0 a_n a_fr a_to hpre c_2 c_47 c_61) (hP.sub [] rfl) (hD.sub [] (by decide) rfl) hS d_Arr_rangeCheck_73
      · exact False.elim (vc_rangeCheck_64_0 a_n a_fr a_to hpre c_2 c_47 c_61)
    · exact False.elim (vc_rangeCheck_50_0 a_n a_fr a_to hpre c_2 c_47)
  · exact False.elim (vc_rangeCheck_5_0 a_n a_fr a_to hpre c_2)
abbrev RM_fillA : Room := { frames := 0, cells := 0, slots := 0, locals := 0 }
abbrev AV_fillA (har : Nat) (a_v : Int32) : List Value := [.ref har, .int a_v]
abbrev WS_fillA (cB cI cJ cZ : ClassId) (har : Nat) (nar : Nat) (ar : Nat → Int32) : va_W := [(har, .inl (cB, nar, .inl ar))]
abbrev WF_fillA (cB cI cJ cZ : ClassId) (har : Nat) (nar : Nat) : ((Nat → Int32)) → va_W := fun u => [(har, .inl (cB, nar, .inl u))]
abbrev PO_fillA (a_v : Int32) (nar : Nat) (ar : Nat → Int32) : ((Nat → Int32)) → Prop := fun u => po_fillA a_v nar ar u
def LP_fillA_5 (l : Launch) (D : va_G) (cB cI cJ cZ : ClassId) (har : Nat) (a_v : Int32) (nar : Nat) (ar : Nat → Int32) (p : Program) (e : Env) (s : State) (m : MethodId) (below : List Frame) (meth : Method) (c : Code) (A : Nat → Prop) (n : Nat) : Prop := ∀ (x2 : Int32) (x3 : Int32) (ar_i : Nat → Int32) (H : Heap) (locs : List Loc) (ls : Array Slot), iv_fillA_5 a_v nar ar x2 x3 ar_i → mu_fillA_5 a_v nar ar x2 x3 ar_i < n → va_P D vwCl [(har, .inl (cB, nar, .inl ar_i))] H → va_D A [(har, .inl (cB, nar, .inl ar_i))] → va_S A s.heap H locs → lv_has ls 4 [(0, .ref har), (1, .int a_v), (2, .int x2), (3, .int x3)] → W p l e RM_fillA s m (AV_fillA har a_v).toArray below meth c H locs 0 0 (MQ below (va_Qv (PO_fillA a_v nar ar) (zB D vwCl A (WF_fillA cB cI cJ cZ har nar)) A) (AV_fillA har a_v).toArray s 0 0 A) (F0 m 5 ls [])
set_option maxHeartbeats 4000000 in
set_option maxRecDepth 100000 in
theorem lt_fillA_5 {l : Launch} {D : va_G} {cB cI cJ cZ : ClassId} {har : Nat} {a_v : Int32} {nar : Nat} {ar : Nat → Int32} {p : Program} {e : Env} {s : State} {m : MethodId} {below : List Frame} {meth : Method} {c : Code} {A : Nat → Prop} (C : zcx b_Arr_fillA 4 none "java/util/Arrays" "fill" (Cond.code y_Arr_fillA b_Arr_fillA 4 none :: wA) p s m (AV_fillA har a_v).toArray meth c) (hK : va_K D vwCl (zTY cB cI cJ cZ) s) (hz : zn s) (hA : ∀ q : Nat, s.heap.size ≤ q → A q) (hpre : pr_fillA a_v nar ar) (n : Nat) (ih_5 : LP_fillA_5 l D cB cI cJ cZ har a_v nar ar p e s m below meth c A n) : LP_fillA_5 l D cB cI cJ cZ har a_v nar ar p e s m below meth c A (n + 1) := by
  intro x2 x3 ar_i H locs ls hinv hmu hP hD hS hl
  obtain ⟨hx, hb, hml, hown, hts, hr, hlocks, hnm⟩ := id C
  refine lv_iload_n hx hb d_Arr_fillA_5 rfl (lv_at hl 2 rfl) ?_
  refine lv_iload_n hx hb d_Arr_fillA_6 rfl (lv_at hl 3 rfl) ?_
  refine lv_icmp_ge (tgt := 20) hx hb d_Arr_fillA_7 (by decide) (fun c_7 => ?_) (fun c_7 => ?_)
  · exact z_vret (u := ar_i) C (vc_fillA_20_0 a_v nar ar x2 x3 ar_i hpre hinv c_7) (hP.sub [0] rfl) (hD.sub [0] (by decide) rfl) hS d_Arr_fillA_20
  · refine lv_aload_n hx hb d_Arr_fillA_10 rfl (lv_at hl 0 rfl) ?_
    refine lv_iload_n hx hb d_Arr_fillA_11 rfl (lv_at hl 2 rfl) ?_
    refine lv_iload_n hx hb d_Arr_fillA_12 rfl (lv_at hl 1 rfl) ?_
    refine va_bast hx hb hK hP hD hS 0 0 rfl rfl (vc_fillA_13_0 a_v nar ar x2 x3 ar_i hpre hinv c_7) d_Arr_fillA_13 (fun H locs hP hD hS => ?_)
    have hP : va_P D vwCl [(har, .inl (cB, nar, .inl (upd ar_i (x2).toNatClampNeg (vp_nar .byte a_v))))] H := hP
    have hD : va_D A [(har, .inl (cB, nar, .inl (upd ar_i (x2).toNatClampNeg (vp_nar .byte a_v))))] := hD
    obtain ⟨v_14, e_14⟩ : ∃ y : Int32, y = x2 + 1 := ⟨_, rfl⟩
    refine lv_iinc (v := v_14) (lv' := [(2, .int v_14), (0, .ref har), (1, .int a_v), (3, .int x3)]) hx hb d_Arr_fillA_14 hl (k := 2) rfl (by rw [e_14]; rfl) (by decide) rfl (fun ls hl => ?_)
    refine lv_goto (tgt := 5) hx hb d_Arr_fillA_17 (by decide) ?_
    have hv := (vc_fillA_17_0 a_v nar ar x2 x3 ar_i v_14 hpre hinv c_7 e_14)
    exact ih_5 v_14 x3 (upd ar_i (x2).toNatClampNeg (vp_nar .byte a_v)) _ _ _ hv.1 (Nat.lt_of_lt_of_le hv.2 (Nat.le_of_lt_succ hmu)) (hP.sub [0] rfl) (hD.sub [0] (by decide) rfl) hS (lv_sub hl [1, 2, 0, 3] rfl)
theorem la_fillA {l : Launch} {D : va_G} {cB cI cJ cZ : ClassId} {har : Nat} {a_v : Int32} {nar : Nat} {ar : Nat → Int32} {p : Program} {e : Env} {s : State} {m : MethodId} {below : List Frame} {meth : Method} {c : Code} {A : Nat → Prop} (C : zcx b_Arr_fillA 4 none "java/util/Arrays" "fill" (Cond.code y_Arr_fillA b_Arr_fillA 4 none :: wA) p s m (AV_fillA har a_v).toArray meth c) (hK : va_K D vwCl (zTY cB cI cJ cZ) s) (hz : zn s) (hA : ∀ q : Nat, s.heap.size ≤ q → A q) (hpre : pr_fillA a_v nar ar) : ∀ n : Nat, LP_fillA_5 l D cB cI cJ cZ har a_v nar ar p e s m below meth c A n := by
  intro n
  induction n with
  | zero => exact fun _ _ _ _ _ _ _ hmu => absurd hmu (Nat.not_lt_zero _)
  | succ n ih => exact lt_fillA_5 (l := l) (e := e) (below := below) C hK hz hA hpre n ih
set_option maxHeartbeats 4000000 in
set_option maxRecDepth 100000 in
theorem c_fillA (l : Launch) (D : va_G) (cB cI cJ cZ : ClassId) (har : Nat) (sz : Nat) (a_v : Int32) (nar : Nat) (ar : Nat → Int32) (hpre : pr_fillA a_v nar ar) : ZMv l y_Arr_fillA (Cond.code y_Arr_fillA b_Arr_fillA 4 none :: wA) RM_fillA D vwCl (zTY cB cI cJ cZ) (AV_fillA har a_v) (WS_fillA cB cI cJ cZ har nar ar) sz (PO_fillA a_v nar ar) (WF_fillA cB cI cJ cZ har nar) := by
  refine z_start_v (cc := b_Arr_fillA) (maxL := 4) (ret := none) (own := "java/util/Arrays") (nm := "fill") (by decide) rfl rfl rfl (Nat.le_of_ble_eq_true rfl) ?_
  intro p e s m below meth c A ls C hK hz hA hP hD hS hl
  obtain ⟨hx, hb, hml, hown, hts, hr, hlocks, hnm⟩ := id C
  have hP : va_P D vwCl [(har, .inl (cB, nar, .inl ar))] s.heap := hP
  have hD : va_D A [(har, .inl (cB, nar, .inl ar))] := hD
  have hl : lv_has ls 4 [(0, .ref har), (1, .int a_v)] := hl
  refine lv_iconst (v := 0) hx hb d_Arr_fillA_0 (by decide) ?_
  refine lv_istore_n (lv' := [(2, .int 0), (0, .ref har), (1, .int a_v)]) hx hb d_Arr_fillA_1 rfl hl (by decide) rfl (fun ls hl => ?_)
  refine lv_aload_n hx hb d_Arr_fillA_2 rfl (lv_at hl 1 rfl) ?_
  refine va_alen hx hb hK hP 0 0 rfl rfl (v := (nI nar)) rfl d_Arr_fillA_3 ?_
  refine lv_topi (fun v_4 e_4 => ?_)
  refine lv_istore_n (lv' := [(3, .int v_4), (2, .int 0), (0, .ref har), (1, .int a_v)]) hx hb d_Arr_fillA_4 rfl hl (by decide) rfl (fun ls hl => ?_)
  have hv := (vc_fillA_4_0 a_v nar ar v_4 hpre e_4)
  exact (la_fillA (l := l) (e := e) (below := below) C hK hz hA hpre (mu_fillA_5 a_v nar ar 0 v_4 ar + 1)) 0 v_4 ar _ _ _ hv.1 (Nat.lt_succ_self _) (hP.sub [0] rfl) (hD.sub [0] (by decide) rfl) hS (lv_sub hl [2, 3, 1, 0] rfl)
abbrev RM_fillR : Room := { frames := 1, cells := 0, slots := 0, locals := 22 }
abbrev AV_fillR (har : Nat) (a_fr : Int32) (a_to : Int32) (a_v : Int32) : List Value := [.ref har, .int a_fr, .int a_to, .int a_v]
abbrev WS_fillR (cB cI cJ cZ : ClassId) (har : Nat) (nar : Nat) (ar : Nat → Int32) : va_W := [(har, .inl (cB, nar, .inl ar))]
abbrev WF_fillR (cB cI cJ cZ : ClassId) (har : Nat) (nar : Nat) : ((Nat → Int32)) → va_W := fun u => [(har, .inl (cB, nar, .inl u))]
abbrev PO_fillR (a_fr : Int32) (a_to : Int32) (a_v : Int32) (nar : Nat) (ar : Nat → Int32) : ((Nat → Int32)) → Prop := fun u => po_fillR a_fr a_to a_v nar ar u
def LP_fillR_10 (l : Launch) (D : va_G) (cB cI cJ cZ : ClassId) (har : Nat) (a_fr : Int32) (a_to : Int32) (a_v : Int32) (nar : Nat) (ar : Nat → Int32) (p : Program) (e : Env) (s : State) (m : MethodId) (below : List Frame) (meth : Method) (c : Code) (A : Nat → Prop) (n : Nat) : Prop := ∀ (x4 : Int32) (ar_i : Nat → Int32) (H : Heap) (locs : List Loc) (ls : Array Slot), iv_fillR_10 a_fr a_to a_v nar ar x4 ar_i → mu_fillR_10 a_fr a_to a_v nar ar x4 ar_i < n → va_P D vwCl [(har, .inl (cB, nar, .inl ar_i))] H → va_D A [(har, .inl (cB, nar, .inl ar_i))] → va_S A s.heap H locs → lv_has ls 5 [(0, .ref har), (2, .int a_to), (3, .int a_v), (4, .int x4)] → W p l e RM_fillR s m (AV_fillR har a_fr a_to a_v).toArray below meth c H locs 0 0 (MQ below (va_Qv (PO_fillR a_fr a_to a_v nar ar) (zB D vwCl A (WF_fillR cB cI cJ cZ har nar)) A) (AV_fillR har a_fr a_to a_v).toArray s 0 0 A) (F0 m 10 ls [])
set_option maxHeartbeats 4000000 in
set_option maxRecDepth 100000 in
theorem lt_fillR_10 {l : Launch} {D : va_G} {cB cI cJ cZ : ClassId} {har : Nat} {a_fr : Int32} {a_to : Int32} {a_v : Int32} {nar : Nat} {ar : Nat → Int32} {p : Program} {e : Env} {s : State} {m : MethodId} {below : List Frame} {meth : Method} {c : Code} {A : Nat → Prop} (C : zcx b_Arr_fillR 5 none "java/util/Arrays" "fill" (Cond.code y_Arr_fillR b_Arr_fillR 5 none :: wA) p s m (AV_fillR har a_fr a_to a_v).toArray meth c) (hK : va_K D vwCl (zTY cB cI cJ cZ) s) (hz : zn s) (hA : ∀ q : Nat, s.heap.size ≤ q → A q) (hpre : pr_fillR a_fr a_to a_v nar ar) (n : Nat) (ih_10 : LP_fillR_10 l D cB cI cJ cZ har a_fr a_to a_v nar ar p e s m below meth c A n) : LP_fillR_10 l D cB cI cJ cZ har a_fr a_to a_v nar ar p e s m below meth c A (n + 1) := by
  intro x4 ar_i H locs ls hinv hmu hP hD hS hl
  obtain ⟨hx, hb, hml, hown, hts, hr, hlocks, hnm⟩ := id C
  refine lv_iload hx hb d_Arr_fillR_10 (lv_at hl 3 rfl) ?_
  refine lv_iload_n hx hb d_Arr_fillR_12 rfl (lv_at hl 1 rfl) ?_
  refine lv_icmp_ge (tgt := 27) hx hb d_Arr_fillR_13 (by decide) (fun c_13 => ?_) (fun c_13 => ?_)
  · exact z_vret (u := ar_i) C (vc_fillR_27_0 a_fr a_to a_v nar ar x4 ar_i hpre hinv c_13) (hP.sub [0] rfl) (hD.sub [0] (by decide) rfl) hS d_Arr_fillR_27
  · refine lv_aload_n hx hb d_Arr_fillR_16 rfl (lv_at hl 0 rfl) ?_
    refine lv_iload hx hb d_Arr_fillR_17 (lv_at hl 3 rfl) ?_
    refine lv_iload_n hx hb d_Arr_fillR_19 rfl (lv_at hl 2 rfl) ?_
    refine va_bast hx hb hK hP hD hS 0 0 rfl rfl (vc_fillR_20_0 a_fr a_to a_v nar ar x4 ar_i hpre hinv c_13) d_Arr_fillR_20 (fun H locs hP hD hS => ?_)
    have hP : va_P D vwCl [(har, .inl (cB, nar, .inl (upd ar_i (x4).toNatClampNeg (vp_nar .byte a_v))))] H := hP
    have hD : va_D A [(har, .inl (cB, nar, .inl (upd ar_i (x4).toNatClampNeg (vp_nar .byte a_v))))] := hD
    obtain ⟨v_21, e_21⟩ : ∃ y : Int32, y = x4 + 1 := ⟨_, rfl⟩
    refine lv_iinc (v := v_21) (lv' := [(4, .int v_21), (0, .ref har), (2, .int a_to), (3, .int a_v)]) hx hb d_Arr_fillR_21 hl (k := 3) rfl (by rw [e_21]; rfl) (by decide) rfl (fun ls hl => ?_)
    refine lv_goto (tgt := 10) hx hb d_Arr_fillR_24 (by decide) ?_
    have hv := (vc_fillR_24_0 a_fr a_to a_v nar ar x4 ar_i v_21 hpre hinv c_13 e_21)
    exact ih_10 v_21 (upd ar_i (x4).toNatClampNeg (vp_nar .byte a_v)) _ _ _ hv.1 (Nat.lt_of_lt_of_le hv.2 (Nat.le_of_lt_succ hmu)) (hP.sub [0] rfl) (hD.sub [0] (by decide) rfl) hS (lv_sub hl [1, 2, 3, 0] rfl)
theorem la_fillR {l : Launch} {D : va_G} {cB cI cJ cZ : ClassId} {har : Nat} {a_fr : Int32} {a_to : Int32} {a_v : Int32} {nar : Nat} {ar : Nat → Int32} {p : Program} {e : Env} {s : State} {m : MethodId} {below : List Frame} {meth : Method} {c : Code} {A : Nat → Prop} (C : zcx b_Arr_fillR 5 none "java/util/Arrays" "fill" (Cond.code y_Arr_fillR b_Arr_fillR 5 none :: wA) p s m (AV_fillR har a_fr a_to a_v).toArray meth c) (hK : va_K D vwCl (zTY cB cI cJ cZ) s) (hz : zn s) (hA : ∀ q : Nat, s.heap.size ≤ q → A q) (hpre : pr_fillR a_fr a_to a_v nar ar) : ∀ n : Nat, LP_fillR_10 l D cB cI cJ cZ har a_fr a_to a_v nar ar p e s m below meth c A n := by
  intro n
  induction n with
  | zero => exact fun _ _ _ _ _ _ hmu => absurd hmu (Nat.not_lt_zero _)
  | succ n ih => exact lt_fillR_10 (l := l) (e := e) (below := below) C hK hz hA hpre n ih
set_option maxHeartbeats 4000000 in
set_option maxRecDepth 100000 in
theorem c_fillR (l : Launch) (D : va_G) (cB cI cJ cZ : ClassId) (har : Nat) (sz : Nat) (a_fr : Int32) (a_to : Int32) (a_v : Int32) (nar : Nat) (ar : Nat → Int32) (hpre : pr_fillR a_fr a_to a_v nar ar) : ZMv l y_Arr_fillR (Cond.code y_Arr_fillR b_Arr_fillR 5 none :: wA) RM_fillR D vwCl (zTY cB cI cJ cZ) (AV_fillR har a_fr a_to a_v) (WS_fillR cB cI cJ cZ har nar ar) sz (PO_fillR a_fr a_to a_v nar ar) (WF_fillR cB cI cJ cZ har nar) := by
  refine z_start_v (cc := b_Arr_fillR) (maxL := 5) (ret := none) (own := "java/util/Arrays") (nm := "fill") (by decide) rfl rfl rfl (Nat.le_of_ble_eq_true rfl) ?_
  intro p e s m below meth c A ls C hK hz hA hP hD hS hl
  obtain ⟨hx, hb, hml, hown, hts, hr, hlocks, hnm⟩ := id C
  have hP : va_P D vwCl [(har, .inl (cB, nar, .inl ar))] s.heap := hP
  have hD : va_D A [(har, .inl (cB, nar, .inl ar))] := hD
  have hl : lv_has ls 5 [(0, .ref har), (1, .int a_fr), (2, .int a_to), (3, .int a_v)] := hl
  refine lv_aload_n hx hb d_Arr_fillR_0 rfl (lv_at hl 0 rfl) ?_
  refine va_alen hx hb hK hP 0 0 rfl rfl (v := (nI nar)) rfl d_Arr_fillR_1 ?_
  refine lv_iload_n hx hb d_Arr_fillR_2 rfl (lv_at hl 1 rfl) ?_
  refine lv_iload_n hx hb d_Arr_fillR_3 rfl (lv_at hl 2 rfl) ?_
  refine z_cv (wc := []) (wr := [(har, .inl (cB, nar, .inl ar))]) hP hD hS hA [] [0] rfl rfl (by decide) (by decide) (va_runS (As := [.int (nI nar), .int a_fr, .int a_to]) (rest := []) ⟨hx, hb, hml, hown, hts⟩ (c_rangeCheck l D cB cI cJ cZ  _ (nI nar) a_fr a_to (vc_fillR_4_0 a_fr a_to a_v nar ar hpre)) (va_cwS 3 hts (gdS mA_171 mA_172 mA_67 mA_173) rfl rfl rfl (by decide +kernel) ⟨Nat.le_of_ble_eq_true rfl, Nat.le_of_ble_eq_true rfl⟩) ⟨zw_blind, (z_pre (wc := []) hK hz hP hD [] (by decide) rfl rfl)⟩ rfl rfl hl.1 rfl (lv_room (Nat.le_of_ble_eq_true rfl)) d_Arr_fillR_4 ⟨Nat.zero_le _, Nat.zero_le _⟩) (fun u H locs w_4 hP hD hS => ?_)
  have w_4 : po_rangeCheck (nI nar) a_fr a_to := w_4
  have hP : va_P D vwCl [(har, .inl (cB, nar, .inl ar))] H := hP
  have hD : va_D A [(har, .inl (cB, nar, .inl ar))] := hD
  refine lv_iload_n hx hb d_Arr_fillR_7 rfl (lv_at hl 1 rfl) ?_
  refine lv_istore (lv' := [(4, .int a_fr), (0, .ref har), (1, .int a_fr), (2, .int a_to), (3, .int a_v)]) hx hb d_Arr_fillR_8 hl (by decide) rfl (fun ls hl => ?_)
  have hv := (vc_fillR_8_0 a_fr a_to a_v nar ar hpre w_4)
  exact (la_fillR (l := l) (e := e) (below := below) C hK hz hA hpre (mu_fillR_10 a_fr a_to a_v nar ar a_fr ar + 1)) a_fr ar _ _ _ hv.1 (Nat.lt_succ_self _) (hP.sub [0] rfl) (hD.sub [0] (by decide) rfl) hS (lv_sub hl [1, 3, 4, 0] rfl)
abbrev RM_isHome : Room := { frames := 0, cells := 0, slots := 0, locals := 0 }
abbrev AV_isHome (a_b : Int32) : List Value := [.int a_b]
abbrev WS_isHome (cB cI cJ cZ : ClassId) : va_W := []
abbrev WF_isHome (cB cI cJ cZ : ClassId) : Unit → va_W := fun u => []
abbrev PO_isHome (a_b : Int32) : Int32 → Unit → Prop := fun r u => po_isHome a_b r
set_option maxHeartbeats 4000000 in
set_option maxRecDepth 100000 in
theorem c_isHome (l : Launch) (D : va_G) (cB cI cJ cZ : ClassId) (sz : Nat) (a_b : Int32) (hpre : pr_isHome a_b) : ZMi l y_J_isHome (Cond.code y_J_isHome b_J_isHome 1 (some .boolean) :: wA) RM_isHome D vwCl (zTY cB cI cJ cZ) (AV_isHome a_b) (WS_isHome cB cI cJ cZ ) sz (PO_isHome a_b) (WF_isHome cB cI cJ cZ ) := by
  refine z_start_i (cc := b_J_isHome) (maxL := 1) (ret := (some .boolean)) (own := "RedoJournal") (nm := "isHome") (by decide) rfl rfl rfl (Nat.le_of_ble_eq_true rfl) ?_
  intro p e s m below meth c A ls C hK hz hA hP hD hS hl
  obtain ⟨hx, hb, hml, hown, hts, hr, hlocks, hnm⟩ := id C
  have hP : va_P D vwCl [] s.heap := hP
  have hD : va_D A [] := hD
  have hl : lv_has ls 1 [(0, .int a_b)] := hl
  refine lv_iload_n hx hb d_J_isHome_0 rfl (lv_at hl 0 rfl) ?_
  refine lv_if_lt (tgt := 14) hx hb d_J_isHome_1 (by decide) (fun c_1 => ?_) (fun c_1 => ?_)
  · refine lv_iconst (v := 0) hx hb d_J_isHome_14 (by decide) ?_
    exact z_zret (u := ()) C (by decide) (vc_isHome_15_0 a_b hpre c_1) (hP.sub [] rfl) (hD.sub [] (by decide) rfl) hS d_J_isHome_15
  · refine lv_iload_n hx hb d_J_isHome_4 rfl (lv_at hl 0 rfl) ?_
    refine lv_bipush (v := 64) hx hb d_J_isHome_5 (by decide) ?_
    refine lv_icmp_ge (tgt := 14) hx hb d_J_isHome_7 (by decide) (fun c_7 => ?_) (fun c_7 => ?_)
    · refine lv_iconst (v := 0) hx hb d_J_isHome_14 (by decide) ?_
      exact z_zret (u := ()) C (by decide) (vc_isHome_15_1 a_b hpre c_1 c_7) (hP.sub [] rfl) (hD.sub [] (by decide) rfl) hS d_J_isHome_15
    · refine lv_iconst (v := 1) hx hb d_J_isHome_10 (by decide) ?_
      refine lv_goto (tgt := 15) hx hb d_J_isHome_11 (by decide) ?_
      exact z_zret (u := ()) C (by decide) (vc_isHome_15_2 a_b hpre c_1 c_7) (hP.sub [] rfl) (hD.sub [] (by decide) rfl) hS d_J_isHome_15
abbrev RM_isByte : Room := { frames := 1, cells := 0, slots := 0, locals := 20 }
abbrev AV_isByte (a_b : Int32) (a_a : Int32) : List Value := [.int a_b, .int a_a]
abbrev WS_isByte (cB cI cJ cZ : ClassId) : va_W := []
abbrev WF_isByte (cB cI cJ cZ : ClassId) : Unit → va_W := fun u => []
abbrev PO_isByte (a_b : Int32) (a_a : Int32) : Int32 → Unit → Prop := fun r u => po_isByte a_b a_a r
set_option maxHeartbeats 4000000 in
set_option maxRecDepth 100000 in
theorem c_isByte (l : Launch) (D : va_G) (cB cI cJ cZ : ClassId) (sz : Nat) (a_b : Int32) (a_a : Int32) (hpre : pr_isByte a_b a_a) : ZMi l y_J_isByte (Cond.code y_J_isByte b_J_isByte 2 (some .boolean) :: wA) RM_isByte D vwCl (zTY cB cI cJ cZ) (AV_isByte a_b a_a) (WS_isByte cB cI cJ cZ ) sz (PO_isByte a_b a_a) (WF_isByte cB cI cJ cZ ) := by
  refine z_start_i (cc := b_J_isByte) (maxL := 2) (ret := (some .boolean)) (own := "RedoJournal") (nm := "isByte") (by decide) rfl rfl rfl (Nat.le_of_ble_eq_true rfl) ?_
  intro p e s m below meth c A ls C hK hz hA hP hD hS hl
  obtain ⟨hx, hb, hml, hown, hts, hr, hlocks, hnm⟩ := id C
  have hP : va_P D vwCl [] s.heap := hP
  have hD : va_D A [] := hD
  have hl : lv_has ls 2 [(0, .int a_b), (1, .int a_a)] := hl
  refine lv_iload_n hx hb d_J_isByte_0 rfl (lv_at hl 0 rfl) ?_
  refine z_ci (wc := []) (wr := []) hP hD hS hA [] [] rfl rfl (by decide) (by decide) (va_runS (As := [.int a_b]) (rest := []) ⟨hx, hb, hml, hown, hts⟩ (c_isHome l D cB cI cJ cZ  _ a_b (vc_isByte_1_0 a_b a_a hpre)) (va_cwS 1 hts (gdS mA_150 mA_151 mA_63 mA_152) rfl rfl rfl (by decide +kernel) ⟨Nat.le_of_ble_eq_true rfl, Nat.le_of_ble_eq_true rfl⟩) ⟨zw_blind, (z_pre (wc := []) hK hz hP hD [] (by decide) rfl rfl)⟩ rfl rfl hl.1 rfl (lv_room (Nat.le_of_ble_eq_true rfl)) d_J_isByte_1 ⟨Nat.zero_le _, Nat.zero_le _⟩) (fun r_1 u H locs w_1 hP hD hS => ?_)
  have w_1 : po_isHome a_b r_1 := w_1
  have hP : va_P D vwCl [] H := hP
  have hD : va_D A [] := hD
  refine lv_if_eq (tgt := 22) hx hb d_J_isByte_4 (by decide) (fun c_4 => ?_) (fun c_4 => ?_)
  · refine lv_iconst (v := 0) hx hb d_J_isByte_22 (by decide) ?_
    exact z_zret (u := ()) C (by decide) (vc_isByte_23_0 a_b a_a r_1 hpre w_1 c_4) (hP.sub [] rfl) (hD.sub [] (by decide) rfl) hS d_J_isByte_23
  · refine lv_iload_n hx hb d_J_isByte_7 rfl (lv_at hl 1 rfl) ?_
    refine lv_if_lt (tgt := 22) hx hb d_J_isByte_8 (by decide) (fun c_8 => ?_) (fun c_8 => ?_)
    · refine lv_iconst (v := 0) hx hb d_J_isByte_22 (by decide) ?_
      exact z_zret (u := ()) C (by decide) (vc_isByte_23_1 a_b a_a r_1 hpre w_1 c_4 c_8) (hP.sub [] rfl) (hD.sub [] (by decide) rfl) hS d_J_isByte_23
    · refine lv_iload_n hx hb d_J_isByte_11 rfl (lv_at hl 1 rfl) ?_
      refine lv_sipush (v := 256) hx hb d_J_isByte_12 (by decide) ?_
      refine lv_icmp_ge (tgt := 22) hx hb d_J_isByte_15 (by decide) (fun c_15 => ?_) (fun c_15 => ?_)
      · refine lv_iconst (v := 0) hx hb d_J_isByte_22 (by decide) ?_
        exact z_zret (u := ()) C (by decide) (vc_isByte_23_2 a_b a_a r_1 hpre w_1 c_4 c_8 c_15) (hP.sub [] rfl) (hD.sub [] (by decide) rfl) hS d_J_isByte_23
      · refine lv_iconst (v := 1) hx hb d_J_isByte_18 (by decide) ?_
        refine lv_goto (tgt := 23) hx hb d_J_isByte_19 (by decide) ?_
        exact z_zret (u := ()) C (by decide) (vc_isByte_23_3 a_b a_a r_1 hpre w_1 c_4 c_8 c_15) (hP.sub [] rfl) (hD.sub [] (by decide) rfl) hS d_J_isByte_23
abbrev RM_isValue : Room := { frames := 0, cells := 0, slots := 0, locals := 0 }
abbrev AV_isValue (a_v : Int32) : List Value := [.int a_v]
abbrev WS_isValue (cB cI cJ cZ : ClassId) : va_W := []
abbrev WF_isValue (cB cI cJ cZ : ClassId) : Unit → va_W := fun u => []
abbrev PO_isValue (a_v : Int32) : Int32 → Unit → Prop := fun r u => po_isValue a_v r
set_option maxHeartbeats 4000000 in
set_option maxRecDepth 100000 in
theorem c_isValue (l : Launch) (D : va_G) (cB cI cJ cZ : ClassId) (sz : Nat) (a_v : Int32) (hpre : pr_isValue a_v) : ZMi l y_J_isValue (Cond.code y_J_isValue b_J_isValue 1 (some .boolean) :: wA) RM_isValue D vwCl (zTY cB cI cJ cZ) (AV_isValue a_v) (WS_isValue cB cI cJ cZ ) sz (PO_isValue a_v) (WF_isValue cB cI cJ cZ ) := by
  refine z_start_i (cc := b_J_isValue) (maxL := 1) (ret := (some .boolean)) (own := "RedoJournal") (nm := "isValue") (by decide) rfl rfl rfl (Nat.le_of_ble_eq_true rfl) ?_
  intro p e s m below meth c A ls C hK hz hA hP hD hS hl
  obtain ⟨hx, hb, hml, hown, hts, hr, hlocks, hnm⟩ := id C
  have hP : va_P D vwCl [] s.heap := hP
  have hD : va_D A [] := hD
  have hl : lv_has ls 1 [(0, .int a_v)] := hl
  refine lv_iload_n hx hb d_J_isValue_0 rfl (lv_at hl 0 rfl) ?_
  refine lv_if_lt (tgt := 15) hx hb d_J_isValue_1 (by decide) (fun c_1 => ?_) (fun c_1 => ?_)
  · refine lv_iconst (v := 0) hx hb d_J_isValue_15 (by decide) ?_
    exact z_zret (u := ()) C (by decide) (vc_isValue_16_0 a_v hpre c_1) (hP.sub [] rfl) (hD.sub [] (by decide) rfl) hS d_J_isValue_16
  · refine lv_iload_n hx hb d_J_isValue_4 rfl (lv_at hl 0 rfl) ?_
    refine lv_sipush (v := 255) hx hb d_J_isValue_5 (by decide) ?_
    refine lv_icmp_gt (tgt := 15) hx hb d_J_isValue_8 (by decide) (fun c_8 => ?_) (fun c_8 => ?_)
    · refine lv_iconst (v := 0) hx hb d_J_isValue_15 (by decide) ?_
      exact z_zret (u := ()) C (by decide) (vc_isValue_16_1 a_v hpre c_1 c_8) (hP.sub [] rfl) (hD.sub [] (by decide) rfl) hS d_J_isValue_16
    · refine lv_iconst (v := 1) hx hb d_J_isValue_11 (by decide) ?_
      refine lv_goto (tgt := 16) hx hb d_J_isValue_12 (by decide) ?_
      exact z_zret (u := ()) C (by decide) (vc_isValue_16_2 a_v hpre c_1 c_8) (hP.sub [] rfl) (hD.sub [] (by decide) rfl) hS d_J_isValue_16
abbrev RM_bit : Room := { frames := 0, cells := 0, slots := 0, locals := 0 }
abbrev AV_bit (a_b : Int32) : List Value := [.int a_b]
abbrev WS_bit (cB cI cJ cZ : ClassId) : va_W := []
abbrev WF_bit (cB cI cJ cZ : ClassId) : Unit → va_W := fun u => []
abbrev PO_bit (a_b : Int32) : Int64 → Unit → Prop := fun r u => po_bit a_b r
set_option maxHeartbeats 4000000 in
set_option maxRecDepth 100000 in
theorem c_bit (l : Launch) (D : va_G) (cB cI cJ cZ : ClassId) (sz : Nat) (a_b : Int32) (hpre : pr_bit a_b) : ZMl l y_J_bit (Cond.code y_J_bit b_J_bit 1 (some .long) :: wA) RM_bit D vwCl (zTY cB cI cJ cZ) (AV_bit a_b) (WS_bit cB cI cJ cZ ) sz (PO_bit a_b) (WF_bit cB cI cJ cZ ) := by
  refine z_start_l (cc := b_J_bit) (maxL := 1) (ret := (some .long)) (own := "RedoJournal") (nm := "bit") (by decide) rfl rfl rfl (Nat.le_of_ble_eq_true rfl) ?_
  intro p e s m below meth c A ls C hK hz hA hP hD hS hl
  obtain ⟨hx, hb, hml, hown, hts, hr, hlocks, hnm⟩ := id C
  have hP : va_P D vwCl [] s.heap := hP
  have hD : va_D A [] := hD
  have hl : lv_has ls 1 [(0, .int a_b)] := hl
  refine lv_lconst (v := 1) hx hb d_J_bit_0 (by decide) ?_
  refine lv_iload_n hx hb d_J_bit_1 rfl (lv_at hl 0 rfl) ?_
  refine lv_lshl (v := (1 <<< (Int32.toInt64 a_b &&& 63))) hx hb d_J_bit_2 rfl ?_
  exact z_lret (u := ()) C (vc_bit_3_0 a_b hpre) (hP.sub [] rfl) (hD.sub [] (by decide) rfl) hS d_J_bit_3
abbrev RM_holds : Room := { frames := 1, cells := 0, slots := 0, locals := 20 }
abbrev AV_holds (a_x : Int64) (a_b : Int32) : List Value := [.long a_x, .int a_b]
abbrev WS_holds (cB cI cJ cZ : ClassId) : va_W := []
abbrev WF_holds (cB cI cJ cZ : ClassId) : Unit → va_W := fun u => []
abbrev PO_holds (a_x : Int64) (a_b : Int32) : Int32 → Unit → Prop := fun r u => po_holds a_x a_b r
set_option maxHeartbeats 4000000 in
set_option maxRecDepth 100000 in
theorem c_holds (l : Launch) (D : va_G) (cB cI cJ cZ : ClassId) (sz : Nat) (a_x : Int64) (a_b : Int32) (hpre : pr_holds a_x a_b) : ZMi l y_J_holds (Cond.code y_J_holds b_J_holds 3 (some .boolean) :: wA) RM_holds D vwCl (zTY cB cI cJ cZ) (AV_holds a_x a_b) (WS_holds cB cI cJ cZ ) sz (PO_holds a_x a_b) (WF_holds cB cI cJ cZ ) := by
  refine z_start_i (cc := b_J_holds) (maxL := 3) (ret := (some .boolean)) (own := "RedoJournal") (nm := "holds") (by decide) rfl rfl rfl (Nat.le_of_ble_eq_true rfl) ?_
  intro p e s m below meth c A ls C hK hz hA hP hD hS hl
  obtain ⟨hx, hb, hml, hown, hts, hr, hlocks, hnm⟩ := id C
  have hP : va_P D vwCl [] s.heap := hP
  have hD : va_D A [] := hD
  have hl : lv_has ls 3 [(0, .long a_x), (2, .int a_b)] := hl
  refine lv_lload_n hx hb d_J_holds_0 rfl (lv_at hl 0 rfl) ?_
  refine lv_iload_n hx hb d_J_holds_1 rfl (lv_at hl 1 rfl) ?_
  refine z_cl (wc := []) (wr := []) hP hD hS hA [] [] rfl rfl (by decide) (by decide) (va_runS (As := [.int a_b]) (rest := [.long a_x]) ⟨hx, hb, hml, hown, hts⟩ (c_bit l D cB cI cJ cZ  _ a_b (vc_holds_2_0 a_x a_b hpre)) (va_cwS 1 hts (gdS mA_159 mA_160 mA_63 mA_161) rfl rfl rfl (by decide +kernel) ⟨Nat.le_of_ble_eq_true rfl, Nat.le_of_ble_eq_true rfl⟩) ⟨zw_blind, (z_pre (wc := []) hK hz hP hD [] (by decide) rfl rfl)⟩ rfl rfl hl.1 rfl (lv_room (Nat.le_of_ble_eq_true rfl)) d_J_holds_2 ⟨Nat.zero_le _, Nat.zero_le _⟩) (fun r_2 u H locs w_2 hP hD hS => ?_)
  have w_2 : po_bit a_b r_2 := w_2
  have hP : va_P D vwCl [] H := hP
  have hD : va_D A [] := hD
  refine lv_land hx hb d_J_holds_5 ?_
  refine lv_lconst (v := 0) hx hb d_J_holds_6 (by decide) ?_
  refine W.lcmp hx hb d_J_holds_7 ?_
  refine lv_if_eq (tgt := 15) hx hb d_J_holds_8 (by decide) (fun c_8 => ?_) (fun c_8 => ?_)
  · refine lv_iconst (v := 0) hx hb d_J_holds_15 (by decide) ?_
    exact z_zret (u := ()) C (by decide) (vc_holds_16_0 a_x a_b r_2 hpre w_2 c_8) (hP.sub [] rfl) (hD.sub [] (by decide) rfl) hS d_J_holds_16
  · refine lv_iconst (v := 1) hx hb d_J_holds_11 (by decide) ?_
    refine lv_goto (tgt := 16) hx hb d_J_holds_12 (by decide) ?_
    exact z_zret (u := ()) C (by decide) (vc_holds_16_1 a_x a_b r_2 hpre w_2 c_8) (hP.sub [] rfl) (hD.sub [] (by decide) rfl) hS d_J_holds_16
