def rmX6_in : Room := { frames := 0, cells := 0, slots := 0, locals := 0 }
theorem pkX6_in : cK yX6_in wsX6_in cX6_in 3 (some .boolean) 3 RX6 := ⟨⟨_, rfl⟩, by decide +kernel⟩
theorem bzX6_in {x0 x1 x2 z : Int32} (h : MX6_in x0 x1 x2 = some z) : narrow .boolean (.int z) = .int z := by
  unfold MX6_in at h
  repeat' split at h
  all_goals (cases h; rfl)
set_option maxHeartbeats 4000000 in
set_option maxRecDepth 100000 in
theorem kkX6_in (l : Launch) (D : va_G) (cI cR : ClassId) (x0 : Int32) (x1 : Int32) (x2 : Int32) (z : Int32) (hz : MX6_in x0 x1 x2 = some z) : cI1 l yX6_in wsX6_in rmX6_in D cI cR [.int x0, .int x1, .int x2] [] z [] := by
  unfold MX6_in at hz
  refine kZ_of (cc := cX6_in) (maxL := 3) (own := RX6) (by decide +kernel) rfl rfl (Nat.le_of_ble_eq_true rfl) (lv0 := [(0, .int x0), (1, .int x1), (2, .int x2)]) rfl (fun p e s m args below meth c A Q X rt => ?_)
  refine G_iload_n X dX6_in_0 0 rfl ?_
  refine G_iload_n X dX6_in_1 1 rfl ?_
  refine G_icmp_lt X (tgt := 14) dX6_in_2 (by decide) (fun h1 => ?_) (fun h1 => ?_)
  · have h2 := ifp h1 hz
    refine G_iconst X (v := 0) dX6_in_14 (by decide) ?_
    cases h2
    exact rt _ _ _ _ dX6_in_15 rfl ⟨rfl, rfl⟩
  · have h3 := ifn h1 hz
    refine G_iload_n X dX6_in_5 0 rfl ?_
    refine G_iload_n X dX6_in_6 2 rfl ?_
    refine G_icmp_gt X (tgt := 14) dX6_in_7 (by decide) (fun h4 => ?_) (fun h4 => ?_)
    · have h5 := ifp h4 h3
      refine G_iconst X (v := 0) dX6_in_14 (by decide) ?_
      cases h5
      exact rt _ _ _ _ dX6_in_15 rfl ⟨rfl, rfl⟩
    · have h6 := ifn h4 h3
      refine G_iconst X (v := 1) dX6_in_10 (by decide) ?_
      refine G_goto X (tgt := 15) dX6_in_11 (by decide) ?_
      cases h6
      exact rt _ _ _ _ dX6_in_15 rfl ⟨rfl, rfl⟩
def rmX6_copies : Room := { frames := 0, cells := 0, slots := 0, locals := 0 }
theorem pkX6_copies : cK yX6_copies wsX6_copies cX6_copies 5 none 4 RX6 := ⟨⟨_, rfl⟩, by decide +kernel⟩
set_option maxHeartbeats 4000000 in
set_option maxRecDepth 100000 in
theorem kkX6_copies (l : Launch) (D : va_G) (cI cR : ClassId) (a0 a2 : Nat) (n_a0 : Nat) (n_a2 : Nat) (f_a0 : Nat → Int32) (f_a2 : Nat → Int32) (x1 : Int32) (x3 : Int32) (z : (Nat → Int32)) (hz : MX6_copies n_a0 n_a2 f_a0 f_a2 x1 x3 = some z) : cV1 l yX6_copies wsX6_copies rmX6_copies D cI cR [.ref a0, .int x1, .ref a2, .int x3] [(a0, .inl (cI, n_a0, .inl f_a0)), (a2, .inl (cI, n_a2, .inl f_a2))] [(a0, .inl (cI, n_a0, .inl f_a0)), (a2, .inl (cI, n_a2, .inl z))] := by
  unfold MX6_copies at hz
  refine kV_of (cc := cX6_copies) (maxL := 5) (own := RX6) (by decide +kernel) rfl rfl (Nat.le_of_ble_eq_true rfl) (lv0 := [(0, .ref a0), (1, .int x1), (2, .ref a2), (3, .int x3)]) rfl (fun p e s m args below meth c A Q X rt => ?_)
  refine G_iconst X (v := 0) dX6_copies_0 (by decide) ?_
  refine G_istore X (lv' := [(4, .int 0), (0, .ref a0), (1, .int x1), (2, .ref a2), (3, .int x3)]) dX6_copies_1 (by decide) rfl ?_
  obtain ⟨j2, h3, h4⟩ := bnd hz
  have J9 : G p l e rmX6_copies s m args below meth c D A 5 Q 0 0 29 [] [] [(a0, .inl (cI, n_a0, .inl f_a0)), (a2, .inl (cI, n_a2, .inl j2))] := by
    cases h4
    exact rt _ _ _ dX6_copies_29 rfl
  refine G_lv [1, 2, 3, 4, 0] rfl ?_
  refine itr_ind (P := fun s1 : (Int32 × (Nat → Int32)) => G p l e rmX6_copies s m args below meth c D A 5 Q 0 0 3 [(0, .ref a0), (1, .int x1), (2, .ref a2), (3, .int x3), (4, .int s1.1)] [] [(a0, .inl (cI, n_a0, .inl f_a0)), (a2, .inl (cI, n_a2, .inl s1.2))]) (fun s1 o8 h5 h6 h7 => ?_) FU _ h3
  unfold SX6_copies_3 at h5
  refine G_iload X dX6_copies_3 4 rfl ?_
  refine G_sipush X (v := 703) dX6_copies_5 (by decide) ?_
  refine G_icmp_ge X (tgt := 29) dX6_copies_8 (by decide) (fun h11 => ?_) (fun h11 => ?_)
  · have h12 := ifp h11 h5
    cases h12
    have h13 := h7 _ rfl
    subst h13
    exact G_lv [] rfl (J9)
  · have h14 := ifn h11 h5
    refine G_aload_n X dX6_copies_11 2 rfl ?_
    refine G_iload_n X dX6_copies_12 3 rfl ?_
    refine G_iload X dX6_copies_13 4 rfl ?_
    refine G_iadd X dX6_copies_15 ?_
    refine G_aload_n X dX6_copies_16 0 rfl ?_
    refine G_iload_n X dX6_copies_17 1 rfl ?_
    refine G_iload X dX6_copies_18 4 rfl ?_
    refine G_iadd X dX6_copies_20 ?_
    obtain ⟨v15, h16, h17⟩ := bnd h14
    refine G_iald X (i0 := 0) dX6_copies_21 rfl h16 ?_
    obtain ⟨g18, h19, h20⟩ := bnd h17
    refine G_iast X (i0 := 1) (ws' := [(a0, .inl (cI, n_a0, .inl f_a0)), (a2, .inl (cI, n_a2, .inl g18))]) dX6_copies_22 rfl h19 rfl ?_
    refine G_iinc X (v := (s1.1 + 1)) (lv' := [(4, .int (s1.1 + 1)), (0, .ref a0), (1, .int x1), (2, .ref a2), (3, .int x3)]) dX6_copies_23 4 rfl rfl (by decide) rfl ?_
    refine G_goto X (tgt := 3) dX6_copies_26 (by decide) ?_
    cases h20
    exact G_lv [1, 2, 3, 4, 0] rfl (h6 _ rfl)
def rmX6_records : Room := { frames := 1, cells := 0, slots := 0, locals := 24 }
theorem pkX6_records : cK yX6_records wsX6_records cX6_records 2 none 0 RX6 := ⟨⟨_, rfl⟩, by decide +kernel⟩
theorem hiX6_records_X6 : ∀ w ∈ wsX60, w ∈ wsX6_records := by decide +kernel
theorem flX6_records_35 : Cond.fieldLink RX6 35 "EchoMarginsModel" "known" "I" ∈ wsX6_records := by decide +kernel
theorem flX6_records_19 : Cond.fieldLink RX6 19 "EchoMarginsModel" "past" "[I" ∈ wsX6_records := by decide +kernel
theorem flX6_records_7 : Cond.fieldLink RX6 7 "EchoMarginsModel" "s" "[I" ∈ wsX6_records := by decide +kernel
set_option maxHeartbeats 4000000 in
set_option maxRecDepth 100000 in
theorem kkX6_records (l : Launch) (D : va_G) (cI cR : ClassId) (h h_s h_aside h_before h_past h_text h_lost h_tells : Nat) (i_h_known : Int32) (i_h_length : Int32) (i_h_losts : Int32) (i_h_bestOrder : Int32) (i_h_bestMany : Int32) (i_h_spot : Int32) (i_h_begin : Int32) (i_h_isForm : Int32) (i_h_letter : Int32) (i_h_faultReason : Int32) (i_h_faultCause : Int32) (f_h_s : Nat → Int32) (f_h_past : Nat → Int32) (z : (Int32 × (Nat → Int32))) (hz : MX6_records i_h_known f_h_s f_h_past = some z) : cV1 l yX6_records wsX6_records rmX6_records D cI cR [.ref h] [(h, .inr (6, [.ref h_s, .ref h_aside, .ref h_before, .ref h_past, .int i_h_known, .ref h_text, .int i_h_length, .ref h_lost, .int i_h_losts, .int i_h_bestOrder, .int i_h_bestMany, .int i_h_spot, .int i_h_begin, .int i_h_isForm, .int i_h_letter, .ref h_tells, .int i_h_faultReason, .int i_h_faultCause])), (h_s, .inl (cI, 703, .inl f_h_s)), (h_past, .inl (cI, 2812, .inl f_h_past))] [(h, .inr (6, [.ref h_s, .ref h_aside, .ref h_before, .ref h_past, .int z.1, .ref h_text, .int i_h_length, .ref h_lost, .int i_h_losts, .int i_h_bestOrder, .int i_h_bestMany, .int i_h_spot, .int i_h_begin, .int i_h_isForm, .int i_h_letter, .ref h_tells, .int i_h_faultReason, .int i_h_faultCause])), (h_s, .inl (cI, 703, .inl f_h_s)), (h_past, .inl (cI, 2812, .inl z.2))] := by
  unfold MX6_records at hz
  refine kV_of (cc := cX6_records) (maxL := 2) (own := RX6) (by decide +kernel) rfl rfl (Nat.le_of_ble_eq_true rfl) (lv0 := [(0, .ref h)]) rfl (fun p e s m args below meth c A Q X rt => ?_)
  refine G_aload_n X dX6_records_0 0 rfl ?_
  refine G_get X (i0 := 0) (ci := 6) (j := 4) (C := RX6) (ref := RX6) (T := TX6) (N := 18) dX6_records_1 rfl rfl hiX6_records_X6 (by decide) flX6_records_35 rfl rfl ?_
  refine G_iconst X (v := 4) dX6_records_4 (by decide) ?_
  obtain ⟨j1, h2, h3⟩ := bnd hz
  have J4 : G p l e rmX6_records s m args below meth c D A 2 Q 0 0 49 [(0, .ref h)] [] [(h, .inr (6, [.ref h_s, .ref h_aside, .ref h_before, .ref h_past, .int j1.1, .ref h_text, .int i_h_length, .ref h_lost, .int i_h_losts, .int i_h_bestOrder, .int i_h_bestMany, .int i_h_spot, .int i_h_begin, .int i_h_isForm, .int i_h_letter, .ref h_tells, .int i_h_faultReason, .int i_h_faultCause])), (h_s, .inl (cI, 703, .inl f_h_s)), (h_past, .inl (cI, 2812, .inl j1.2))] := by
    refine G_aload_n X dX6_records_49 0 rfl ?_
    refine G_get X (i0 := 0) (ci := 6) (j := 0) (C := RX6) (ref := RX6) (T := TX6) (N := 18) dX6_records_50 rfl rfl hiX6_records_X6 (by decide) flX6_records_7 rfl rfl ?_
    refine G_iconst X (v := 0) dX6_records_53 (by decide) ?_
    refine G_aload_n X dX6_records_54 0 rfl ?_
    refine G_get X (i0 := 0) (ci := 6) (j := 3) (C := RX6) (ref := RX6) (T := TX6) (N := 18) dX6_records_55 rfl rfl hiX6_records_X6 (by decide) flX6_records_19 rfl rfl ?_
    refine G_sipush X (v := 703) dX6_records_58 (by decide) ?_
    refine G_aload_n X dX6_records_61 0 rfl ?_
    refine G_get X (i0 := 0) (ci := 6) (j := 4) (C := RX6) (ref := RX6) (T := TX6) (N := 18) dX6_records_62 rfl rfl hiX6_records_X6 (by decide) flX6_records_35 rfl rfl ?_
    refine G_imul X dX6_records_65 ?_
    obtain ⟨v5, h6, h7⟩ := bnd h3
    refine G1_callsv X (As := [.ref h_s, .int 0, .ref h_past, .int (703 * j1.1)]) (rest := []) (wr := [(h, .inr (6, [.ref h_s, .ref h_aside, .ref h_before, .ref h_past, .int j1.1, .ref h_text, .int i_h_length, .ref h_lost, .int i_h_losts, .int i_h_bestOrder, .int i_h_bestMany, .int i_h_spot, .int i_h_begin, .int i_h_isForm, .int i_h_letter, .ref h_tells, .int i_h_faultReason, .int i_h_faultCause]))]) (ws' := [(h, .inr (6, [.ref h_s, .ref h_aside, .ref h_before, .ref h_past, .int j1.1, .ref h_text, .int i_h_length, .ref h_lost, .int i_h_losts, .int i_h_bestOrder, .int i_h_bestMany, .int i_h_spot, .int i_h_begin, .int i_h_isForm, .int i_h_letter, .ref h_tells, .int i_h_faultReason, .int i_h_faultCause])), (h_s, .inl (cI, 703, .inl f_h_s)), (h_past, .inl (cI, 2812, .inl v5))]) dX6_records_66 pkX6_copies gX6_records_X6_copies (kkX6_copies l D cI cR h_s h_past 703 2812 f_h_s j1.2 0 (703 * j1.1) v5 h6) ⟨rfl, rfl⟩ ⟨Nat.le_of_ble_eq_true rfl, Nat.le_of_ble_eq_true rfl⟩ rfl rfl (Nat.le_of_ble_eq_true rfl) [1, 2] [0] rfl rfl ⟨rfl, rfl, by decide⟩ ⟨Nat.zero_le _, Nat.zero_le _⟩ [0, 1, 2] rfl rfl ?_
    refine G_aload_n X dX6_records_69 0 rfl ?_
    refine G_dup X dX6_records_70 rfl ?_
    refine G_get X (i0 := 0) (ci := 6) (j := 4) (C := RX6) (ref := RX6) (T := TX6) (N := 18) dX6_records_71 rfl rfl hiX6_records_X6 (by decide) flX6_records_35 rfl rfl ?_
    refine G_iconst X (v := 1) dX6_records_74 (by decide) ?_
    refine G_iadd X dX6_records_75 ?_
    refine G_put X (i0 := 0) (ci := 6) (j := 4) (C := RX6) (ref := RX6) (T := TX6) (N := 18) (ty := .int) (ws' := [(h, .inr (6, [.ref h_s, .ref h_aside, .ref h_before, .ref h_past, .int (j1.1 + 1), .ref h_text, .int i_h_length, .ref h_lost, .int i_h_losts, .int i_h_bestOrder, .int i_h_bestMany, .int i_h_spot, .int i_h_begin, .int i_h_isForm, .int i_h_letter, .ref h_tells, .int i_h_faultReason, .int i_h_faultCause])), (h_s, .inl (cI, 703, .inl f_h_s)), (h_past, .inl (cI, 2812, .inl v5))]) tyX6 dX6_records_76 rfl rfl hiX6_records_X6 tyX6_ok nmX6 (by decide) flX6_records_35 rfl rfl rfl rfl rfl (Nat.le_of_ble_eq_true rfl) rfl ?_
    cases h7
    exact rt _ _ _ dX6_records_79 rfl
  refine G_icmp_ne X (tgt := 49) dX6_records_5 (by decide) (fun h8 => ?_) (fun h8 => ?_)
  · have h9 := ifp h8 h2
    refine G_iconst X (v := 0) dX6_records_8 (by decide) ?_
    refine G_istore_n X (lv' := [(1, .int 0), (0, .ref h)]) dX6_records_9 (by decide) rfl ?_
    obtain ⟨j11, h12, h13⟩ := bnd h9
    have J18 : G p l e rmX6_records s m args below meth c D A 2 Q 0 0 39 [(0, .ref h)] [] [(h, .inr (6, [.ref h_s, .ref h_aside, .ref h_before, .ref h_past, .int i_h_known, .ref h_text, .int i_h_length, .ref h_lost, .int i_h_losts, .int i_h_bestOrder, .int i_h_bestMany, .int i_h_spot, .int i_h_begin, .int i_h_isForm, .int i_h_letter, .ref h_tells, .int i_h_faultReason, .int i_h_faultCause])), (h_s, .inl (cI, 703, .inl f_h_s)), (h_past, .inl (cI, 2812, .inl j11))] := by
      refine G_aload_n X dX6_records_39 0 rfl ?_
      refine G_dup X dX6_records_40 rfl ?_
      refine G_get X (i0 := 0) (ci := 6) (j := 4) (C := RX6) (ref := RX6) (T := TX6) (N := 18) dX6_records_41 rfl rfl hiX6_records_X6 (by decide) flX6_records_35 rfl rfl ?_
      refine G_iconst X (v := 1) dX6_records_44 (by decide) ?_
      refine G_isub X dX6_records_45 ?_
      refine G_put X (i0 := 0) (ci := 6) (j := 4) (C := RX6) (ref := RX6) (T := TX6) (N := 18) (ty := .int) (ws' := [(h, .inr (6, [.ref h_s, .ref h_aside, .ref h_before, .ref h_past, .int (i_h_known - 1), .ref h_text, .int i_h_length, .ref h_lost, .int i_h_losts, .int i_h_bestOrder, .int i_h_bestMany, .int i_h_spot, .int i_h_begin, .int i_h_isForm, .int i_h_letter, .ref h_tells, .int i_h_faultReason, .int i_h_faultCause])), (h_s, .inl (cI, 703, .inl f_h_s)), (h_past, .inl (cI, 2812, .inl j11))]) tyX6 dX6_records_46 rfl rfl hiX6_records_X6 tyX6_ok nmX6 (by decide) flX6_records_35 rfl rfl rfl rfl rfl (Nat.le_of_ble_eq_true rfl) rfl ?_
      cases h13
      exact J4
    refine G_lv [1, 0] rfl ?_
    refine itr_ind (P := fun s10 : (Int32 × (Nat → Int32)) => G p l e rmX6_records s m args below meth c D A 2 Q 0 0 10 [(0, .ref h), (1, .int s10.1)] [] [(h, .inr (6, [.ref h_s, .ref h_aside, .ref h_before, .ref h_past, .int i_h_known, .ref h_text, .int i_h_length, .ref h_lost, .int i_h_losts, .int i_h_bestOrder, .int i_h_bestMany, .int i_h_spot, .int i_h_begin, .int i_h_isForm, .int i_h_letter, .ref h_tells, .int i_h_faultReason, .int i_h_faultCause])), (h_s, .inl (cI, 703, .inl f_h_s)), (h_past, .inl (cI, 2812, .inl s10.2))]) (fun s10 o17 h14 h15 h16 => ?_) FU _ h12
    unfold SX6_records_10 at h14
    refine G_iload_n X dX6_records_10 1 rfl ?_
    refine G_sipush X (v := 2109) dX6_records_11 (by decide) ?_
    refine G_icmp_ge X (tgt := 39) dX6_records_14 (by decide) (fun h20 => ?_) (fun h20 => ?_)
    · have h21 := ifp h20 h14
      cases h21
      have h22 := h16 _ rfl
      subst h22
      exact G_lv [0] rfl (J18)
    · have h23 := ifn h20 h14
      refine G_aload_n X dX6_records_17 0 rfl ?_
      refine G_get X (i0 := 0) (ci := 6) (j := 3) (C := RX6) (ref := RX6) (T := TX6) (N := 18) dX6_records_18 rfl rfl hiX6_records_X6 (by decide) flX6_records_19 rfl rfl ?_
      refine G_iload_n X dX6_records_21 1 rfl ?_
      refine G_aload_n X dX6_records_22 0 rfl ?_
      refine G_get X (i0 := 0) (ci := 6) (j := 3) (C := RX6) (ref := RX6) (T := TX6) (N := 18) dX6_records_23 rfl rfl hiX6_records_X6 (by decide) flX6_records_19 rfl rfl ?_
      refine G_iload_n X dX6_records_26 1 rfl ?_
      refine G_sipush X (v := 703) dX6_records_27 (by decide) ?_
      refine G_iadd X dX6_records_30 ?_
      obtain ⟨v24, h25, h26⟩ := bnd h23
      refine G_iald X (i0 := 2) dX6_records_31 rfl h25 ?_
      obtain ⟨g27, h28, h29⟩ := bnd h26
      refine G_iast X (i0 := 2) (ws' := [(h, .inr (6, [.ref h_s, .ref h_aside, .ref h_before, .ref h_past, .int i_h_known, .ref h_text, .int i_h_length, .ref h_lost, .int i_h_losts, .int i_h_bestOrder, .int i_h_bestMany, .int i_h_spot, .int i_h_begin, .int i_h_isForm, .int i_h_letter, .ref h_tells, .int i_h_faultReason, .int i_h_faultCause])), (h_s, .inl (cI, 703, .inl f_h_s)), (h_past, .inl (cI, 2812, .inl g27))]) dX6_records_32 rfl h28 rfl ?_
      refine G_iinc X (v := (s10.1 + 1)) (lv' := [(1, .int (s10.1 + 1)), (0, .ref h)]) dX6_records_33 1 rfl rfl (by decide) rfl ?_
      refine G_goto X (tgt := 10) dX6_records_36 (by decide) ?_
      cases h29
      exact G_lv [1, 0] rfl (h15 _ rfl)
  · have h30 := ifn h8 h2
    cases h30
    exact J4
def rmX6_isRow : Room := { frames := 1, cells := 0, slots := 0, locals := 22 }
theorem pkX6_isRow : cK yX6_isRow wsX6_isRow cX6_isRow 2 (some .boolean) 1 RX6 := ⟨⟨_, rfl⟩, by decide +kernel⟩
theorem hiX6_isRow_X6 : ∀ w ∈ wsX60, w ∈ wsX6_isRow := by decide +kernel
theorem flX6_isRow_7 : Cond.fieldLink RX6 7 "EchoMarginsModel" "s" "[I" ∈ wsX6_isRow := by decide +kernel
set_option maxHeartbeats 4000000 in
set_option maxRecDepth 100000 in
theorem kkX6_isRow (l : Launch) (D : va_G) (cI cR : ClassId) (h h_s h_aside h_before h_past h_text h_lost h_tells : Nat) (i_h_known : Int32) (i_h_length : Int32) (i_h_losts : Int32) (i_h_bestOrder : Int32) (i_h_bestMany : Int32) (i_h_spot : Int32) (i_h_begin : Int32) (i_h_isForm : Int32) (i_h_letter : Int32) (i_h_faultReason : Int32) (i_h_faultCause : Int32) (f_h_s : Nat → Int32) (x0 : Int32) (z : Int32) (hz : MX6_isRow f_h_s x0 = some z) : cI1 l yX6_isRow wsX6_isRow rmX6_isRow D cI cR [.ref h, .int x0] [(h, .inr (6, [.ref h_s, .ref h_aside, .ref h_before, .ref h_past, .int i_h_known, .ref h_text, .int i_h_length, .ref h_lost, .int i_h_losts, .int i_h_bestOrder, .int i_h_bestMany, .int i_h_spot, .int i_h_begin, .int i_h_isForm, .int i_h_letter, .ref h_tells, .int i_h_faultReason, .int i_h_faultCause])), (h_s, .inl (cI, 703, .inl f_h_s))] z [(h, .inr (6, [.ref h_s, .ref h_aside, .ref h_before, .ref h_past, .int i_h_known, .ref h_text, .int i_h_length, .ref h_lost, .int i_h_losts, .int i_h_bestOrder, .int i_h_bestMany, .int i_h_spot, .int i_h_begin, .int i_h_isForm, .int i_h_letter, .ref h_tells, .int i_h_faultReason, .int i_h_faultCause])), (h_s, .inl (cI, 703, .inl f_h_s))] := by
  unfold MX6_isRow at hz
  refine kZ_of (cc := cX6_isRow) (maxL := 2) (own := RX6) (by decide +kernel) rfl rfl (Nat.le_of_ble_eq_true rfl) (lv0 := [(0, .ref h), (1, .int x0)]) rfl (fun p e s m args below meth c A Q X rt => ?_)
  refine G_iload_n X dX6_isRow_0 1 rfl ?_
  refine G_iconst X (v := 0) dX6_isRow_1 (by decide) ?_
  refine G_aload_n X dX6_isRow_2 0 rfl ?_
  refine G_get X (i0 := 0) (ci := 6) (j := 0) (C := RX6) (ref := RX6) (T := TX6) (N := 18) dX6_isRow_3 rfl rfl hiX6_isRow_X6 (by decide) flX6_isRow_7 rfl rfl ?_
  refine G_iconst X (v := 0) dX6_isRow_6 (by decide) ?_
  obtain ⟨v1, h2, h3⟩ := bnd hz
  refine G_iald X (i0 := 1) dX6_isRow_7 rfl h2 ?_
  refine G_iconst X (v := 1) dX6_isRow_8 (by decide) ?_
  refine G_isub X dX6_isRow_9 ?_
  obtain ⟨v4, h5, h6⟩ := bnd h3
  refine G1_callsi X (As := [.int x0, .int 0, .int (v1 - 1)]) (rest := []) (wr := [(h, .inr (6, [.ref h_s, .ref h_aside, .ref h_before, .ref h_past, .int i_h_known, .ref h_text, .int i_h_length, .ref h_lost, .int i_h_losts, .int i_h_bestOrder, .int i_h_bestMany, .int i_h_spot, .int i_h_begin, .int i_h_isForm, .int i_h_letter, .ref h_tells, .int i_h_faultReason, .int i_h_faultCause])), (h_s, .inl (cI, 703, .inl f_h_s))]) (ws' := [(h, .inr (6, [.ref h_s, .ref h_aside, .ref h_before, .ref h_past, .int i_h_known, .ref h_text, .int i_h_length, .ref h_lost, .int i_h_losts, .int i_h_bestOrder, .int i_h_bestMany, .int i_h_spot, .int i_h_begin, .int i_h_isForm, .int i_h_letter, .ref h_tells, .int i_h_faultReason, .int i_h_faultCause])), (h_s, .inl (cI, 703, .inl f_h_s))]) dX6_isRow_10 pkX6_in gX6_isRow_X6_in (kkX6_in l D cI cR x0 0 (v1 - 1) v4 h5) ⟨rfl, rfl⟩ ⟨Nat.le_of_ble_eq_true rfl, Nat.le_of_ble_eq_true rfl⟩ rfl rfl (Nat.le_of_ble_eq_true rfl) [] [0, 1] rfl rfl ⟨rfl, rfl, by decide⟩ ⟨Nat.zero_le _, Nat.zero_le _⟩ [0, 1] rfl rfl ?_
  cases h6
  exact rt _ _ _ _ dX6_isRow_13 (bzX6_in h5) ⟨rfl, rfl⟩
def rmX6_isCell : Room := { frames := 1, cells := 0, slots := 0, locals := 22 }
theorem pkX6_isCell : cK yX6_isCell wsX6_isCell cX6_isCell 1 (some .boolean) 1 RX6 := ⟨⟨_, rfl⟩, by decide +kernel⟩
set_option maxHeartbeats 4000000 in
set_option maxRecDepth 100000 in
theorem kkX6_isCell (l : Launch) (D : va_G) (cI cR : ClassId) (x0 : Int32) (z : Int32) (hz : MX6_isCell x0 = some z) : cI1 l yX6_isCell wsX6_isCell rmX6_isCell D cI cR [.int x0] [] z [] := by
  unfold MX6_isCell at hz
  refine kZ_of (cc := cX6_isCell) (maxL := 1) (own := RX6) (by decide +kernel) rfl rfl (Nat.le_of_ble_eq_true rfl) (lv0 := [(0, .int x0)]) rfl (fun p e s m args below meth c A Q X rt => ?_)
  refine G_iload_n X dX6_isCell_0 0 rfl ?_
  refine G_iconst X (v := 0) dX6_isCell_1 (by decide) ?_
  refine G_bipush X (v := 7) dX6_isCell_2 (by decide) ?_
  obtain ⟨v1, h2, h3⟩ := bnd hz
  refine G1_callsi X (As := [.int x0, .int 0, .int 7]) (rest := []) (wr := []) (ws' := []) dX6_isCell_4 pkX6_in gX6_isCell_X6_in (kkX6_in l D cI cR x0 0 7 v1 h2) ⟨rfl, rfl⟩ ⟨Nat.le_of_ble_eq_true rfl, Nat.le_of_ble_eq_true rfl⟩ rfl rfl (Nat.le_of_ble_eq_true rfl) [] [] rfl rfl ⟨rfl, rfl, by decide⟩ ⟨Nat.zero_le _, Nat.zero_le _⟩ [] rfl rfl ?_
  cases h3
  exact rt _ _ _ _ dX6_isCell_7 (bzX6_in h2) ⟨rfl, rfl⟩
def rmX6_of : Room := { frames := 0, cells := 0, slots := 0, locals := 0 }
theorem pkX6_of : cK yX6_of wsX6_of cX6_of 3 (some .int) 2 RX6 := ⟨⟨_, rfl⟩, by decide +kernel⟩
theorem hiX6_of_X6 : ∀ w ∈ wsX60, w ∈ wsX6_of := by decide +kernel
theorem flX6_of_7 : Cond.fieldLink RX6 7 "EchoMarginsModel" "s" "[I" ∈ wsX6_of := by decide +kernel
set_option maxHeartbeats 4000000 in
set_option maxRecDepth 100000 in
theorem kkX6_of (l : Launch) (D : va_G) (cI cR : ClassId) (h h_s h_aside h_before h_past h_text h_lost h_tells : Nat) (i_h_known : Int32) (i_h_length : Int32) (i_h_losts : Int32) (i_h_bestOrder : Int32) (i_h_bestMany : Int32) (i_h_spot : Int32) (i_h_begin : Int32) (i_h_isForm : Int32) (i_h_letter : Int32) (i_h_faultReason : Int32) (i_h_faultCause : Int32) (f_h_s : Nat → Int32) (x0 : Int32) (x1 : Int32) (z : Int32) (hz : MX6_of f_h_s x0 x1 = some z) : cI1 l yX6_of wsX6_of rmX6_of D cI cR [.ref h, .int x0, .int x1] [(h, .inr (6, [.ref h_s, .ref h_aside, .ref h_before, .ref h_past, .int i_h_known, .ref h_text, .int i_h_length, .ref h_lost, .int i_h_losts, .int i_h_bestOrder, .int i_h_bestMany, .int i_h_spot, .int i_h_begin, .int i_h_isForm, .int i_h_letter, .ref h_tells, .int i_h_faultReason, .int i_h_faultCause])), (h_s, .inl (cI, 703, .inl f_h_s))] z [(h, .inr (6, [.ref h_s, .ref h_aside, .ref h_before, .ref h_past, .int i_h_known, .ref h_text, .int i_h_length, .ref h_lost, .int i_h_losts, .int i_h_bestOrder, .int i_h_bestMany, .int i_h_spot, .int i_h_begin, .int i_h_isForm, .int i_h_letter, .ref h_tells, .int i_h_faultReason, .int i_h_faultCause])), (h_s, .inl (cI, 703, .inl f_h_s))] := by
  unfold MX6_of at hz
  refine kI_of (cc := cX6_of) (maxL := 3) (own := RX6) (by decide +kernel) rfl rfl (Nat.le_of_ble_eq_true rfl) (lv0 := [(0, .ref h), (1, .int x0), (2, .int x1)]) rfl (fun p e s m args below meth c A Q X rt => ?_)
  refine G_aload_n X dX6_of_0 0 rfl ?_
  refine G_get X (i0 := 0) (ci := 6) (j := 0) (C := RX6) (ref := RX6) (T := TX6) (N := 18) dX6_of_1 rfl rfl hiX6_of_X6 (by decide) flX6_of_7 rfl rfl ?_
  refine G_bipush X (v := 10) dX6_of_4 (by decide) ?_
  refine G_bipush X (v := 77) dX6_of_6 (by decide) ?_
  refine G_iload_n X dX6_of_8 1 rfl ?_
  refine G_imul X dX6_of_9 ?_
  refine G_iadd X dX6_of_10 ?_
  refine G_iload_n X dX6_of_11 2 rfl ?_
  refine G_iadd X dX6_of_12 ?_
  obtain ⟨v1, h2, h3⟩ := bnd hz
  refine G_iald X (i0 := 1) dX6_of_13 rfl h2 ?_
  cases h3
  exact rt _ _ _ _ dX6_of_14 ⟨rfl, rfl⟩
def rmX6_lays : Room := { frames := 0, cells := 0, slots := 0, locals := 0 }
theorem pkX6_lays : cK yX6_lays wsX6_lays cX6_lays 4 none 3 RX6 := ⟨⟨_, rfl⟩, by decide +kernel⟩
theorem hiX6_lays_X6 : ∀ w ∈ wsX60, w ∈ wsX6_lays := by decide +kernel
theorem flX6_lays_7 : Cond.fieldLink RX6 7 "EchoMarginsModel" "s" "[I" ∈ wsX6_lays := by decide +kernel
set_option maxHeartbeats 4000000 in
set_option maxRecDepth 100000 in
theorem kkX6_lays (l : Launch) (D : va_G) (cI cR : ClassId) (h h_s h_aside h_before h_past h_text h_lost h_tells : Nat) (i_h_known : Int32) (i_h_length : Int32) (i_h_losts : Int32) (i_h_bestOrder : Int32) (i_h_bestMany : Int32) (i_h_spot : Int32) (i_h_begin : Int32) (i_h_isForm : Int32) (i_h_letter : Int32) (i_h_faultReason : Int32) (i_h_faultCause : Int32) (f_h_s : Nat → Int32) (x0 : Int32) (x1 : Int32) (x2 : Int32) (z : (Nat → Int32)) (hz : MX6_lays f_h_s x0 x1 x2 = some z) : cV1 l yX6_lays wsX6_lays rmX6_lays D cI cR [.ref h, .int x0, .int x1, .int x2] [(h, .inr (6, [.ref h_s, .ref h_aside, .ref h_before, .ref h_past, .int i_h_known, .ref h_text, .int i_h_length, .ref h_lost, .int i_h_losts, .int i_h_bestOrder, .int i_h_bestMany, .int i_h_spot, .int i_h_begin, .int i_h_isForm, .int i_h_letter, .ref h_tells, .int i_h_faultReason, .int i_h_faultCause])), (h_s, .inl (cI, 703, .inl f_h_s))] [(h, .inr (6, [.ref h_s, .ref h_aside, .ref h_before, .ref h_past, .int i_h_known, .ref h_text, .int i_h_length, .ref h_lost, .int i_h_losts, .int i_h_bestOrder, .int i_h_bestMany, .int i_h_spot, .int i_h_begin, .int i_h_isForm, .int i_h_letter, .ref h_tells, .int i_h_faultReason, .int i_h_faultCause])), (h_s, .inl (cI, 703, .inl z))] := by
  unfold MX6_lays at hz
  refine kV_of (cc := cX6_lays) (maxL := 4) (own := RX6) (by decide +kernel) rfl rfl (Nat.le_of_ble_eq_true rfl) (lv0 := [(0, .ref h), (1, .int x0), (2, .int x1), (3, .int x2)]) rfl (fun p e s m args below meth c A Q X rt => ?_)
  refine G_aload_n X dX6_lays_0 0 rfl ?_
  refine G_get X (i0 := 0) (ci := 6) (j := 0) (C := RX6) (ref := RX6) (T := TX6) (N := 18) dX6_lays_1 rfl rfl hiX6_lays_X6 (by decide) flX6_lays_7 rfl rfl ?_
  refine G_bipush X (v := 10) dX6_lays_4 (by decide) ?_
  refine G_bipush X (v := 77) dX6_lays_6 (by decide) ?_
  refine G_iload_n X dX6_lays_8 1 rfl ?_
  refine G_imul X dX6_lays_9 ?_
  refine G_iadd X dX6_lays_10 ?_
  refine G_iload_n X dX6_lays_11 2 rfl ?_
  refine G_iadd X dX6_lays_12 ?_
  refine G_iload_n X dX6_lays_13 3 rfl ?_
  obtain ⟨g1, h2, h3⟩ := bnd hz
  refine G_iast X (i0 := 1) (ws' := [(h, .inr (6, [.ref h_s, .ref h_aside, .ref h_before, .ref h_past, .int i_h_known, .ref h_text, .int i_h_length, .ref h_lost, .int i_h_losts, .int i_h_bestOrder, .int i_h_bestMany, .int i_h_spot, .int i_h_begin, .int i_h_isForm, .int i_h_letter, .ref h_tells, .int i_h_faultReason, .int i_h_faultCause])), (h_s, .inl (cI, 703, .inl g1))]) dX6_lays_14 rfl h2 rfl ?_
  cases h3
  exact rt _ _ _ dX6_lays_15 rfl
def rmX6_adds : Room := { frames := 0, cells := 0, slots := 0, locals := 0 }
theorem pkX6_adds : cK yX6_adds wsX6_adds cX6_adds 3 none 2 RX6 := ⟨⟨_, rfl⟩, by decide +kernel⟩
theorem hiX6_adds_X6 : ∀ w ∈ wsX60, w ∈ wsX6_adds := by decide +kernel
theorem flX6_adds_7 : Cond.fieldLink RX6 7 "EchoMarginsModel" "s" "[I" ∈ wsX6_adds := by decide +kernel
set_option maxHeartbeats 4000000 in
set_option maxRecDepth 100000 in
theorem kkX6_adds (l : Launch) (D : va_G) (cI cR : ClassId) (h h_s h_aside h_before h_past h_text h_lost h_tells : Nat) (i_h_known : Int32) (i_h_length : Int32) (i_h_losts : Int32) (i_h_bestOrder : Int32) (i_h_bestMany : Int32) (i_h_spot : Int32) (i_h_begin : Int32) (i_h_isForm : Int32) (i_h_letter : Int32) (i_h_faultReason : Int32) (i_h_faultCause : Int32) (f_h_s : Nat → Int32) (x0 : Int32) (x1 : Int32) (z : (Nat → Int32)) (hz : MX6_adds f_h_s x0 x1 = some z) : cV1 l yX6_adds wsX6_adds rmX6_adds D cI cR [.ref h, .int x0, .int x1] [(h, .inr (6, [.ref h_s, .ref h_aside, .ref h_before, .ref h_past, .int i_h_known, .ref h_text, .int i_h_length, .ref h_lost, .int i_h_losts, .int i_h_bestOrder, .int i_h_bestMany, .int i_h_spot, .int i_h_begin, .int i_h_isForm, .int i_h_letter, .ref h_tells, .int i_h_faultReason, .int i_h_faultCause])), (h_s, .inl (cI, 703, .inl f_h_s))] [(h, .inr (6, [.ref h_s, .ref h_aside, .ref h_before, .ref h_past, .int i_h_known, .ref h_text, .int i_h_length, .ref h_lost, .int i_h_losts, .int i_h_bestOrder, .int i_h_bestMany, .int i_h_spot, .int i_h_begin, .int i_h_isForm, .int i_h_letter, .ref h_tells, .int i_h_faultReason, .int i_h_faultCause])), (h_s, .inl (cI, 703, .inl z))] := by
  unfold MX6_adds at hz
  refine kV_of (cc := cX6_adds) (maxL := 3) (own := RX6) (by decide +kernel) rfl rfl (Nat.le_of_ble_eq_true rfl) (lv0 := [(0, .ref h), (1, .int x0), (2, .int x1)]) rfl (fun p e s m args below meth c A Q X rt => ?_)
  refine G_aload_n X dX6_adds_0 0 rfl ?_
  refine G_get X (i0 := 0) (ci := 6) (j := 0) (C := RX6) (ref := RX6) (T := TX6) (N := 18) dX6_adds_1 rfl rfl hiX6_adds_X6 (by decide) flX6_adds_7 rfl rfl ?_
  refine G_bipush X (v := 10) dX6_adds_4 (by decide) ?_
  refine G_bipush X (v := 77) dX6_adds_6 (by decide) ?_
  refine G_iload_n X dX6_adds_8 1 rfl ?_
  refine G_imul X dX6_adds_9 ?_
  refine G_iadd X dX6_adds_10 ?_
  refine G_iload_n X dX6_adds_11 2 rfl ?_
  refine G_iadd X dX6_adds_12 ?_
  refine G_dup2 X dX6_adds_13 rfl rfl ?_
  obtain ⟨v1, h2, h3⟩ := bnd hz
  refine G_iald X (i0 := 1) dX6_adds_14 rfl h2 ?_
  refine G_iconst X (v := 1) dX6_adds_15 (by decide) ?_
  refine G_iadd X dX6_adds_16 ?_
  obtain ⟨g4, h5, h6⟩ := bnd h3
  refine G_iast X (i0 := 1) (ws' := [(h, .inr (6, [.ref h_s, .ref h_aside, .ref h_before, .ref h_past, .int i_h_known, .ref h_text, .int i_h_length, .ref h_lost, .int i_h_losts, .int i_h_bestOrder, .int i_h_bestMany, .int i_h_spot, .int i_h_begin, .int i_h_isForm, .int i_h_letter, .ref h_tells, .int i_h_faultReason, .int i_h_faultCause])), (h_s, .inl (cI, 703, .inl g4))]) dX6_adds_17 rfl h5 rfl ?_
  cases h6
  exact rt _ _ _ dX6_adds_18 rfl
def rmX6_lives : Room := { frames := 1, cells := 0, slots := 0, locals := 22 }
theorem pkX6_lives : cK yX6_lives wsX6_lives cX6_lives 2 (some .boolean) 1 RX6 := ⟨⟨_, rfl⟩, by decide +kernel⟩
set_option maxHeartbeats 4000000 in
set_option maxRecDepth 100000 in
theorem kkX6_lives (l : Launch) (D : va_G) (cI cR : ClassId) (h h_s h_aside h_before h_past h_text h_lost h_tells : Nat) (i_h_known : Int32) (i_h_length : Int32) (i_h_losts : Int32) (i_h_bestOrder : Int32) (i_h_bestMany : Int32) (i_h_spot : Int32) (i_h_begin : Int32) (i_h_isForm : Int32) (i_h_letter : Int32) (i_h_faultReason : Int32) (i_h_faultCause : Int32) (f_h_s : Nat → Int32) (x0 : Int32) (z : Int32) (hz : MX6_lives f_h_s x0 = some z) : cI1 l yX6_lives wsX6_lives rmX6_lives D cI cR [.ref h, .int x0] [(h, .inr (6, [.ref h_s, .ref h_aside, .ref h_before, .ref h_past, .int i_h_known, .ref h_text, .int i_h_length, .ref h_lost, .int i_h_losts, .int i_h_bestOrder, .int i_h_bestMany, .int i_h_spot, .int i_h_begin, .int i_h_isForm, .int i_h_letter, .ref h_tells, .int i_h_faultReason, .int i_h_faultCause])), (h_s, .inl (cI, 703, .inl f_h_s))] z [(h, .inr (6, [.ref h_s, .ref h_aside, .ref h_before, .ref h_past, .int i_h_known, .ref h_text, .int i_h_length, .ref h_lost, .int i_h_losts, .int i_h_bestOrder, .int i_h_bestMany, .int i_h_spot, .int i_h_begin, .int i_h_isForm, .int i_h_letter, .ref h_tells, .int i_h_faultReason, .int i_h_faultCause])), (h_s, .inl (cI, 703, .inl f_h_s))] := by
  unfold MX6_lives at hz
  refine kZ_of (cc := cX6_lives) (maxL := 2) (own := RX6) (by decide +kernel) rfl rfl (Nat.le_of_ble_eq_true rfl) (lv0 := [(0, .ref h), (1, .int x0)]) rfl (fun p e s m args below meth c A Q X rt => ?_)
  refine G_aload_n X dX6_lives_0 0 rfl ?_
  refine G_iload_n X dX6_lives_1 1 rfl ?_
  refine G_iconst X (v := 1) dX6_lives_2 (by decide) ?_
  obtain ⟨v1, h2, h3⟩ := bnd hz
  refine G1_calli X (As := [.int x0, .int 1]) (rest := []) (wr := []) (ws' := [(h, .inr (6, [.ref h_s, .ref h_aside, .ref h_before, .ref h_past, .int i_h_known, .ref h_text, .int i_h_length, .ref h_lost, .int i_h_losts, .int i_h_bestOrder, .int i_h_bestMany, .int i_h_spot, .int i_h_begin, .int i_h_isForm, .int i_h_letter, .ref h_tells, .int i_h_faultReason, .int i_h_faultCause])), (h_s, .inl (cI, 703, .inl f_h_s))]) dX6_lives_3 pkX6_of gX6_lives_X6_of (kkX6_of l D cI cR h h_s h_aside h_before h_past h_text h_lost h_tells i_h_known i_h_length i_h_losts i_h_bestOrder i_h_bestMany i_h_spot i_h_begin i_h_isForm i_h_letter i_h_faultReason i_h_faultCause f_h_s x0 1 v1 h2) ⟨rfl, rfl⟩ ⟨Nat.le_of_ble_eq_true rfl, Nat.le_of_ble_eq_true rfl⟩ rfl rfl (Nat.le_of_ble_eq_true rfl) 0 rfl rfl [0, 1] [] rfl rfl ⟨rfl, rfl, by decide⟩ ⟨Nat.zero_le _, Nat.zero_le _⟩ [0, 1] rfl rfl ?_
  refine G_iconst X (v := 1) dX6_lives_6 (by decide) ?_
  refine G_icmp_ne X (tgt := 14) dX6_lives_7 (by decide) (fun h4 => ?_) (fun h4 => ?_)
  · have h5 := ifp h4 h3
    refine G_iconst X (v := 1) dX6_lives_10 (by decide) ?_
    refine G_goto X (tgt := 15) dX6_lives_11 (by decide) ?_
    cases h5
    exact rt _ _ _ _ dX6_lives_15 rfl ⟨rfl, rfl⟩
  · have h6 := ifn h4 h3
    refine G_iconst X (v := 0) dX6_lives_14 (by decide) ?_
    cases h6
    exact rt _ _ _ _ dX6_lives_15 rfl ⟨rfl, rfl⟩
def rmX6_rowAt : Room := { frames := 1, cells := 0, slots := 0, locals := 22 }
theorem pkX6_rowAt : cK yX6_rowAt wsX6_rowAt cX6_rowAt 4 (some .int) 1 RX6 := ⟨⟨_, rfl⟩, by decide +kernel⟩
theorem hiX6_rowAt_X6 : ∀ w ∈ wsX60, w ∈ wsX6_rowAt := by decide +kernel
theorem flX6_rowAt_51 : Cond.constant RX6 51 (-1000004) ∈ wsX6_rowAt := by decide +kernel
theorem flX6_rowAt_7 : Cond.fieldLink RX6 7 "EchoMarginsModel" "s" "[I" ∈ wsX6_rowAt := by decide +kernel
set_option maxHeartbeats 4000000 in
set_option maxRecDepth 100000 in
theorem kkX6_rowAt (l : Launch) (D : va_G) (cI cR : ClassId) (h h_s h_aside h_before h_past h_text h_lost h_tells : Nat) (i_h_known : Int32) (i_h_length : Int32) (i_h_losts : Int32) (i_h_bestOrder : Int32) (i_h_bestMany : Int32) (i_h_spot : Int32) (i_h_begin : Int32) (i_h_isForm : Int32) (i_h_letter : Int32) (i_h_faultReason : Int32) (i_h_faultCause : Int32) (f_h_s : Nat → Int32) (x0 : Int32) (z : Int32) (hz : MX6_rowAt f_h_s x0 = some z) : cI1 l yX6_rowAt wsX6_rowAt rmX6_rowAt D cI cR [.ref h, .int x0] [(h, .inr (6, [.ref h_s, .ref h_aside, .ref h_before, .ref h_past, .int i_h_known, .ref h_text, .int i_h_length, .ref h_lost, .int i_h_losts, .int i_h_bestOrder, .int i_h_bestMany, .int i_h_spot, .int i_h_begin, .int i_h_isForm, .int i_h_letter, .ref h_tells, .int i_h_faultReason, .int i_h_faultCause])), (h_s, .inl (cI, 703, .inl f_h_s))] z [(h, .inr (6, [.ref h_s, .ref h_aside, .ref h_before, .ref h_past, .int i_h_known, .ref h_text, .int i_h_length, .ref h_lost, .int i_h_losts, .int i_h_bestOrder, .int i_h_bestMany, .int i_h_spot, .int i_h_begin, .int i_h_isForm, .int i_h_letter, .ref h_tells, .int i_h_faultReason, .int i_h_faultCause])), (h_s, .inl (cI, 703, .inl f_h_s))] := by
  unfold MX6_rowAt at hz
  refine kI_of (cc := cX6_rowAt) (maxL := 4) (own := RX6) (by decide +kernel) rfl rfl (Nat.le_of_ble_eq_true rfl) (lv0 := [(0, .ref h), (1, .int x0)]) rfl (fun p e s m args below meth c A Q X rt => ?_)
  refine G_ldc X dX6_rowAt_0 flX6_rowAt_51 ?_
  refine G_istore_n X (lv' := [(2, .int (-1000004)), (0, .ref h), (1, .int x0)]) dX6_rowAt_2 (by decide) rfl ?_
  refine G_iconst X (v := 0) dX6_rowAt_3 (by decide) ?_
  refine G_istore_n X (lv' := [(3, .int 0), (2, .int (-1000004)), (0, .ref h), (1, .int x0)]) dX6_rowAt_4 (by decide) rfl ?_
  obtain ⟨j2, h3, h4⟩ := bnd hz
  have J9 : G p l e rmX6_rowAt s m args below meth c D A 4 Q 0 0 37 [(2, .int j2)] [] [(h, .inr (6, [.ref h_s, .ref h_aside, .ref h_before, .ref h_past, .int i_h_known, .ref h_text, .int i_h_length, .ref h_lost, .int i_h_losts, .int i_h_bestOrder, .int i_h_bestMany, .int i_h_spot, .int i_h_begin, .int i_h_isForm, .int i_h_letter, .ref h_tells, .int i_h_faultReason, .int i_h_faultCause])), (h_s, .inl (cI, 703, .inl f_h_s))] := by
    refine G_iload_n X dX6_rowAt_37 0 rfl ?_
    cases h4
    exact rt _ _ _ _ dX6_rowAt_38 ⟨rfl, rfl⟩
  refine G_lv [2, 3, 1, 0] rfl ?_
  refine itr_ind (P := fun s1 : (Int32 × Int32) => G p l e rmX6_rowAt s m args below meth c D A 4 Q 0 0 5 [(0, .ref h), (1, .int x0), (2, .int s1.1), (3, .int s1.2)] [] [(h, .inr (6, [.ref h_s, .ref h_aside, .ref h_before, .ref h_past, .int i_h_known, .ref h_text, .int i_h_length, .ref h_lost, .int i_h_losts, .int i_h_bestOrder, .int i_h_bestMany, .int i_h_spot, .int i_h_begin, .int i_h_isForm, .int i_h_letter, .ref h_tells, .int i_h_faultReason, .int i_h_faultCause])), (h_s, .inl (cI, 703, .inl f_h_s))]) (fun s1 o8 h5 h6 h7 => ?_) FU _ h3
  unfold SX6_rowAt_5 at h5
  refine G_iload_n X dX6_rowAt_5 3 rfl ?_
  refine G_aload_n X dX6_rowAt_6 0 rfl ?_
  refine G_get X (i0 := 0) (ci := 6) (j := 0) (C := RX6) (ref := RX6) (T := TX6) (N := 18) dX6_rowAt_7 rfl rfl hiX6_rowAt_X6 (by decide) flX6_rowAt_7 rfl rfl ?_
  refine G_iconst X (v := 0) dX6_rowAt_10 (by decide) ?_
  obtain ⟨v11, h12, h13⟩ := bnd h5
  refine G_iald X (i0 := 1) dX6_rowAt_11 rfl h12 ?_
  refine G_icmp_ge X (tgt := 37) dX6_rowAt_12 (by decide) (fun h14 => ?_) (fun h14 => ?_)
  · have h15 := ifp h14 h13
    cases h15
    have h16 := h7 _ rfl
    subst h16
    exact G_lv [2] rfl (J9)
  · have h17 := ifn h14 h13
    refine G_aload_n X dX6_rowAt_15 0 rfl ?_
    refine G_iload_n X dX6_rowAt_16 3 rfl ?_
    refine G_iconst X (v := 0) dX6_rowAt_17 (by decide) ?_
    obtain ⟨v18, h19, h20⟩ := bnd h17
    refine G1_calli X (As := [.int s1.2, .int 0]) (rest := []) (wr := []) (ws' := [(h, .inr (6, [.ref h_s, .ref h_aside, .ref h_before, .ref h_past, .int i_h_known, .ref h_text, .int i_h_length, .ref h_lost, .int i_h_losts, .int i_h_bestOrder, .int i_h_bestMany, .int i_h_spot, .int i_h_begin, .int i_h_isForm, .int i_h_letter, .ref h_tells, .int i_h_faultReason, .int i_h_faultCause])), (h_s, .inl (cI, 703, .inl f_h_s))]) dX6_rowAt_18 pkX6_of gX6_rowAt_X6_of (kkX6_of l D cI cR h h_s h_aside h_before h_past h_text h_lost h_tells i_h_known i_h_length i_h_losts i_h_bestOrder i_h_bestMany i_h_spot i_h_begin i_h_isForm i_h_letter i_h_faultReason i_h_faultCause f_h_s s1.2 0 v18 h19) ⟨rfl, rfl⟩ ⟨Nat.le_of_ble_eq_true rfl, Nat.le_of_ble_eq_true rfl⟩ rfl rfl (Nat.le_of_ble_eq_true rfl) 0 rfl rfl [0, 1] [] rfl rfl ⟨rfl, rfl, by decide⟩ ⟨Nat.zero_le _, Nat.zero_le _⟩ [0, 1] rfl rfl ?_
    refine G_iload_n X dX6_rowAt_21 1 rfl ?_
    refine G_icmp_ne X (tgt := 29) dX6_rowAt_22 (by decide) (fun h21 => ?_) (fun h21 => ?_)
    · have h22 := ifp h21 h20
      refine G_iload_n X dX6_rowAt_25 3 rfl ?_
      refine G_goto X (tgt := 30) dX6_rowAt_26 (by decide) ?_
      refine G_istore_n X (lv' := [(2, .int s1.2), (0, .ref h), (1, .int x0), (3, .int s1.2)]) dX6_rowAt_30 (by decide) rfl ?_
      refine G_iinc X (v := (s1.2 + 1)) (lv' := [(3, .int (s1.2 + 1)), (2, .int s1.2), (0, .ref h), (1, .int x0)]) dX6_rowAt_31 3 rfl rfl (by decide) rfl ?_
      refine G_goto X (tgt := 5) dX6_rowAt_34 (by decide) ?_
      cases h22
      exact G_lv [2, 3, 1, 0] rfl (h6 _ rfl)
    · have h23 := ifn h21 h20
      refine G_iload_n X dX6_rowAt_29 2 rfl ?_
      refine G_istore_n X (lv' := [(2, .int s1.1), (0, .ref h), (1, .int x0), (3, .int s1.2)]) dX6_rowAt_30 (by decide) rfl ?_
      refine G_iinc X (v := (s1.2 + 1)) (lv' := [(3, .int (s1.2 + 1)), (2, .int s1.1), (0, .ref h), (1, .int x0)]) dX6_rowAt_31 3 rfl rfl (by decide) rfl ?_
      refine G_goto X (tgt := 5) dX6_rowAt_34 (by decide) ?_
      cases h23
      exact G_lv [2, 3, 1, 0] rfl (h6 _ rfl)
def rmX6_upper : Room := { frames := 2, cells := 0, slots := 0, locals := 45 }
theorem pkX6_upper : cK yX6_upper wsX6_upper cX6_upper 2 (some .int) 1 RX6 := ⟨⟨_, rfl⟩, by decide +kernel⟩
theorem hiX6_upper_X6 : ∀ w ∈ wsX60, w ∈ wsX6_upper := by decide +kernel
theorem flX6_upper_7 : Cond.fieldLink RX6 7 "EchoMarginsModel" "s" "[I" ∈ wsX6_upper := by decide +kernel
set_option maxHeartbeats 4000000 in
set_option maxRecDepth 100000 in
theorem kkX6_upper (l : Launch) (D : va_G) (cI cR : ClassId) (h h_s h_aside h_before h_past h_text h_lost h_tells : Nat) (i_h_known : Int32) (i_h_length : Int32) (i_h_losts : Int32) (i_h_bestOrder : Int32) (i_h_bestMany : Int32) (i_h_spot : Int32) (i_h_begin : Int32) (i_h_isForm : Int32) (i_h_letter : Int32) (i_h_faultReason : Int32) (i_h_faultCause : Int32) (f_h_s : Nat → Int32) (x0 : Int32) (z : Int32) (hz : MX6_upper f_h_s x0 = some z) : cI1 l yX6_upper wsX6_upper rmX6_upper D cI cR [.ref h, .int x0] [(h, .inr (6, [.ref h_s, .ref h_aside, .ref h_before, .ref h_past, .int i_h_known, .ref h_text, .int i_h_length, .ref h_lost, .int i_h_losts, .int i_h_bestOrder, .int i_h_bestMany, .int i_h_spot, .int i_h_begin, .int i_h_isForm, .int i_h_letter, .ref h_tells, .int i_h_faultReason, .int i_h_faultCause])), (h_s, .inl (cI, 703, .inl f_h_s))] z [(h, .inr (6, [.ref h_s, .ref h_aside, .ref h_before, .ref h_past, .int i_h_known, .ref h_text, .int i_h_length, .ref h_lost, .int i_h_losts, .int i_h_bestOrder, .int i_h_bestMany, .int i_h_spot, .int i_h_begin, .int i_h_isForm, .int i_h_letter, .ref h_tells, .int i_h_faultReason, .int i_h_faultCause])), (h_s, .inl (cI, 703, .inl f_h_s))] := by
  unfold MX6_upper at hz
  refine kI_of (cc := cX6_upper) (maxL := 2) (own := RX6) (by decide +kernel) rfl rfl (Nat.le_of_ble_eq_true rfl) (lv0 := [(0, .ref h), (1, .int x0)]) rfl (fun p e s m args below meth c A Q X rt => ?_)
  refine G_aload_n X dX6_upper_0 0 rfl ?_
  refine G_aload_n X dX6_upper_1 0 rfl ?_
  refine G_iload_n X dX6_upper_2 1 rfl ?_
  refine G_iconst X (v := 0) dX6_upper_3 (by decide) ?_
  obtain ⟨v1, h2, h3⟩ := bnd hz
  refine G1_calli X (As := [.int x0, .int 0]) (rest := [.ref h]) (wr := []) (ws' := [(h, .inr (6, [.ref h_s, .ref h_aside, .ref h_before, .ref h_past, .int i_h_known, .ref h_text, .int i_h_length, .ref h_lost, .int i_h_losts, .int i_h_bestOrder, .int i_h_bestMany, .int i_h_spot, .int i_h_begin, .int i_h_isForm, .int i_h_letter, .ref h_tells, .int i_h_faultReason, .int i_h_faultCause])), (h_s, .inl (cI, 703, .inl f_h_s))]) dX6_upper_4 pkX6_of gX6_upper_X6_of (kkX6_of l D cI cR h h_s h_aside h_before h_past h_text h_lost h_tells i_h_known i_h_length i_h_losts i_h_bestOrder i_h_bestMany i_h_spot i_h_begin i_h_isForm i_h_letter i_h_faultReason i_h_faultCause f_h_s x0 0 v1 h2) ⟨rfl, rfl⟩ ⟨Nat.le_of_ble_eq_true rfl, Nat.le_of_ble_eq_true rfl⟩ rfl rfl (Nat.le_of_ble_eq_true rfl) 0 rfl rfl [0, 1] [] rfl rfl ⟨rfl, rfl, by decide⟩ ⟨Nat.zero_le _, Nat.zero_le _⟩ [0, 1] rfl rfl ?_
  refine G_aload_n X dX6_upper_7 0 rfl ?_
  refine G_get X (i0 := 0) (ci := 6) (j := 0) (C := RX6) (ref := RX6) (T := TX6) (N := 18) dX6_upper_8 rfl rfl hiX6_upper_X6 (by decide) flX6_upper_7 rfl rfl ?_
  refine G_iconst X (v := 0) dX6_upper_11 (by decide) ?_
  obtain ⟨v4, h5, h6⟩ := bnd h3
  refine G_iald X (i0 := 1) dX6_upper_12 rfl h5 ?_
  refine G_iadd X dX6_upper_13 ?_
  refine G_iconst X (v := 1) dX6_upper_14 (by decide) ?_
  refine G_isub X dX6_upper_15 ?_
  refine G_aload_n X dX6_upper_16 0 rfl ?_
  refine G_get X (i0 := 0) (ci := 6) (j := 0) (C := RX6) (ref := RX6) (T := TX6) (N := 18) dX6_upper_17 rfl rfl hiX6_upper_X6 (by decide) flX6_upper_7 rfl rfl ?_
  refine G_iconst X (v := 0) dX6_upper_20 (by decide) ?_
  obtain ⟨v7, h8, h9⟩ := bnd h6
  refine G_iald X (i0 := 1) dX6_upper_21 rfl h8 ?_
  obtain ⟨v10, h11, h12⟩ := bnd h9
  refine G_iremA X dX6_upper_22 h11 ?_
  obtain ⟨v13, h14, h15⟩ := bnd h12
  refine G1_calli X (As := [.int v10]) (rest := []) (wr := []) (ws' := [(h, .inr (6, [.ref h_s, .ref h_aside, .ref h_before, .ref h_past, .int i_h_known, .ref h_text, .int i_h_length, .ref h_lost, .int i_h_losts, .int i_h_bestOrder, .int i_h_bestMany, .int i_h_spot, .int i_h_begin, .int i_h_isForm, .int i_h_letter, .ref h_tells, .int i_h_faultReason, .int i_h_faultCause])), (h_s, .inl (cI, 703, .inl f_h_s))]) dX6_upper_23 pkX6_rowAt gX6_upper_X6_rowAt (kkX6_rowAt l D cI cR h h_s h_aside h_before h_past h_text h_lost h_tells i_h_known i_h_length i_h_losts i_h_bestOrder i_h_bestMany i_h_spot i_h_begin i_h_isForm i_h_letter i_h_faultReason i_h_faultCause f_h_s v10 v13 h14) ⟨rfl, rfl⟩ ⟨Nat.le_of_ble_eq_true rfl, Nat.le_of_ble_eq_true rfl⟩ rfl rfl (Nat.le_of_ble_eq_true rfl) 0 rfl rfl [0, 1] [] rfl rfl ⟨rfl, rfl, by decide⟩ ⟨Nat.zero_le _, Nat.zero_le _⟩ [0, 1] rfl rfl ?_
  cases h15
  exact rt _ _ _ _ dX6_upper_26 ⟨rfl, rfl⟩
def rmX6_lower : Room := { frames := 2, cells := 0, slots := 0, locals := 45 }
theorem pkX6_lower : cK yX6_lower wsX6_lower cX6_lower 2 (some .int) 1 RX6 := ⟨⟨_, rfl⟩, by decide +kernel⟩
theorem hiX6_lower_X6 : ∀ w ∈ wsX60, w ∈ wsX6_lower := by decide +kernel
theorem flX6_lower_7 : Cond.fieldLink RX6 7 "EchoMarginsModel" "s" "[I" ∈ wsX6_lower := by decide +kernel
set_option maxHeartbeats 4000000 in
set_option maxRecDepth 100000 in
theorem kkX6_lower (l : Launch) (D : va_G) (cI cR : ClassId) (h h_s h_aside h_before h_past h_text h_lost h_tells : Nat) (i_h_known : Int32) (i_h_length : Int32) (i_h_losts : Int32) (i_h_bestOrder : Int32) (i_h_bestMany : Int32) (i_h_spot : Int32) (i_h_begin : Int32) (i_h_isForm : Int32) (i_h_letter : Int32) (i_h_faultReason : Int32) (i_h_faultCause : Int32) (f_h_s : Nat → Int32) (x0 : Int32) (z : Int32) (hz : MX6_lower f_h_s x0 = some z) : cI1 l yX6_lower wsX6_lower rmX6_lower D cI cR [.ref h, .int x0] [(h, .inr (6, [.ref h_s, .ref h_aside, .ref h_before, .ref h_past, .int i_h_known, .ref h_text, .int i_h_length, .ref h_lost, .int i_h_losts, .int i_h_bestOrder, .int i_h_bestMany, .int i_h_spot, .int i_h_begin, .int i_h_isForm, .int i_h_letter, .ref h_tells, .int i_h_faultReason, .int i_h_faultCause])), (h_s, .inl (cI, 703, .inl f_h_s))] z [(h, .inr (6, [.ref h_s, .ref h_aside, .ref h_before, .ref h_past, .int i_h_known, .ref h_text, .int i_h_length, .ref h_lost, .int i_h_losts, .int i_h_bestOrder, .int i_h_bestMany, .int i_h_spot, .int i_h_begin, .int i_h_isForm, .int i_h_letter, .ref h_tells, .int i_h_faultReason, .int i_h_faultCause])), (h_s, .inl (cI, 703, .inl f_h_s))] := by
  unfold MX6_lower at hz
  refine kI_of (cc := cX6_lower) (maxL := 2) (own := RX6) (by decide +kernel) rfl rfl (Nat.le_of_ble_eq_true rfl) (lv0 := [(0, .ref h), (1, .int x0)]) rfl (fun p e s m args below meth c A Q X rt => ?_)
  refine G_aload_n X dX6_lower_0 0 rfl ?_
  refine G_aload_n X dX6_lower_1 0 rfl ?_
  refine G_iload_n X dX6_lower_2 1 rfl ?_
  refine G_iconst X (v := 0) dX6_lower_3 (by decide) ?_
  obtain ⟨v1, h2, h3⟩ := bnd hz
  refine G1_calli X (As := [.int x0, .int 0]) (rest := [.ref h]) (wr := []) (ws' := [(h, .inr (6, [.ref h_s, .ref h_aside, .ref h_before, .ref h_past, .int i_h_known, .ref h_text, .int i_h_length, .ref h_lost, .int i_h_losts, .int i_h_bestOrder, .int i_h_bestMany, .int i_h_spot, .int i_h_begin, .int i_h_isForm, .int i_h_letter, .ref h_tells, .int i_h_faultReason, .int i_h_faultCause])), (h_s, .inl (cI, 703, .inl f_h_s))]) dX6_lower_4 pkX6_of gX6_lower_X6_of (kkX6_of l D cI cR h h_s h_aside h_before h_past h_text h_lost h_tells i_h_known i_h_length i_h_losts i_h_bestOrder i_h_bestMany i_h_spot i_h_begin i_h_isForm i_h_letter i_h_faultReason i_h_faultCause f_h_s x0 0 v1 h2) ⟨rfl, rfl⟩ ⟨Nat.le_of_ble_eq_true rfl, Nat.le_of_ble_eq_true rfl⟩ rfl rfl (Nat.le_of_ble_eq_true rfl) 0 rfl rfl [0, 1] [] rfl rfl ⟨rfl, rfl, by decide⟩ ⟨Nat.zero_le _, Nat.zero_le _⟩ [0, 1] rfl rfl ?_
  refine G_iconst X (v := 1) dX6_lower_7 (by decide) ?_
  refine G_iadd X dX6_lower_8 ?_
  refine G_aload_n X dX6_lower_9 0 rfl ?_
  refine G_get X (i0 := 0) (ci := 6) (j := 0) (C := RX6) (ref := RX6) (T := TX6) (N := 18) dX6_lower_10 rfl rfl hiX6_lower_X6 (by decide) flX6_lower_7 rfl rfl ?_
  refine G_iconst X (v := 0) dX6_lower_13 (by decide) ?_
  obtain ⟨v4, h5, h6⟩ := bnd h3
  refine G_iald X (i0 := 1) dX6_lower_14 rfl h5 ?_
  obtain ⟨v7, h8, h9⟩ := bnd h6
  refine G_iremA X dX6_lower_15 h8 ?_
  obtain ⟨v10, h11, h12⟩ := bnd h9
  refine G1_calli X (As := [.int v7]) (rest := []) (wr := []) (ws' := [(h, .inr (6, [.ref h_s, .ref h_aside, .ref h_before, .ref h_past, .int i_h_known, .ref h_text, .int i_h_length, .ref h_lost, .int i_h_losts, .int i_h_bestOrder, .int i_h_bestMany, .int i_h_spot, .int i_h_begin, .int i_h_isForm, .int i_h_letter, .ref h_tells, .int i_h_faultReason, .int i_h_faultCause])), (h_s, .inl (cI, 703, .inl f_h_s))]) dX6_lower_16 pkX6_rowAt gX6_lower_X6_rowAt (kkX6_rowAt l D cI cR h h_s h_aside h_before h_past h_text h_lost h_tells i_h_known i_h_length i_h_losts i_h_bestOrder i_h_bestMany i_h_spot i_h_begin i_h_isForm i_h_letter i_h_faultReason i_h_faultCause f_h_s v7 v10 h11) ⟨rfl, rfl⟩ ⟨Nat.le_of_ble_eq_true rfl, Nat.le_of_ble_eq_true rfl⟩ rfl rfl (Nat.le_of_ble_eq_true rfl) 0 rfl rfl [0, 1] [] rfl rfl ⟨rfl, rfl, by decide⟩ ⟨Nat.zero_le _, Nat.zero_le _⟩ [0, 1] rfl rfl ?_
  cases h12
  exact rt _ _ _ _ dX6_lower_19 ⟨rfl, rfl⟩
def rmX6_bearer : Room := { frames := 3, cells := 0, slots := 0, locals := 66 }
theorem pkX6_bearer : cK yX6_bearer wsX6_bearer cX6_bearer 3 (some .int) 2 RX6 := ⟨⟨_, rfl⟩, by decide +kernel⟩
set_option maxHeartbeats 4000000 in
set_option maxRecDepth 100000 in
theorem kkX6_bearer (l : Launch) (D : va_G) (cI cR : ClassId) (h h_s h_aside h_before h_past h_text h_lost h_tells : Nat) (i_h_known : Int32) (i_h_length : Int32) (i_h_losts : Int32) (i_h_bestOrder : Int32) (i_h_bestMany : Int32) (i_h_spot : Int32) (i_h_begin : Int32) (i_h_isForm : Int32) (i_h_letter : Int32) (i_h_faultReason : Int32) (i_h_faultCause : Int32) (f_h_s : Nat → Int32) (x0 : Int32) (x1 : Int32) (z : Int32) (hz : MX6_bearer f_h_s x0 x1 = some z) : cI1 l yX6_bearer wsX6_bearer rmX6_bearer D cI cR [.ref h, .int x0, .int x1] [(h, .inr (6, [.ref h_s, .ref h_aside, .ref h_before, .ref h_past, .int i_h_known, .ref h_text, .int i_h_length, .ref h_lost, .int i_h_losts, .int i_h_bestOrder, .int i_h_bestMany, .int i_h_spot, .int i_h_begin, .int i_h_isForm, .int i_h_letter, .ref h_tells, .int i_h_faultReason, .int i_h_faultCause])), (h_s, .inl (cI, 703, .inl f_h_s))] z [(h, .inr (6, [.ref h_s, .ref h_aside, .ref h_before, .ref h_past, .int i_h_known, .ref h_text, .int i_h_length, .ref h_lost, .int i_h_losts, .int i_h_bestOrder, .int i_h_bestMany, .int i_h_spot, .int i_h_begin, .int i_h_isForm, .int i_h_letter, .ref h_tells, .int i_h_faultReason, .int i_h_faultCause])), (h_s, .inl (cI, 703, .inl f_h_s))] := by
  unfold MX6_bearer at hz
  refine kI_of (cc := cX6_bearer) (maxL := 3) (own := RX6) (by decide +kernel) rfl rfl (Nat.le_of_ble_eq_true rfl) (lv0 := [(0, .ref h), (1, .int x0), (2, .int x1)]) rfl (fun p e s m args below meth c A Q X rt => ?_)
  refine G_iload_n X dX6_bearer_0 2 rfl ?_
  refine G_iconst X (v := 2) dX6_bearer_1 (by decide) ?_
  refine G_irem X dX6_bearer_2 (by decide) ?_
  refine G_if_ne X (tgt := 14) dX6_bearer_3 (by decide) (fun h1 => ?_) (fun h1 => ?_)
  · have h2 := ifp h1 hz
    refine G_aload_n X dX6_bearer_6 0 rfl ?_
    refine G_iload_n X dX6_bearer_7 1 rfl ?_
    obtain ⟨v3, h4, h5⟩ := bnd h2
    refine G1_calli X (As := [.int x0]) (rest := []) (wr := []) (ws' := [(h, .inr (6, [.ref h_s, .ref h_aside, .ref h_before, .ref h_past, .int i_h_known, .ref h_text, .int i_h_length, .ref h_lost, .int i_h_losts, .int i_h_bestOrder, .int i_h_bestMany, .int i_h_spot, .int i_h_begin, .int i_h_isForm, .int i_h_letter, .ref h_tells, .int i_h_faultReason, .int i_h_faultCause])), (h_s, .inl (cI, 703, .inl f_h_s))]) dX6_bearer_8 pkX6_upper gX6_bearer_X6_upper (kkX6_upper l D cI cR h h_s h_aside h_before h_past h_text h_lost h_tells i_h_known i_h_length i_h_losts i_h_bestOrder i_h_bestMany i_h_spot i_h_begin i_h_isForm i_h_letter i_h_faultReason i_h_faultCause f_h_s x0 v3 h4) ⟨rfl, rfl⟩ ⟨Nat.le_of_ble_eq_true rfl, Nat.le_of_ble_eq_true rfl⟩ rfl rfl (Nat.le_of_ble_eq_true rfl) 0 rfl rfl [0, 1] [] rfl rfl ⟨rfl, rfl, by decide⟩ ⟨Nat.zero_le _, Nat.zero_le _⟩ [0, 1] rfl rfl ?_
    refine G_goto X (tgt := 19) dX6_bearer_11 (by decide) ?_
    cases h5
    exact rt _ _ _ _ dX6_bearer_19 ⟨rfl, rfl⟩
  · have h6 := ifn h1 hz
    refine G_aload_n X dX6_bearer_14 0 rfl ?_
    refine G_iload_n X dX6_bearer_15 1 rfl ?_
    obtain ⟨v7, h8, h9⟩ := bnd h6
    refine G1_calli X (As := [.int x0]) (rest := []) (wr := []) (ws' := [(h, .inr (6, [.ref h_s, .ref h_aside, .ref h_before, .ref h_past, .int i_h_known, .ref h_text, .int i_h_length, .ref h_lost, .int i_h_losts, .int i_h_bestOrder, .int i_h_bestMany, .int i_h_spot, .int i_h_begin, .int i_h_isForm, .int i_h_letter, .ref h_tells, .int i_h_faultReason, .int i_h_faultCause])), (h_s, .inl (cI, 703, .inl f_h_s))]) dX6_bearer_16 pkX6_lower gX6_bearer_X6_lower (kkX6_lower l D cI cR h h_s h_aside h_before h_past h_text h_lost h_tells i_h_known i_h_length i_h_losts i_h_bestOrder i_h_bestMany i_h_spot i_h_begin i_h_isForm i_h_letter i_h_faultReason i_h_faultCause f_h_s x0 v7 h8) ⟨rfl, rfl⟩ ⟨Nat.le_of_ble_eq_true rfl, Nat.le_of_ble_eq_true rfl⟩ rfl rfl (Nat.le_of_ble_eq_true rfl) 0 rfl rfl [0, 1] [] rfl rfl ⟨rfl, rfl, by decide⟩ ⟨Nat.zero_le _, Nat.zero_le _⟩ [0, 1] rfl rfl ?_
    cases h9
    exact rt _ _ _ _ dX6_bearer_19 ⟨rfl, rfl⟩
def rmX6_echo : Room := { frames := 1, cells := 0, slots := 0, locals := 22 }
theorem pkX6_echo : cK yX6_echo wsX6_echo cX6_echo 4 (some .int) 3 RX6 := ⟨⟨_, rfl⟩, by decide +kernel⟩
set_option maxHeartbeats 4000000 in
set_option maxRecDepth 100000 in
theorem kkX6_echo (l : Launch) (D : va_G) (cI cR : ClassId) (h h_s h_aside h_before h_past h_text h_lost h_tells : Nat) (i_h_known : Int32) (i_h_length : Int32) (i_h_losts : Int32) (i_h_bestOrder : Int32) (i_h_bestMany : Int32) (i_h_spot : Int32) (i_h_begin : Int32) (i_h_isForm : Int32) (i_h_letter : Int32) (i_h_faultReason : Int32) (i_h_faultCause : Int32) (f_h_s : Nat → Int32) (x0 : Int32) (x1 : Int32) (x2 : Int32) (z : Int32) (hz : MX6_echo f_h_s x0 x1 x2 = some z) : cI1 l yX6_echo wsX6_echo rmX6_echo D cI cR [.ref h, .int x0, .int x1, .int x2] [(h, .inr (6, [.ref h_s, .ref h_aside, .ref h_before, .ref h_past, .int i_h_known, .ref h_text, .int i_h_length, .ref h_lost, .int i_h_losts, .int i_h_bestOrder, .int i_h_bestMany, .int i_h_spot, .int i_h_begin, .int i_h_isForm, .int i_h_letter, .ref h_tells, .int i_h_faultReason, .int i_h_faultCause])), (h_s, .inl (cI, 703, .inl f_h_s))] z [(h, .inr (6, [.ref h_s, .ref h_aside, .ref h_before, .ref h_past, .int i_h_known, .ref h_text, .int i_h_length, .ref h_lost, .int i_h_losts, .int i_h_bestOrder, .int i_h_bestMany, .int i_h_spot, .int i_h_begin, .int i_h_isForm, .int i_h_letter, .ref h_tells, .int i_h_faultReason, .int i_h_faultCause])), (h_s, .inl (cI, 703, .inl f_h_s))] := by
  unfold MX6_echo at hz
  refine kI_of (cc := cX6_echo) (maxL := 4) (own := RX6) (by decide +kernel) rfl rfl (Nat.le_of_ble_eq_true rfl) (lv0 := [(0, .ref h), (1, .int x0), (2, .int x1), (3, .int x2)]) rfl (fun p e s m args below meth c A Q X rt => ?_)
  refine G_aload_n X dX6_echo_0 0 rfl ?_
  refine G_iload_n X dX6_echo_1 1 rfl ?_
  refine G_bipush X (v := 29) dX6_echo_2 (by decide) ?_
  refine G_iconst X (v := 3) dX6_echo_4 (by decide) ?_
  refine G_iload_n X dX6_echo_5 2 rfl ?_
  refine G_imul X dX6_echo_6 ?_
  refine G_iadd X dX6_echo_7 ?_
  refine G_iload_n X dX6_echo_8 3 rfl ?_
  refine G_iadd X dX6_echo_9 ?_
  obtain ⟨v1, h2, h3⟩ := bnd hz
  refine G1_calli X (As := [.int x0, .int ((29 + (3 * x1)) + x2)]) (rest := []) (wr := []) (ws' := [(h, .inr (6, [.ref h_s, .ref h_aside, .ref h_before, .ref h_past, .int i_h_known, .ref h_text, .int i_h_length, .ref h_lost, .int i_h_losts, .int i_h_bestOrder, .int i_h_bestMany, .int i_h_spot, .int i_h_begin, .int i_h_isForm, .int i_h_letter, .ref h_tells, .int i_h_faultReason, .int i_h_faultCause])), (h_s, .inl (cI, 703, .inl f_h_s))]) dX6_echo_10 pkX6_of gX6_echo_X6_of (kkX6_of l D cI cR h h_s h_aside h_before h_past h_text h_lost h_tells i_h_known i_h_length i_h_losts i_h_bestOrder i_h_bestMany i_h_spot i_h_begin i_h_isForm i_h_letter i_h_faultReason i_h_faultCause f_h_s x0 ((29 + (3 * x1)) + x2) v1 h2) ⟨rfl, rfl⟩ ⟨Nat.le_of_ble_eq_true rfl, Nat.le_of_ble_eq_true rfl⟩ rfl rfl (Nat.le_of_ble_eq_true rfl) 0 rfl rfl [0, 1] [] rfl rfl ⟨rfl, rfl, by decide⟩ ⟨Nat.zero_le _, Nat.zero_le _⟩ [0, 1] rfl rfl ?_
  cases h3
  exact rt _ _ _ _ dX6_echo_13 ⟨rfl, rfl⟩
def rmX6_age : Room := { frames := 2, cells := 0, slots := 0, locals := 45 }
theorem pkX6_age : cK yX6_age wsX6_age cX6_age 3 (some .int) 2 RX6 := ⟨⟨_, rfl⟩, by decide +kernel⟩
theorem hiX6_age_X6 : ∀ w ∈ wsX60, w ∈ wsX6_age := by decide +kernel
theorem flX6_age_7 : Cond.fieldLink RX6 7 "EchoMarginsModel" "s" "[I" ∈ wsX6_age := by decide +kernel
set_option maxHeartbeats 4000000 in
set_option maxRecDepth 100000 in
theorem kkX6_age (l : Launch) (D : va_G) (cI cR : ClassId) (h h_s h_aside h_before h_past h_text h_lost h_tells : Nat) (i_h_known : Int32) (i_h_length : Int32) (i_h_losts : Int32) (i_h_bestOrder : Int32) (i_h_bestMany : Int32) (i_h_spot : Int32) (i_h_begin : Int32) (i_h_isForm : Int32) (i_h_letter : Int32) (i_h_faultReason : Int32) (i_h_faultCause : Int32) (f_h_s : Nat → Int32) (x0 : Int32) (x1 : Int32) (z : Int32) (hz : MX6_age f_h_s x0 x1 = some z) : cI1 l yX6_age wsX6_age rmX6_age D cI cR [.ref h, .int x0, .int x1] [(h, .inr (6, [.ref h_s, .ref h_aside, .ref h_before, .ref h_past, .int i_h_known, .ref h_text, .int i_h_length, .ref h_lost, .int i_h_losts, .int i_h_bestOrder, .int i_h_bestMany, .int i_h_spot, .int i_h_begin, .int i_h_isForm, .int i_h_letter, .ref h_tells, .int i_h_faultReason, .int i_h_faultCause])), (h_s, .inl (cI, 703, .inl f_h_s))] z [(h, .inr (6, [.ref h_s, .ref h_aside, .ref h_before, .ref h_past, .int i_h_known, .ref h_text, .int i_h_length, .ref h_lost, .int i_h_losts, .int i_h_bestOrder, .int i_h_bestMany, .int i_h_spot, .int i_h_begin, .int i_h_isForm, .int i_h_letter, .ref h_tells, .int i_h_faultReason, .int i_h_faultCause])), (h_s, .inl (cI, 703, .inl f_h_s))] := by
  unfold MX6_age at hz
  refine kI_of (cc := cX6_age) (maxL := 3) (own := RX6) (by decide +kernel) rfl rfl (Nat.le_of_ble_eq_true rfl) (lv0 := [(0, .ref h), (1, .int x0), (2, .int x1)]) rfl (fun p e s m args below meth c A Q X rt => ?_)
  refine G_aload_n X dX6_age_0 0 rfl ?_
  refine G_get X (i0 := 0) (ci := 6) (j := 0) (C := RX6) (ref := RX6) (T := TX6) (N := 18) dX6_age_1 rfl rfl hiX6_age_X6 (by decide) flX6_age_7 rfl rfl ?_
  refine G_iconst X (v := 1) dX6_age_4 (by decide) ?_
  obtain ⟨v1, h2, h3⟩ := bnd hz
  refine G_iald X (i0 := 1) dX6_age_5 rfl h2 ?_
  refine G_aload_n X dX6_age_6 0 rfl ?_
  refine G_iload_n X dX6_age_7 1 rfl ?_
  refine G_iload_n X dX6_age_8 2 rfl ?_
  refine G_iconst X (v := 2) dX6_age_9 (by decide) ?_
  obtain ⟨v4, h5, h6⟩ := bnd h3
  refine G1_calli X (As := [.int x0, .int x1, .int 2]) (rest := [.int v1]) (wr := []) (ws' := [(h, .inr (6, [.ref h_s, .ref h_aside, .ref h_before, .ref h_past, .int i_h_known, .ref h_text, .int i_h_length, .ref h_lost, .int i_h_losts, .int i_h_bestOrder, .int i_h_bestMany, .int i_h_spot, .int i_h_begin, .int i_h_isForm, .int i_h_letter, .ref h_tells, .int i_h_faultReason, .int i_h_faultCause])), (h_s, .inl (cI, 703, .inl f_h_s))]) dX6_age_10 pkX6_echo gX6_age_X6_echo (kkX6_echo l D cI cR h h_s h_aside h_before h_past h_text h_lost h_tells i_h_known i_h_length i_h_losts i_h_bestOrder i_h_bestMany i_h_spot i_h_begin i_h_isForm i_h_letter i_h_faultReason i_h_faultCause f_h_s x0 x1 2 v4 h5) ⟨rfl, rfl⟩ ⟨Nat.le_of_ble_eq_true rfl, Nat.le_of_ble_eq_true rfl⟩ rfl rfl (Nat.le_of_ble_eq_true rfl) 0 rfl rfl [0, 1] [] rfl rfl ⟨rfl, rfl, by decide⟩ ⟨Nat.zero_le _, Nat.zero_le _⟩ [0, 1] rfl rfl ?_
  refine G_isub X dX6_age_13 ?_
  cases h6
  exact rt _ _ _ _ dX6_age_14 ⟨rfl, rfl⟩
def rmX6_isFaded : Room := { frames := 3, cells := 0, slots := 0, locals := 67 }
theorem pkX6_isFaded : cK yX6_isFaded wsX6_isFaded cX6_isFaded 3 (some .boolean) 2 RX6 := ⟨⟨_, rfl⟩, by decide +kernel⟩
theorem hiX6_isFaded_X6 : ∀ w ∈ wsX60, w ∈ wsX6_isFaded := by decide +kernel
theorem flX6_isFaded_7 : Cond.fieldLink RX6 7 "EchoMarginsModel" "s" "[I" ∈ wsX6_isFaded := by decide +kernel
set_option maxHeartbeats 4000000 in
set_option maxRecDepth 100000 in
theorem kkX6_isFaded (l : Launch) (D : va_G) (cI cR : ClassId) (h h_s h_aside h_before h_past h_text h_lost h_tells : Nat) (i_h_known : Int32) (i_h_length : Int32) (i_h_losts : Int32) (i_h_bestOrder : Int32) (i_h_bestMany : Int32) (i_h_spot : Int32) (i_h_begin : Int32) (i_h_isForm : Int32) (i_h_letter : Int32) (i_h_faultReason : Int32) (i_h_faultCause : Int32) (f_h_s : Nat → Int32) (x0 : Int32) (x1 : Int32) (z : Int32) (hz : MX6_isFaded f_h_s x0 x1 = some z) : cI1 l yX6_isFaded wsX6_isFaded rmX6_isFaded D cI cR [.ref h, .int x0, .int x1] [(h, .inr (6, [.ref h_s, .ref h_aside, .ref h_before, .ref h_past, .int i_h_known, .ref h_text, .int i_h_length, .ref h_lost, .int i_h_losts, .int i_h_bestOrder, .int i_h_bestMany, .int i_h_spot, .int i_h_begin, .int i_h_isForm, .int i_h_letter, .ref h_tells, .int i_h_faultReason, .int i_h_faultCause])), (h_s, .inl (cI, 703, .inl f_h_s))] z [(h, .inr (6, [.ref h_s, .ref h_aside, .ref h_before, .ref h_past, .int i_h_known, .ref h_text, .int i_h_length, .ref h_lost, .int i_h_losts, .int i_h_bestOrder, .int i_h_bestMany, .int i_h_spot, .int i_h_begin, .int i_h_isForm, .int i_h_letter, .ref h_tells, .int i_h_faultReason, .int i_h_faultCause])), (h_s, .inl (cI, 703, .inl f_h_s))] := by
  unfold MX6_isFaded at hz
  refine kZ_of (cc := cX6_isFaded) (maxL := 3) (own := RX6) (by decide +kernel) rfl rfl (Nat.le_of_ble_eq_true rfl) (lv0 := [(0, .ref h), (1, .int x0), (2, .int x1)]) rfl (fun p e s m args below meth c A Q X rt => ?_)
  refine G_aload_n X dX6_isFaded_0 0 rfl ?_
  refine G_iload_n X dX6_isFaded_1 1 rfl ?_
  refine G_iload_n X dX6_isFaded_2 2 rfl ?_
  obtain ⟨v1, h2, h3⟩ := bnd hz
  refine G1_calli X (As := [.int x0, .int x1]) (rest := []) (wr := []) (ws' := [(h, .inr (6, [.ref h_s, .ref h_aside, .ref h_before, .ref h_past, .int i_h_known, .ref h_text, .int i_h_length, .ref h_lost, .int i_h_losts, .int i_h_bestOrder, .int i_h_bestMany, .int i_h_spot, .int i_h_begin, .int i_h_isForm, .int i_h_letter, .ref h_tells, .int i_h_faultReason, .int i_h_faultCause])), (h_s, .inl (cI, 703, .inl f_h_s))]) dX6_isFaded_3 pkX6_age gX6_isFaded_X6_age (kkX6_age l D cI cR h h_s h_aside h_before h_past h_text h_lost h_tells i_h_known i_h_length i_h_losts i_h_bestOrder i_h_bestMany i_h_spot i_h_begin i_h_isForm i_h_letter i_h_faultReason i_h_faultCause f_h_s x0 x1 v1 h2) ⟨rfl, rfl⟩ ⟨Nat.le_of_ble_eq_true rfl, Nat.le_of_ble_eq_true rfl⟩ rfl rfl (Nat.le_of_ble_eq_true rfl) 0 rfl rfl [0, 1] [] rfl rfl ⟨rfl, rfl, by decide⟩ ⟨Nat.zero_le _, Nat.zero_le _⟩ [0, 1] rfl rfl ?_
  refine G_aload_n X dX6_isFaded_6 0 rfl ?_
  refine G_get X (i0 := 0) (ci := 6) (j := 0) (C := RX6) (ref := RX6) (T := TX6) (N := 18) dX6_isFaded_7 rfl rfl hiX6_isFaded_X6 (by decide) flX6_isFaded_7 rfl rfl ?_
  refine G_iconst X (v := 3) dX6_isFaded_10 (by decide) ?_
  obtain ⟨v4, h5, h6⟩ := bnd h3
  refine G_iald X (i0 := 1) dX6_isFaded_11 rfl h5 ?_
  refine G_icmp_le X (tgt := 19) dX6_isFaded_12 (by decide) (fun h7 => ?_) (fun h7 => ?_)
  · have h8 := ifp h7 h6
    refine G_iconst X (v := 0) dX6_isFaded_19 (by decide) ?_
    cases h8
    exact rt _ _ _ _ dX6_isFaded_20 rfl ⟨rfl, rfl⟩
  · have h9 := ifn h7 h6
    refine G_iconst X (v := 1) dX6_isFaded_15 (by decide) ?_
    refine G_goto X (tgt := 20) dX6_isFaded_16 (by decide) ?_
    cases h9
    exact rt _ _ _ _ dX6_isFaded_20 rfl ⟨rfl, rfl⟩
def rmX6_drops : Room := { frames := 1, cells := 0, slots := 0, locals := 23 }
theorem pkX6_drops : cK yX6_drops wsX6_drops cX6_drops 6 none 2 RX6 := ⟨⟨_, rfl⟩, by decide +kernel⟩
theorem hiX6_drops_X6 : ∀ w ∈ wsX60, w ∈ wsX6_drops := by decide +kernel
theorem flX6_drops_7 : Cond.fieldLink RX6 7 "EchoMarginsModel" "s" "[I" ∈ wsX6_drops := by decide +kernel
set_option maxHeartbeats 4000000 in
set_option maxRecDepth 100000 in
theorem kkX6_drops (l : Launch) (D : va_G) (cI cR : ClassId) (h h_s h_aside h_before h_past h_text h_lost h_tells : Nat) (i_h_known : Int32) (i_h_length : Int32) (i_h_losts : Int32) (i_h_bestOrder : Int32) (i_h_bestMany : Int32) (i_h_spot : Int32) (i_h_begin : Int32) (i_h_isForm : Int32) (i_h_letter : Int32) (i_h_faultReason : Int32) (i_h_faultCause : Int32) (f_h_s : Nat → Int32) (x0 : Int32) (x1 : Int32) (z : (Nat → Int32)) (hz : MX6_drops f_h_s x0 x1 = some z) : cV1 l yX6_drops wsX6_drops rmX6_drops D cI cR [.ref h, .int x0, .int x1] [(h, .inr (6, [.ref h_s, .ref h_aside, .ref h_before, .ref h_past, .int i_h_known, .ref h_text, .int i_h_length, .ref h_lost, .int i_h_losts, .int i_h_bestOrder, .int i_h_bestMany, .int i_h_spot, .int i_h_begin, .int i_h_isForm, .int i_h_letter, .ref h_tells, .int i_h_faultReason, .int i_h_faultCause])), (h_s, .inl (cI, 703, .inl f_h_s))] [(h, .inr (6, [.ref h_s, .ref h_aside, .ref h_before, .ref h_past, .int i_h_known, .ref h_text, .int i_h_length, .ref h_lost, .int i_h_losts, .int i_h_bestOrder, .int i_h_bestMany, .int i_h_spot, .int i_h_begin, .int i_h_isForm, .int i_h_letter, .ref h_tells, .int i_h_faultReason, .int i_h_faultCause])), (h_s, .inl (cI, 703, .inl z))] := by
  unfold MX6_drops at hz
  refine kV_of (cc := cX6_drops) (maxL := 6) (own := RX6) (by decide +kernel) rfl rfl (Nat.le_of_ble_eq_true rfl) (lv0 := [(0, .ref h), (1, .int x0), (2, .int x1)]) rfl (fun p e s m args below meth c A Q X rt => ?_)
  refine G_bipush X (v := 10) dX6_drops_0 (by decide) ?_
  refine G_bipush X (v := 77) dX6_drops_2 (by decide) ?_
  refine G_iload_n X dX6_drops_4 1 rfl ?_
  refine G_imul X dX6_drops_5 ?_
  refine G_iadd X dX6_drops_6 ?_
  refine G_bipush X (v := 29) dX6_drops_7 (by decide) ?_
  refine G_iadd X dX6_drops_9 ?_
  refine G_istore_n X (lv' := [(3, .int ((10 + (77 * x0)) + 29)), (0, .ref h), (1, .int x0), (2, .int x1)]) dX6_drops_10 (by decide) rfl ?_
  refine G_iload_n X dX6_drops_11 0 rfl ?_
  refine G_iconst X (v := 3) dX6_drops_12 (by decide) ?_
  refine G_aload_n X dX6_drops_13 1 rfl ?_
  refine G_iload_n X dX6_drops_14 2 rfl ?_
  refine G_iconst X (v := 4) dX6_drops_15 (by decide) ?_
  obtain ⟨v1, h2, h3⟩ := bnd hz
  refine G1_calli X (As := [.int x0, .int 4]) (rest := [.int 3, .int ((10 + (77 * x0)) + 29)]) (wr := []) (ws' := [(h, .inr (6, [.ref h_s, .ref h_aside, .ref h_before, .ref h_past, .int i_h_known, .ref h_text, .int i_h_length, .ref h_lost, .int i_h_losts, .int i_h_bestOrder, .int i_h_bestMany, .int i_h_spot, .int i_h_begin, .int i_h_isForm, .int i_h_letter, .ref h_tells, .int i_h_faultReason, .int i_h_faultCause])), (h_s, .inl (cI, 703, .inl f_h_s))]) dX6_drops_16 pkX6_of gX6_drops_X6_of (kkX6_of l D cI cR h h_s h_aside h_before h_past h_text h_lost h_tells i_h_known i_h_length i_h_losts i_h_bestOrder i_h_bestMany i_h_spot i_h_begin i_h_isForm i_h_letter i_h_faultReason i_h_faultCause f_h_s x0 4 v1 h2) ⟨rfl, rfl⟩ ⟨Nat.le_of_ble_eq_true rfl, Nat.le_of_ble_eq_true rfl⟩ rfl rfl (Nat.le_of_ble_eq_true rfl) 0 rfl rfl [0, 1] [] rfl rfl ⟨rfl, rfl, by decide⟩ ⟨Nat.zero_le _, Nat.zero_le _⟩ [0, 1] rfl rfl ?_
  refine G_imul X dX6_drops_19 ?_
  refine G_iadd X dX6_drops_20 ?_
  refine G_istore X (lv' := [(4, .int (((10 + (77 * x0)) + 29) + (3 * v1))), (3, .int ((10 + (77 * x0)) + 29)), (0, .ref h), (1, .int x0), (2, .int x1)]) dX6_drops_21 (by decide) rfl ?_
  refine G_iload_n X dX6_drops_23 1 rfl ?_
  refine G_iconst X (v := 3) dX6_drops_24 (by decide) ?_
  refine G_iload_n X dX6_drops_25 4 rfl ?_
  refine G_imul X dX6_drops_26 ?_
  refine G_iadd X dX6_drops_27 ?_
  refine G_istore X (lv' := [(5, .int (((10 + (77 * x0)) + 29) + (3 * x1))), (4, .int (((10 + (77 * x0)) + 29) + (3 * v1))), (3, .int ((10 + (77 * x0)) + 29)), (0, .ref h), (1, .int x0), (2, .int x1)]) dX6_drops_28 (by decide) rfl ?_
  obtain ⟨j5, h6, h7⟩ := bnd h3
  have J12 : G p l e rmX6_drops s m args below meth c D A 6 Q 0 0 72 [(0, .ref h), (1, .int x0)] [] [(h, .inr (6, [.ref h_s, .ref h_aside, .ref h_before, .ref h_past, .int i_h_known, .ref h_text, .int i_h_length, .ref h_lost, .int i_h_losts, .int i_h_bestOrder, .int i_h_bestMany, .int i_h_spot, .int i_h_begin, .int i_h_isForm, .int i_h_letter, .ref h_tells, .int i_h_faultReason, .int i_h_faultCause])), (h_s, .inl (cI, 703, .inl j5))] := by
    refine G_aload_n X dX6_drops_72 0 rfl ?_
    refine G_iload_n X dX6_drops_73 1 rfl ?_
    refine G_iconst X (v := 4) dX6_drops_74 (by decide) ?_
    refine G_aload_n X dX6_drops_75 0 rfl ?_
    refine G_iload_n X dX6_drops_76 1 rfl ?_
    refine G_iconst X (v := 4) dX6_drops_77 (by decide) ?_
    obtain ⟨v14, h15, h16⟩ := bnd h7
    refine G1_calli X (As := [.int x0, .int 4]) (rest := [.int 4, .int x0, .ref h]) (wr := []) (ws' := [(h, .inr (6, [.ref h_s, .ref h_aside, .ref h_before, .ref h_past, .int i_h_known, .ref h_text, .int i_h_length, .ref h_lost, .int i_h_losts, .int i_h_bestOrder, .int i_h_bestMany, .int i_h_spot, .int i_h_begin, .int i_h_isForm, .int i_h_letter, .ref h_tells, .int i_h_faultReason, .int i_h_faultCause])), (h_s, .inl (cI, 703, .inl j5))]) dX6_drops_78 pkX6_of gX6_drops_X6_of (kkX6_of l D cI cR h h_s h_aside h_before h_past h_text h_lost h_tells i_h_known i_h_length i_h_losts i_h_bestOrder i_h_bestMany i_h_spot i_h_begin i_h_isForm i_h_letter i_h_faultReason i_h_faultCause j5 x0 4 v14 h15) ⟨rfl, rfl⟩ ⟨Nat.le_of_ble_eq_true rfl, Nat.le_of_ble_eq_true rfl⟩ rfl rfl (Nat.le_of_ble_eq_true rfl) 0 rfl rfl [0, 1] [] rfl rfl ⟨rfl, rfl, by decide⟩ ⟨Nat.zero_le _, Nat.zero_le _⟩ [0, 1] rfl rfl ?_
    refine G_iconst X (v := 1) dX6_drops_81 (by decide) ?_
    refine G_isub X dX6_drops_82 ?_
    obtain ⟨v17, h18, h19⟩ := bnd h16
    refine G1_callv X (As := [.int x0, .int 4, .int (v14 - 1)]) (rest := []) (wr := []) (ws' := [(h, .inr (6, [.ref h_s, .ref h_aside, .ref h_before, .ref h_past, .int i_h_known, .ref h_text, .int i_h_length, .ref h_lost, .int i_h_losts, .int i_h_bestOrder, .int i_h_bestMany, .int i_h_spot, .int i_h_begin, .int i_h_isForm, .int i_h_letter, .ref h_tells, .int i_h_faultReason, .int i_h_faultCause])), (h_s, .inl (cI, 703, .inl v17))]) dX6_drops_83 pkX6_lays gX6_drops_X6_lays (kkX6_lays l D cI cR h h_s h_aside h_before h_past h_text h_lost h_tells i_h_known i_h_length i_h_losts i_h_bestOrder i_h_bestMany i_h_spot i_h_begin i_h_isForm i_h_letter i_h_faultReason i_h_faultCause j5 x0 4 (v14 - 1) v17 h18) ⟨rfl, rfl⟩ ⟨Nat.le_of_ble_eq_true rfl, Nat.le_of_ble_eq_true rfl⟩ rfl rfl (Nat.le_of_ble_eq_true rfl) 0 rfl rfl [0, 1] [] rfl rfl ⟨rfl, rfl, by decide⟩ ⟨Nat.zero_le _, Nat.zero_le _⟩ [0, 1] rfl rfl ?_
    cases h19
    exact rt _ _ _ dX6_drops_86 rfl
  refine G_lv [3, 4, 1, 0] rfl ?_
  refine itr_ind (P := fun s4 : (Int32 × (Nat → Int32)) => G p l e rmX6_drops s m args below meth c D A 6 Q 0 0 30 [(0, .ref h), (1, .int x0), (4, .int (((10 + (77 * x0)) + 29) + (3 * v1))), (5, .int s4.1)] [] [(h, .inr (6, [.ref h_s, .ref h_aside, .ref h_before, .ref h_past, .int i_h_known, .ref h_text, .int i_h_length, .ref h_lost, .int i_h_losts, .int i_h_bestOrder, .int i_h_bestMany, .int i_h_spot, .int i_h_begin, .int i_h_isForm, .int i_h_letter, .ref h_tells, .int i_h_faultReason, .int i_h_faultCause])), (h_s, .inl (cI, 703, .inl s4.2))]) (fun s4 o11 h8 h9 h10 => ?_) FU _ h6
  unfold SX6_drops_30 at h8
  refine G_iload X dX6_drops_30 3 rfl ?_
  refine G_iload X dX6_drops_32 2 rfl ?_
  refine G_icmp_ge X (tgt := 72) dX6_drops_34 (by decide) (fun h20 => ?_) (fun h20 => ?_)
  · have h21 := ifp h20 h8
    cases h21
    have h22 := h10 _ rfl
    subst h22
    exact G_lv [0, 1] rfl (J12)
  · have h23 := ifn h20 h8
    refine G_aload_n X dX6_drops_37 0 rfl ?_
    refine G_get X (i0 := 0) (ci := 6) (j := 0) (C := RX6) (ref := RX6) (T := TX6) (N := 18) dX6_drops_38 rfl rfl hiX6_drops_X6 (by decide) flX6_drops_7 rfl rfl ?_
    refine G_iload X dX6_drops_41 3 rfl ?_
    refine G_iload X dX6_drops_43 3 rfl ?_
    refine G_iconst X (v := 3) dX6_drops_45 (by decide) ?_
    refine G_iadd X dX6_drops_46 ?_
    refine G_iload X dX6_drops_47 2 rfl ?_
    refine G_icmp_ge X (tgt := 64) dX6_drops_49 (by decide) (fun h24 => ?_) (fun h24 => ?_)
    · have h25 := ifp h24 h23
      refine G_iconst X (v := 0) dX6_drops_64 (by decide) ?_
      obtain ⟨g26, h27, h28⟩ := bnd h25
      refine G_iast X (i0 := 1) (ws' := [(h, .inr (6, [.ref h_s, .ref h_aside, .ref h_before, .ref h_past, .int i_h_known, .ref h_text, .int i_h_length, .ref h_lost, .int i_h_losts, .int i_h_bestOrder, .int i_h_bestMany, .int i_h_spot, .int i_h_begin, .int i_h_isForm, .int i_h_letter, .ref h_tells, .int i_h_faultReason, .int i_h_faultCause])), (h_s, .inl (cI, 703, .inl g26))]) dX6_drops_65 rfl h27 rfl ?_
      refine G_iinc X (v := (s4.1 + 1)) (lv' := [(5, .int (s4.1 + 1)), (0, .ref h), (1, .int x0), (4, .int (((10 + (77 * x0)) + 29) + (3 * v1)))]) dX6_drops_66 3 rfl rfl (by decide) rfl ?_
      refine G_goto X (tgt := 30) dX6_drops_69 (by decide) ?_
      cases h28
      exact G_lv [1, 2, 3, 0] rfl (h9 _ rfl)
    · have h29 := ifn h24 h23
      refine G_aload_n X dX6_drops_52 0 rfl ?_
      refine G_get X (i0 := 0) (ci := 6) (j := 0) (C := RX6) (ref := RX6) (T := TX6) (N := 18) dX6_drops_53 rfl rfl hiX6_drops_X6 (by decide) flX6_drops_7 rfl rfl ?_
      refine G_iload X dX6_drops_56 3 rfl ?_
      refine G_iconst X (v := 3) dX6_drops_58 (by decide) ?_
      refine G_iadd X dX6_drops_59 ?_
      obtain ⟨v30, h31, h32⟩ := bnd h29
      refine G_iald X (i0 := 1) dX6_drops_60 rfl h31 ?_
      refine G_goto X (tgt := 65) dX6_drops_61 (by decide) ?_
      obtain ⟨g33, h34, h35⟩ := bnd h32
      refine G_iast X (i0 := 1) (ws' := [(h, .inr (6, [.ref h_s, .ref h_aside, .ref h_before, .ref h_past, .int i_h_known, .ref h_text, .int i_h_length, .ref h_lost, .int i_h_losts, .int i_h_bestOrder, .int i_h_bestMany, .int i_h_spot, .int i_h_begin, .int i_h_isForm, .int i_h_letter, .ref h_tells, .int i_h_faultReason, .int i_h_faultCause])), (h_s, .inl (cI, 703, .inl g33))]) dX6_drops_65 rfl h34 rfl ?_
      refine G_iinc X (v := (s4.1 + 1)) (lv' := [(5, .int (s4.1 + 1)), (0, .ref h), (1, .int x0), (4, .int (((10 + (77 * x0)) + 29) + (3 * v1)))]) dX6_drops_66 3 rfl rfl (by decide) rfl ?_
      refine G_goto X (tgt := 30) dX6_drops_69 (by decide) ?_
      cases h35
      exact G_lv [1, 2, 3, 0] rfl (h9 _ rfl)
def rmX6_rankOf : Room := { frames := 2, cells := 0, slots := 0, locals := 45 }
theorem pkX6_rankOf : cK yX6_rankOf wsX6_rankOf cX6_rankOf 6 (some .int) 3 RX6 := ⟨⟨_, rfl⟩, by decide +kernel⟩
theorem flX6_rankOf_51 : Cond.constant RX6 51 (-1000004) ∈ wsX6_rankOf := by decide +kernel
set_option maxHeartbeats 4000000 in
set_option maxRecDepth 100000 in
theorem kkX6_rankOf (l : Launch) (D : va_G) (cI cR : ClassId) (h h_s h_aside h_before h_past h_text h_lost h_tells : Nat) (i_h_known : Int32) (i_h_length : Int32) (i_h_losts : Int32) (i_h_bestOrder : Int32) (i_h_bestMany : Int32) (i_h_spot : Int32) (i_h_begin : Int32) (i_h_isForm : Int32) (i_h_letter : Int32) (i_h_faultReason : Int32) (i_h_faultCause : Int32) (f_h_s : Nat → Int32) (x0 : Int32) (x1 : Int32) (x2 : Int32) (z : Int32) (hz : MX6_rankOf f_h_s x0 x1 x2 = some z) : cI1 l yX6_rankOf wsX6_rankOf rmX6_rankOf D cI cR [.ref h, .int x0, .int x1, .int x2] [(h, .inr (6, [.ref h_s, .ref h_aside, .ref h_before, .ref h_past, .int i_h_known, .ref h_text, .int i_h_length, .ref h_lost, .int i_h_losts, .int i_h_bestOrder, .int i_h_bestMany, .int i_h_spot, .int i_h_begin, .int i_h_isForm, .int i_h_letter, .ref h_tells, .int i_h_faultReason, .int i_h_faultCause])), (h_s, .inl (cI, 703, .inl f_h_s))] z [(h, .inr (6, [.ref h_s, .ref h_aside, .ref h_before, .ref h_past, .int i_h_known, .ref h_text, .int i_h_length, .ref h_lost, .int i_h_losts, .int i_h_bestOrder, .int i_h_bestMany, .int i_h_spot, .int i_h_begin, .int i_h_isForm, .int i_h_letter, .ref h_tells, .int i_h_faultReason, .int i_h_faultCause])), (h_s, .inl (cI, 703, .inl f_h_s))] := by
  unfold MX6_rankOf at hz
  refine kI_of (cc := cX6_rankOf) (maxL := 6) (own := RX6) (by decide +kernel) rfl rfl (Nat.le_of_ble_eq_true rfl) (lv0 := [(0, .ref h), (1, .int x0), (2, .int x1), (3, .int x2)]) rfl (fun p e s m args below meth c A Q X rt => ?_)
  refine G_ldc X dX6_rankOf_0 flX6_rankOf_51 ?_
  refine G_istore X (lv' := [(4, .int (-1000004)), (0, .ref h), (1, .int x0), (2, .int x1), (3, .int x2)]) dX6_rankOf_2 (by decide) rfl ?_
  refine G_iconst X (v := 0) dX6_rankOf_4 (by decide) ?_
  refine G_istore X (lv' := [(5, .int 0), (4, .int (-1000004)), (0, .ref h), (1, .int x0), (2, .int x1), (3, .int x2)]) dX6_rankOf_5 (by decide) rfl ?_
  obtain ⟨j2, h3, h4⟩ := bnd hz
  have J9 : G p l e rmX6_rankOf s m args below meth c D A 6 Q 0 0 50 [(4, .int j2)] [] [(h, .inr (6, [.ref h_s, .ref h_aside, .ref h_before, .ref h_past, .int i_h_known, .ref h_text, .int i_h_length, .ref h_lost, .int i_h_losts, .int i_h_bestOrder, .int i_h_bestMany, .int i_h_spot, .int i_h_begin, .int i_h_isForm, .int i_h_letter, .ref h_tells, .int i_h_faultReason, .int i_h_faultCause])), (h_s, .inl (cI, 703, .inl f_h_s))] := by
    refine G_iload X dX6_rankOf_50 0 rfl ?_
    cases h4
    exact rt _ _ _ _ dX6_rankOf_52 ⟨rfl, rfl⟩
  refine G_lv [2, 3, 4, 5, 1, 0] rfl ?_
  refine itr_ind (P := fun s1 : (Int32 × Int32) => G p l e rmX6_rankOf s m args below meth c D A 6 Q 0 0 7 [(0, .ref h), (1, .int x0), (2, .int x1), (3, .int x2), (4, .int s1.1), (5, .int s1.2)] [] [(h, .inr (6, [.ref h_s, .ref h_aside, .ref h_before, .ref h_past, .int i_h_known, .ref h_text, .int i_h_length, .ref h_lost, .int i_h_losts, .int i_h_bestOrder, .int i_h_bestMany, .int i_h_spot, .int i_h_begin, .int i_h_isForm, .int i_h_letter, .ref h_tells, .int i_h_faultReason, .int i_h_faultCause])), (h_s, .inl (cI, 703, .inl f_h_s))]) (fun s1 o8 h5 h6 h7 => ?_) FU _ h3
  unfold SX6_rankOf_7 at h5
  refine G_iload X dX6_rankOf_7 5 rfl ?_
  refine G_aload_n X dX6_rankOf_9 0 rfl ?_
  refine G_iload_n X dX6_rankOf_10 1 rfl ?_
  refine G_iconst X (v := 4) dX6_rankOf_11 (by decide) ?_
  obtain ⟨v11, h12, h13⟩ := bnd h5
  refine G1_calli X (As := [.int x0, .int 4]) (rest := [.int s1.2]) (wr := []) (ws' := [(h, .inr (6, [.ref h_s, .ref h_aside, .ref h_before, .ref h_past, .int i_h_known, .ref h_text, .int i_h_length, .ref h_lost, .int i_h_losts, .int i_h_bestOrder, .int i_h_bestMany, .int i_h_spot, .int i_h_begin, .int i_h_isForm, .int i_h_letter, .ref h_tells, .int i_h_faultReason, .int i_h_faultCause])), (h_s, .inl (cI, 703, .inl f_h_s))]) dX6_rankOf_12 pkX6_of gX6_rankOf_X6_of (kkX6_of l D cI cR h h_s h_aside h_before h_past h_text h_lost h_tells i_h_known i_h_length i_h_losts i_h_bestOrder i_h_bestMany i_h_spot i_h_begin i_h_isForm i_h_letter i_h_faultReason i_h_faultCause f_h_s x0 4 v11 h12) ⟨rfl, rfl⟩ ⟨Nat.le_of_ble_eq_true rfl, Nat.le_of_ble_eq_true rfl⟩ rfl rfl (Nat.le_of_ble_eq_true rfl) 0 rfl rfl [0, 1] [] rfl rfl ⟨rfl, rfl, by decide⟩ ⟨Nat.zero_le _, Nat.zero_le _⟩ [0, 1] rfl rfl ?_
  refine G_icmp_ge X (tgt := 50) dX6_rankOf_15 (by decide) (fun h14 => ?_) (fun h14 => ?_)
  · have h15 := ifp h14 h13
    cases h15
    have h16 := h7 _ rfl
    subst h16
    exact G_lv [4] rfl (J9)
  · have h17 := ifn h14 h13
    refine G_aload_n X dX6_rankOf_18 0 rfl ?_
    refine G_iload_n X dX6_rankOf_19 1 rfl ?_
    refine G_iload X dX6_rankOf_20 5 rfl ?_
    refine G_iconst X (v := 0) dX6_rankOf_22 (by decide) ?_
    obtain ⟨v18, h19, h20⟩ := bnd h17
    refine G1_calli X (As := [.int x0, .int s1.2, .int 0]) (rest := []) (wr := []) (ws' := [(h, .inr (6, [.ref h_s, .ref h_aside, .ref h_before, .ref h_past, .int i_h_known, .ref h_text, .int i_h_length, .ref h_lost, .int i_h_losts, .int i_h_bestOrder, .int i_h_bestMany, .int i_h_spot, .int i_h_begin, .int i_h_isForm, .int i_h_letter, .ref h_tells, .int i_h_faultReason, .int i_h_faultCause])), (h_s, .inl (cI, 703, .inl f_h_s))]) dX6_rankOf_23 pkX6_echo gX6_rankOf_X6_echo (kkX6_echo l D cI cR h h_s h_aside h_before h_past h_text h_lost h_tells i_h_known i_h_length i_h_losts i_h_bestOrder i_h_bestMany i_h_spot i_h_begin i_h_isForm i_h_letter i_h_faultReason i_h_faultCause f_h_s x0 s1.2 0 v18 h19) ⟨rfl, rfl⟩ ⟨Nat.le_of_ble_eq_true rfl, Nat.le_of_ble_eq_true rfl⟩ rfl rfl (Nat.le_of_ble_eq_true rfl) 0 rfl rfl [0, 1] [] rfl rfl ⟨rfl, rfl, by decide⟩ ⟨Nat.zero_le _, Nat.zero_le _⟩ [0, 1] rfl rfl ?_
    refine G_bipush X (v := 8) dX6_rankOf_26 (by decide) ?_
    refine G_iload_n X dX6_rankOf_28 2 rfl ?_
    refine G_imul X dX6_rankOf_29 ?_
    refine G_iload_n X dX6_rankOf_30 3 rfl ?_
    refine G_iadd X dX6_rankOf_31 ?_
    refine G_icmp_ne X (tgt := 40) dX6_rankOf_32 (by decide) (fun h21 => ?_) (fun h21 => ?_)
    · have h22 := ifp h21 h20
      refine G_iload X dX6_rankOf_35 5 rfl ?_
      refine G_goto X (tgt := 42) dX6_rankOf_37 (by decide) ?_
      refine G_istore X (lv' := [(4, .int s1.2), (0, .ref h), (1, .int x0), (2, .int x1), (3, .int x2), (5, .int s1.2)]) dX6_rankOf_42 (by decide) rfl ?_
      refine G_iinc X (v := (s1.2 + 1)) (lv' := [(5, .int (s1.2 + 1)), (4, .int s1.2), (0, .ref h), (1, .int x0), (2, .int x1), (3, .int x2)]) dX6_rankOf_44 5 rfl rfl (by decide) rfl ?_
      refine G_goto X (tgt := 7) dX6_rankOf_47 (by decide) ?_
      cases h22
      exact G_lv [2, 3, 4, 5, 1, 0] rfl (h6 _ rfl)
    · have h23 := ifn h21 h20
      refine G_iload X dX6_rankOf_40 4 rfl ?_
      refine G_istore X (lv' := [(4, .int s1.1), (0, .ref h), (1, .int x0), (2, .int x1), (3, .int x2), (5, .int s1.2)]) dX6_rankOf_42 (by decide) rfl ?_
      refine G_iinc X (v := (s1.2 + 1)) (lv' := [(5, .int (s1.2 + 1)), (4, .int s1.1), (0, .ref h), (1, .int x0), (2, .int x1), (3, .int x2)]) dX6_rankOf_44 5 rfl rfl (by decide) rfl ?_
      refine G_goto X (tgt := 7) dX6_rankOf_47 (by decide) ?_
      cases h23
      exact G_lv [2, 3, 4, 5, 1, 0] rfl (h6 _ rfl)
def rmX6_laysEcho : Room := { frames := 4, cells := 0, slots := 0, locals := 88 }
theorem pkX6_laysEcho : cK yX6_laysEcho wsX6_laysEcho cX6_laysEcho 6 (some .int) 2 RX6 := ⟨⟨_, rfl⟩, by decide +kernel⟩
theorem hiX6_laysEcho_X6 : ∀ w ∈ wsX60, w ∈ wsX6_laysEcho := by decide +kernel
theorem flX6_laysEcho_7 : Cond.fieldLink RX6 7 "EchoMarginsModel" "s" "[I" ∈ wsX6_laysEcho := by decide +kernel
set_option maxHeartbeats 4000000 in
set_option maxRecDepth 100000 in
theorem kkX6_laysEcho (l : Launch) (D : va_G) (cI cR : ClassId) (h h_s h_aside h_before h_past h_text h_lost h_tells : Nat) (i_h_known : Int32) (i_h_length : Int32) (i_h_losts : Int32) (i_h_bestOrder : Int32) (i_h_bestMany : Int32) (i_h_spot : Int32) (i_h_begin : Int32) (i_h_isForm : Int32) (i_h_letter : Int32) (i_h_faultReason : Int32) (i_h_faultCause : Int32) (f_h_s : Nat → Int32) (x0 : Int32) (x1 : Int32) (z : (Int32 × (Nat → Int32))) (hz : MX6_laysEcho f_h_s x0 x1 = some z) : cI1 l yX6_laysEcho wsX6_laysEcho rmX6_laysEcho D cI cR [.ref h, .int x0, .int x1] [(h, .inr (6, [.ref h_s, .ref h_aside, .ref h_before, .ref h_past, .int i_h_known, .ref h_text, .int i_h_length, .ref h_lost, .int i_h_losts, .int i_h_bestOrder, .int i_h_bestMany, .int i_h_spot, .int i_h_begin, .int i_h_isForm, .int i_h_letter, .ref h_tells, .int i_h_faultReason, .int i_h_faultCause])), (h_s, .inl (cI, 703, .inl f_h_s))] z.1 [(h, .inr (6, [.ref h_s, .ref h_aside, .ref h_before, .ref h_past, .int i_h_known, .ref h_text, .int i_h_length, .ref h_lost, .int i_h_losts, .int i_h_bestOrder, .int i_h_bestMany, .int i_h_spot, .int i_h_begin, .int i_h_isForm, .int i_h_letter, .ref h_tells, .int i_h_faultReason, .int i_h_faultCause])), (h_s, .inl (cI, 703, .inl z.2))] := by
  unfold MX6_laysEcho at hz
  refine kI_of (cc := cX6_laysEcho) (maxL := 6) (own := RX6) (by decide +kernel) rfl rfl (Nat.le_of_ble_eq_true rfl) (lv0 := [(0, .ref h), (1, .int x0), (2, .int x1)]) rfl (fun p e s m args below meth c A Q X rt => ?_)
  refine G_aload_n X dX6_laysEcho_0 0 rfl ?_
  refine G_iload_n X dX6_laysEcho_1 1 rfl ?_
  refine G_iload_n X dX6_laysEcho_2 2 rfl ?_
  obtain ⟨v1, h2, h3⟩ := bnd hz
  refine G1_calli X (As := [.int x0, .int x1]) (rest := []) (wr := []) (ws' := [(h, .inr (6, [.ref h_s, .ref h_aside, .ref h_before, .ref h_past, .int i_h_known, .ref h_text, .int i_h_length, .ref h_lost, .int i_h_losts, .int i_h_bestOrder, .int i_h_bestMany, .int i_h_spot, .int i_h_begin, .int i_h_isForm, .int i_h_letter, .ref h_tells, .int i_h_faultReason, .int i_h_faultCause])), (h_s, .inl (cI, 703, .inl f_h_s))]) dX6_laysEcho_3 pkX6_bearer gX6_laysEcho_X6_bearer (kkX6_bearer l D cI cR h h_s h_aside h_before h_past h_text h_lost h_tells i_h_known i_h_length i_h_losts i_h_bestOrder i_h_bestMany i_h_spot i_h_begin i_h_isForm i_h_letter i_h_faultReason i_h_faultCause f_h_s x0 x1 v1 h2) ⟨rfl, rfl⟩ ⟨Nat.le_of_ble_eq_true rfl, Nat.le_of_ble_eq_true rfl⟩ rfl rfl (Nat.le_of_ble_eq_true rfl) 0 rfl rfl [0, 1] [] rfl rfl ⟨rfl, rfl, by decide⟩ ⟨Nat.zero_le _, Nat.zero_le _⟩ [0, 1] rfl rfl ?_
  refine G_istore_n X (lv' := [(3, .int v1), (0, .ref h), (1, .int x0), (2, .int x1)]) dX6_laysEcho_6 (by decide) rfl ?_
  refine G_aload_n X dX6_laysEcho_7 1 rfl ?_
  refine G_iload_n X dX6_laysEcho_8 2 rfl ?_
  refine G_iconst X (v := 5) dX6_laysEcho_9 (by decide) ?_
  refine G_iload_n X dX6_laysEcho_10 3 rfl ?_
  refine G_iadd X dX6_laysEcho_11 ?_
  obtain ⟨v4, h5, h6⟩ := bnd h3
  refine G1_calli X (As := [.int x0, .int (5 + x1)]) (rest := []) (wr := []) (ws' := [(h, .inr (6, [.ref h_s, .ref h_aside, .ref h_before, .ref h_past, .int i_h_known, .ref h_text, .int i_h_length, .ref h_lost, .int i_h_losts, .int i_h_bestOrder, .int i_h_bestMany, .int i_h_spot, .int i_h_begin, .int i_h_isForm, .int i_h_letter, .ref h_tells, .int i_h_faultReason, .int i_h_faultCause])), (h_s, .inl (cI, 703, .inl f_h_s))]) dX6_laysEcho_12 pkX6_of gX6_laysEcho_X6_of (kkX6_of l D cI cR h h_s h_aside h_before h_past h_text h_lost h_tells i_h_known i_h_length i_h_losts i_h_bestOrder i_h_bestMany i_h_spot i_h_begin i_h_isForm i_h_letter i_h_faultReason i_h_faultCause f_h_s x0 (5 + x1) v4 h5) ⟨rfl, rfl⟩ ⟨Nat.le_of_ble_eq_true rfl, Nat.le_of_ble_eq_true rfl⟩ rfl rfl (Nat.le_of_ble_eq_true rfl) 0 rfl rfl [0, 1] [] rfl rfl ⟨rfl, rfl, by decide⟩ ⟨Nat.zero_le _, Nat.zero_le _⟩ [0, 1] rfl rfl ?_
  refine G_if_eq X (tgt := 26) dX6_laysEcho_15 (by decide) (fun h7 => ?_) (fun h7 => ?_)
  · have h8 := ifp h7 h6
    refine G_iconst X (v := 0) dX6_laysEcho_26 (by decide) ?_
    cases h8
    exact rt _ _ _ _ dX6_laysEcho_27 ⟨rfl, rfl⟩
  · have h9 := ifn h7 h6
    refine G_aload_n X dX6_laysEcho_18 1 rfl ?_
    refine G_iload_n X dX6_laysEcho_19 0 rfl ?_
    obtain ⟨v10, h11, h12⟩ := bnd h9
    refine G1_calli X (As := [.int v1]) (rest := []) (wr := []) (ws' := [(h, .inr (6, [.ref h_s, .ref h_aside, .ref h_before, .ref h_past, .int i_h_known, .ref h_text, .int i_h_length, .ref h_lost, .int i_h_losts, .int i_h_bestOrder, .int i_h_bestMany, .int i_h_spot, .int i_h_begin, .int i_h_isForm, .int i_h_letter, .ref h_tells, .int i_h_faultReason, .int i_h_faultCause])), (h_s, .inl (cI, 703, .inl f_h_s))]) dX6_laysEcho_20 pkX6_lives gX6_laysEcho_X6_lives (kkX6_lives l D cI cR h h_s h_aside h_before h_past h_text h_lost h_tells i_h_known i_h_length i_h_losts i_h_bestOrder i_h_bestMany i_h_spot i_h_begin i_h_isForm i_h_letter i_h_faultReason i_h_faultCause f_h_s v1 v10 h11) ⟨rfl, rfl⟩ ⟨Nat.le_of_ble_eq_true rfl, Nat.le_of_ble_eq_true rfl⟩ rfl rfl (Nat.le_of_ble_eq_true rfl) 0 rfl rfl [0, 1] [] rfl rfl ⟨rfl, rfl, by decide⟩ ⟨Nat.zero_le _, Nat.zero_le _⟩ [0, 1] rfl rfl ?_
    refine G_if_ne X (tgt := 28) dX6_laysEcho_23 (by decide) (fun h13 => ?_) (fun h13 => ?_)
    · have h14 := ifp h13 h12
      refine G_iconst X (v := 0) dX6_laysEcho_26 (by decide) ?_
      cases h14
      exact rt _ _ _ _ dX6_laysEcho_27 ⟨rfl, rfl⟩
    · have h15 := ifn h13 h12
      refine G_aload_n X dX6_laysEcho_28 1 rfl ?_
      refine G_iload_n X dX6_laysEcho_29 0 rfl ?_
      refine G_iload_n X dX6_laysEcho_30 2 rfl ?_
      refine G_iload_n X dX6_laysEcho_31 3 rfl ?_
      obtain ⟨v16, h17, h18⟩ := bnd h15
      refine G1_calli X (As := [.int v1, .int x0, .int x1]) (rest := []) (wr := []) (ws' := [(h, .inr (6, [.ref h_s, .ref h_aside, .ref h_before, .ref h_past, .int i_h_known, .ref h_text, .int i_h_length, .ref h_lost, .int i_h_losts, .int i_h_bestOrder, .int i_h_bestMany, .int i_h_spot, .int i_h_begin, .int i_h_isForm, .int i_h_letter, .ref h_tells, .int i_h_faultReason, .int i_h_faultCause])), (h_s, .inl (cI, 703, .inl f_h_s))]) dX6_laysEcho_32 pkX6_rankOf gX6_laysEcho_X6_rankOf (kkX6_rankOf l D cI cR h h_s h_aside h_before h_past h_text h_lost h_tells i_h_known i_h_length i_h_losts i_h_bestOrder i_h_bestMany i_h_spot i_h_begin i_h_isForm i_h_letter i_h_faultReason i_h_faultCause f_h_s v1 x0 x1 v16 h17) ⟨rfl, rfl⟩ ⟨Nat.le_of_ble_eq_true rfl, Nat.le_of_ble_eq_true rfl⟩ rfl rfl (Nat.le_of_ble_eq_true rfl) 0 rfl rfl [0, 1] [] rfl rfl ⟨rfl, rfl, by decide⟩ ⟨Nat.zero_le _, Nat.zero_le _⟩ [0, 1] rfl rfl ?_
      refine G_istore X (lv' := [(4, .int v16), (3, .int v1), (0, .ref h), (1, .int x0), (2, .int x1)]) dX6_laysEcho_35 (by decide) rfl ?_
      refine G_iload X dX6_laysEcho_37 0 rfl ?_
      obtain ⟨j19, h20, h21⟩ := bnd h18
      have J22 : G p l e rmX6_laysEcho s m args below meth c D A 6 Q 0 0 49 [(0, .ref h), (1, .int x0), (2, .int x1), (3, .int v1)] [] [(h, .inr (6, [.ref h_s, .ref h_aside, .ref h_before, .ref h_past, .int i_h_known, .ref h_text, .int i_h_length, .ref h_lost, .int i_h_losts, .int i_h_bestOrder, .int i_h_bestMany, .int i_h_spot, .int i_h_begin, .int i_h_isForm, .int i_h_letter, .ref h_tells, .int i_h_faultReason, .int i_h_faultCause])), (h_s, .inl (cI, 703, .inl j19))] := by
        obtain ⟨j24, h25, h26⟩ := bnd h21
        have J31 : G p l e rmX6_laysEcho s m args below meth c D A 6 Q 0 0 79 [(0, .ref h), (1, .int x0), (2, .int x1), (3, .int v1)] [] [(h, .inr (6, [.ref h_s, .ref h_aside, .ref h_before, .ref h_past, .int i_h_known, .ref h_text, .int i_h_length, .ref h_lost, .int i_h_losts, .int i_h_bestOrder, .int i_h_bestMany, .int i_h_spot, .int i_h_begin, .int i_h_isForm, .int i_h_letter, .ref h_tells, .int i_h_faultReason, .int i_h_faultCause])), (h_s, .inl (cI, 703, .inl j24))] := by
          refine G_bipush X (v := 29) dX6_laysEcho_79 (by decide) ?_
          refine G_iconst X (v := 3) dX6_laysEcho_81 (by decide) ?_
          refine G_aload_n X dX6_laysEcho_82 0 rfl ?_
          refine G_iload_n X dX6_laysEcho_83 3 rfl ?_
          refine G_iconst X (v := 4) dX6_laysEcho_84 (by decide) ?_
          obtain ⟨v33, h34, h35⟩ := bnd h26
          refine G1_calli X (As := [.int v1, .int 4]) (rest := [.int 3, .int 29]) (wr := []) (ws' := [(h, .inr (6, [.ref h_s, .ref h_aside, .ref h_before, .ref h_past, .int i_h_known, .ref h_text, .int i_h_length, .ref h_lost, .int i_h_losts, .int i_h_bestOrder, .int i_h_bestMany, .int i_h_spot, .int i_h_begin, .int i_h_isForm, .int i_h_letter, .ref h_tells, .int i_h_faultReason, .int i_h_faultCause])), (h_s, .inl (cI, 703, .inl j24))]) dX6_laysEcho_85 pkX6_of gX6_laysEcho_X6_of (kkX6_of l D cI cR h h_s h_aside h_before h_past h_text h_lost h_tells i_h_known i_h_length i_h_losts i_h_bestOrder i_h_bestMany i_h_spot i_h_begin i_h_isForm i_h_letter i_h_faultReason i_h_faultCause j24 v1 4 v33 h34) ⟨rfl, rfl⟩ ⟨Nat.le_of_ble_eq_true rfl, Nat.le_of_ble_eq_true rfl⟩ rfl rfl (Nat.le_of_ble_eq_true rfl) 0 rfl rfl [0, 1] [] rfl rfl ⟨rfl, rfl, by decide⟩ ⟨Nat.zero_le _, Nat.zero_le _⟩ [0, 1] rfl rfl ?_
          refine G_imul X dX6_laysEcho_88 ?_
          refine G_iadd X dX6_laysEcho_89 ?_
          refine G_istore X (lv' := [(5, .int (29 + (3 * v33))), (0, .ref h), (1, .int x0), (2, .int x1), (3, .int v1)]) dX6_laysEcho_90 (by decide) rfl ?_
          refine G_aload_n X dX6_laysEcho_92 1 rfl ?_
          refine G_iload_n X dX6_laysEcho_93 4 rfl ?_
          refine G_iload X dX6_laysEcho_94 0 rfl ?_
          refine G_bipush X (v := 8) dX6_laysEcho_96 (by decide) ?_
          refine G_iload_n X dX6_laysEcho_98 2 rfl ?_
          refine G_imul X dX6_laysEcho_99 ?_
          refine G_iload_n X dX6_laysEcho_100 3 rfl ?_
          refine G_iadd X dX6_laysEcho_101 ?_
          obtain ⟨v36, h37, h38⟩ := bnd h35
          refine G1_callv X (As := [.int v1, .int (29 + (3 * v33)), .int ((8 * x0) + x1)]) (rest := []) (wr := []) (ws' := [(h, .inr (6, [.ref h_s, .ref h_aside, .ref h_before, .ref h_past, .int i_h_known, .ref h_text, .int i_h_length, .ref h_lost, .int i_h_losts, .int i_h_bestOrder, .int i_h_bestMany, .int i_h_spot, .int i_h_begin, .int i_h_isForm, .int i_h_letter, .ref h_tells, .int i_h_faultReason, .int i_h_faultCause])), (h_s, .inl (cI, 703, .inl v36))]) dX6_laysEcho_102 pkX6_lays gX6_laysEcho_X6_lays (kkX6_lays l D cI cR h h_s h_aside h_before h_past h_text h_lost h_tells i_h_known i_h_length i_h_losts i_h_bestOrder i_h_bestMany i_h_spot i_h_begin i_h_isForm i_h_letter i_h_faultReason i_h_faultCause j24 v1 (29 + (3 * v33)) ((8 * x0) + x1) v36 h37) ⟨rfl, rfl⟩ ⟨Nat.le_of_ble_eq_true rfl, Nat.le_of_ble_eq_true rfl⟩ rfl rfl (Nat.le_of_ble_eq_true rfl) 0 rfl rfl [0, 1] [] rfl rfl ⟨rfl, rfl, by decide⟩ ⟨Nat.zero_le _, Nat.zero_le _⟩ [0, 1] rfl rfl ?_
          refine G_aload_n X dX6_laysEcho_105 1 rfl ?_
          refine G_iload_n X dX6_laysEcho_106 4 rfl ?_
          refine G_iload X dX6_laysEcho_107 0 rfl ?_
          refine G_iconst X (v := 1) dX6_laysEcho_109 (by decide) ?_
          refine G_iadd X dX6_laysEcho_110 ?_
          refine G_aload_n X dX6_laysEcho_111 1 rfl ?_
          refine G_iload_n X dX6_laysEcho_112 2 rfl ?_
          refine G_iconst X (v := 5) dX6_laysEcho_113 (by decide) ?_
          refine G_iload_n X dX6_laysEcho_114 3 rfl ?_
          refine G_iadd X dX6_laysEcho_115 ?_
          obtain ⟨v39, h40, h41⟩ := bnd h38
          refine G1_calli X (As := [.int x0, .int (5 + x1)]) (rest := [.int ((29 + (3 * v33)) + 1), .int v1, .ref h]) (wr := []) (ws' := [(h, .inr (6, [.ref h_s, .ref h_aside, .ref h_before, .ref h_past, .int i_h_known, .ref h_text, .int i_h_length, .ref h_lost, .int i_h_losts, .int i_h_bestOrder, .int i_h_bestMany, .int i_h_spot, .int i_h_begin, .int i_h_isForm, .int i_h_letter, .ref h_tells, .int i_h_faultReason, .int i_h_faultCause])), (h_s, .inl (cI, 703, .inl v36))]) dX6_laysEcho_116 pkX6_of gX6_laysEcho_X6_of (kkX6_of l D cI cR h h_s h_aside h_before h_past h_text h_lost h_tells i_h_known i_h_length i_h_losts i_h_bestOrder i_h_bestMany i_h_spot i_h_begin i_h_isForm i_h_letter i_h_faultReason i_h_faultCause v36 x0 (5 + x1) v39 h40) ⟨rfl, rfl⟩ ⟨Nat.le_of_ble_eq_true rfl, Nat.le_of_ble_eq_true rfl⟩ rfl rfl (Nat.le_of_ble_eq_true rfl) 0 rfl rfl [0, 1] [] rfl rfl ⟨rfl, rfl, by decide⟩ ⟨Nat.zero_le _, Nat.zero_le _⟩ [0, 1] rfl rfl ?_
          refine G_iconst X (v := 1) dX6_laysEcho_119 (by decide) ?_
          refine G_isub X dX6_laysEcho_120 ?_
          obtain ⟨v42, h43, h44⟩ := bnd h41
          refine G1_callv X (As := [.int v1, .int ((29 + (3 * v33)) + 1), .int (v39 - 1)]) (rest := []) (wr := []) (ws' := [(h, .inr (6, [.ref h_s, .ref h_aside, .ref h_before, .ref h_past, .int i_h_known, .ref h_text, .int i_h_length, .ref h_lost, .int i_h_losts, .int i_h_bestOrder, .int i_h_bestMany, .int i_h_spot, .int i_h_begin, .int i_h_isForm, .int i_h_letter, .ref h_tells, .int i_h_faultReason, .int i_h_faultCause])), (h_s, .inl (cI, 703, .inl v42))]) dX6_laysEcho_121 pkX6_lays gX6_laysEcho_X6_lays (kkX6_lays l D cI cR h h_s h_aside h_before h_past h_text h_lost h_tells i_h_known i_h_length i_h_losts i_h_bestOrder i_h_bestMany i_h_spot i_h_begin i_h_isForm i_h_letter i_h_faultReason i_h_faultCause v36 v1 ((29 + (3 * v33)) + 1) (v39 - 1) v42 h43) ⟨rfl, rfl⟩ ⟨Nat.le_of_ble_eq_true rfl, Nat.le_of_ble_eq_true rfl⟩ rfl rfl (Nat.le_of_ble_eq_true rfl) 0 rfl rfl [0, 1] [] rfl rfl ⟨rfl, rfl, by decide⟩ ⟨Nat.zero_le _, Nat.zero_le _⟩ [0, 1] rfl rfl ?_
          refine G_aload_n X dX6_laysEcho_124 1 rfl ?_
          refine G_iload_n X dX6_laysEcho_125 4 rfl ?_
          refine G_iload X dX6_laysEcho_126 0 rfl ?_
          refine G_iconst X (v := 2) dX6_laysEcho_128 (by decide) ?_
          refine G_iadd X dX6_laysEcho_129 ?_
          refine G_aload_n X dX6_laysEcho_130 1 rfl ?_
          refine G_get X (i0 := 0) (ci := 6) (j := 0) (C := RX6) (ref := RX6) (T := TX6) (N := 18) dX6_laysEcho_131 rfl rfl hiX6_laysEcho_X6 (by decide) flX6_laysEcho_7 rfl rfl ?_
          refine G_iconst X (v := 1) dX6_laysEcho_134 (by decide) ?_
          obtain ⟨v45, h46, h47⟩ := bnd h44
          refine G_iald X (i0 := 1) dX6_laysEcho_135 rfl h46 ?_
          obtain ⟨v48, h49, h50⟩ := bnd h47
          refine G1_callv X (As := [.int v1, .int ((29 + (3 * v33)) + 2), .int v45]) (rest := []) (wr := []) (ws' := [(h, .inr (6, [.ref h_s, .ref h_aside, .ref h_before, .ref h_past, .int i_h_known, .ref h_text, .int i_h_length, .ref h_lost, .int i_h_losts, .int i_h_bestOrder, .int i_h_bestMany, .int i_h_spot, .int i_h_begin, .int i_h_isForm, .int i_h_letter, .ref h_tells, .int i_h_faultReason, .int i_h_faultCause])), (h_s, .inl (cI, 703, .inl v48))]) dX6_laysEcho_136 pkX6_lays gX6_laysEcho_X6_lays (kkX6_lays l D cI cR h h_s h_aside h_before h_past h_text h_lost h_tells i_h_known i_h_length i_h_losts i_h_bestOrder i_h_bestMany i_h_spot i_h_begin i_h_isForm i_h_letter i_h_faultReason i_h_faultCause v42 v1 ((29 + (3 * v33)) + 2) v45 v48 h49) ⟨rfl, rfl⟩ ⟨Nat.le_of_ble_eq_true rfl, Nat.le_of_ble_eq_true rfl⟩ rfl rfl (Nat.le_of_ble_eq_true rfl) 0 rfl rfl [0, 1] [] rfl rfl ⟨rfl, rfl, by decide⟩ ⟨Nat.zero_le _, Nat.zero_le _⟩ [0, 1] rfl rfl ?_
          refine G_aload_n X dX6_laysEcho_139 1 rfl ?_
          refine G_iload_n X dX6_laysEcho_140 4 rfl ?_
          refine G_iconst X (v := 4) dX6_laysEcho_141 (by decide) ?_
          obtain ⟨v51, h52, h53⟩ := bnd h50
          refine G1_callv X (As := [.int v1, .int 4]) (rest := []) (wr := []) (ws' := [(h, .inr (6, [.ref h_s, .ref h_aside, .ref h_before, .ref h_past, .int i_h_known, .ref h_text, .int i_h_length, .ref h_lost, .int i_h_losts, .int i_h_bestOrder, .int i_h_bestMany, .int i_h_spot, .int i_h_begin, .int i_h_isForm, .int i_h_letter, .ref h_tells, .int i_h_faultReason, .int i_h_faultCause])), (h_s, .inl (cI, 703, .inl v51))]) dX6_laysEcho_142 pkX6_adds gX6_laysEcho_X6_adds (kkX6_adds l D cI cR h h_s h_aside h_before h_past h_text h_lost h_tells i_h_known i_h_length i_h_losts i_h_bestOrder i_h_bestMany i_h_spot i_h_begin i_h_isForm i_h_letter i_h_faultReason i_h_faultCause v48 v1 4 v51 h52) ⟨rfl, rfl⟩ ⟨Nat.le_of_ble_eq_true rfl, Nat.le_of_ble_eq_true rfl⟩ rfl rfl (Nat.le_of_ble_eq_true rfl) 0 rfl rfl [0, 1] [] rfl rfl ⟨rfl, rfl, by decide⟩ ⟨Nat.zero_le _, Nat.zero_le _⟩ [0, 1] rfl rfl ?_
          refine G_aload_n X dX6_laysEcho_145 1 rfl ?_
          refine G_get X (i0 := 0) (ci := 6) (j := 0) (C := RX6) (ref := RX6) (T := TX6) (N := 18) dX6_laysEcho_146 rfl rfl hiX6_laysEcho_X6 (by decide) flX6_laysEcho_7 rfl rfl ?_
          refine G_bipush X (v := 9) dX6_laysEcho_149 (by decide) ?_
          refine G_dup2 X dX6_laysEcho_151 rfl rfl ?_
          obtain ⟨v54, h55, h56⟩ := bnd h53
          refine G_iald X (i0 := 1) dX6_laysEcho_152 rfl h55 ?_
          refine G_iconst X (v := 1) dX6_laysEcho_153 (by decide) ?_
          refine G_iadd X dX6_laysEcho_154 ?_
          obtain ⟨g57, h58, h59⟩ := bnd h56
          refine G_iast X (i0 := 1) (ws' := [(h, .inr (6, [.ref h_s, .ref h_aside, .ref h_before, .ref h_past, .int i_h_known, .ref h_text, .int i_h_length, .ref h_lost, .int i_h_losts, .int i_h_bestOrder, .int i_h_bestMany, .int i_h_spot, .int i_h_begin, .int i_h_isForm, .int i_h_letter, .ref h_tells, .int i_h_faultReason, .int i_h_faultCause])), (h_s, .inl (cI, 703, .inl g57))]) dX6_laysEcho_155 rfl h58 rfl ?_
          refine G_iconst X (v := 1) dX6_laysEcho_156 (by decide) ?_
          cases h59
          exact rt _ _ _ _ dX6_laysEcho_157 ⟨rfl, rfl⟩
        refine itr_ind (P := fun s23 : (Nat → Int32) => G p l e rmX6_laysEcho s m args below meth c D A 6 Q 0 0 49 [(0, .ref h), (1, .int x0), (2, .int x1), (3, .int v1)] [] [(h, .inr (6, [.ref h_s, .ref h_aside, .ref h_before, .ref h_past, .int i_h_known, .ref h_text, .int i_h_length, .ref h_lost, .int i_h_losts, .int i_h_bestOrder, .int i_h_bestMany, .int i_h_spot, .int i_h_begin, .int i_h_isForm, .int i_h_letter, .ref h_tells, .int i_h_faultReason, .int i_h_faultCause])), (h_s, .inl (cI, 703, .inl s23))]) (fun s23 o30 h27 h28 h29 => ?_) FU _ h25
        unfold SX6_laysEcho_49 at h27
        refine G_aload_n X dX6_laysEcho_49 0 rfl ?_
        refine G_iload_n X dX6_laysEcho_50 3 rfl ?_
        refine G_iconst X (v := 4) dX6_laysEcho_51 (by decide) ?_
        obtain ⟨v60, h61, h62⟩ := bnd h27
        refine G1_calli X (As := [.int v1, .int 4]) (rest := []) (wr := []) (ws' := [(h, .inr (6, [.ref h_s, .ref h_aside, .ref h_before, .ref h_past, .int i_h_known, .ref h_text, .int i_h_length, .ref h_lost, .int i_h_losts, .int i_h_bestOrder, .int i_h_bestMany, .int i_h_spot, .int i_h_begin, .int i_h_isForm, .int i_h_letter, .ref h_tells, .int i_h_faultReason, .int i_h_faultCause])), (h_s, .inl (cI, 703, .inl s23))]) dX6_laysEcho_52 pkX6_of gX6_laysEcho_X6_of (kkX6_of l D cI cR h h_s h_aside h_before h_past h_text h_lost h_tells i_h_known i_h_length i_h_losts i_h_bestOrder i_h_bestMany i_h_spot i_h_begin i_h_isForm i_h_letter i_h_faultReason i_h_faultCause s23 v1 4 v60 h61) ⟨rfl, rfl⟩ ⟨Nat.le_of_ble_eq_true rfl, Nat.le_of_ble_eq_true rfl⟩ rfl rfl (Nat.le_of_ble_eq_true rfl) 0 rfl rfl [0, 1] [] rfl rfl ⟨rfl, rfl, by decide⟩ ⟨Nat.zero_le _, Nat.zero_le _⟩ [0, 1] rfl rfl ?_
        refine G_aload_n X dX6_laysEcho_55 0 rfl ?_
        refine G_get X (i0 := 0) (ci := 6) (j := 0) (C := RX6) (ref := RX6) (T := TX6) (N := 18) dX6_laysEcho_56 rfl rfl hiX6_laysEcho_X6 (by decide) flX6_laysEcho_7 rfl rfl ?_
        refine G_iconst X (v := 2) dX6_laysEcho_59 (by decide) ?_
        obtain ⟨v63, h64, h65⟩ := bnd h62
        refine G_iald X (i0 := 1) dX6_laysEcho_60 rfl h64 ?_
        refine G_icmp_lt X (tgt := 79) dX6_laysEcho_61 (by decide) (fun h66 => ?_) (fun h66 => ?_)
        · have h67 := ifp h66 h65
          cases h67
          have h68 := h29 _ rfl
          subst h68
          exact J31
        · have h69 := ifn h66 h65
          refine G_aload_n X dX6_laysEcho_64 0 rfl ?_
          refine G_iload_n X dX6_laysEcho_65 3 rfl ?_
          refine G_iconst X (v := 0) dX6_laysEcho_66 (by decide) ?_
          obtain ⟨v70, h71, h72⟩ := bnd h69
          refine G1_callv X (As := [.int v1, .int 0]) (rest := []) (wr := []) (ws' := [(h, .inr (6, [.ref h_s, .ref h_aside, .ref h_before, .ref h_past, .int i_h_known, .ref h_text, .int i_h_length, .ref h_lost, .int i_h_losts, .int i_h_bestOrder, .int i_h_bestMany, .int i_h_spot, .int i_h_begin, .int i_h_isForm, .int i_h_letter, .ref h_tells, .int i_h_faultReason, .int i_h_faultCause])), (h_s, .inl (cI, 703, .inl v70))]) dX6_laysEcho_67 pkX6_drops gX6_laysEcho_X6_drops (kkX6_drops l D cI cR h h_s h_aside h_before h_past h_text h_lost h_tells i_h_known i_h_length i_h_losts i_h_bestOrder i_h_bestMany i_h_spot i_h_begin i_h_isForm i_h_letter i_h_faultReason i_h_faultCause s23 v1 0 v70 h71) ⟨rfl, rfl⟩ ⟨Nat.le_of_ble_eq_true rfl, Nat.le_of_ble_eq_true rfl⟩ rfl rfl (Nat.le_of_ble_eq_true rfl) 0 rfl rfl [0, 1] [] rfl rfl ⟨rfl, rfl, by decide⟩ ⟨Nat.zero_le _, Nat.zero_le _⟩ [0, 1] rfl rfl ?_
          refine G_aload_n X dX6_laysEcho_70 0 rfl ?_
          refine G_iload_n X dX6_laysEcho_71 3 rfl ?_
          refine G_iconst X (v := 3) dX6_laysEcho_72 (by decide) ?_
          obtain ⟨v73, h74, h75⟩ := bnd h72
          refine G1_callv X (As := [.int v1, .int 3]) (rest := []) (wr := []) (ws' := [(h, .inr (6, [.ref h_s, .ref h_aside, .ref h_before, .ref h_past, .int i_h_known, .ref h_text, .int i_h_length, .ref h_lost, .int i_h_losts, .int i_h_bestOrder, .int i_h_bestMany, .int i_h_spot, .int i_h_begin, .int i_h_isForm, .int i_h_letter, .ref h_tells, .int i_h_faultReason, .int i_h_faultCause])), (h_s, .inl (cI, 703, .inl v73))]) dX6_laysEcho_73 pkX6_adds gX6_laysEcho_X6_adds (kkX6_adds l D cI cR h h_s h_aside h_before h_past h_text h_lost h_tells i_h_known i_h_length i_h_losts i_h_bestOrder i_h_bestMany i_h_spot i_h_begin i_h_isForm i_h_letter i_h_faultReason i_h_faultCause v70 v1 3 v73 h74) ⟨rfl, rfl⟩ ⟨Nat.le_of_ble_eq_true rfl, Nat.le_of_ble_eq_true rfl⟩ rfl rfl (Nat.le_of_ble_eq_true rfl) 0 rfl rfl [0, 1] [] rfl rfl ⟨rfl, rfl, by decide⟩ ⟨Nat.zero_le _, Nat.zero_le _⟩ [0, 1] rfl rfl ?_
          refine G_goto X (tgt := 49) dX6_laysEcho_76 (by decide) ?_
          cases h75
          exact h28 _ rfl
      refine G_if_lt X (tgt := 49) dX6_laysEcho_39 (by decide) (fun h76 => ?_) (fun h76 => ?_)
      · have h77 := ifp h76 h20
        cases h77
        exact G_lv [2, 3, 4, 1] rfl (J22)
      · have h78 := ifn h76 h20
        refine G_aload_n X dX6_laysEcho_42 2 rfl ?_
        refine G_iload_n X dX6_laysEcho_43 1 rfl ?_
        refine G_iload X dX6_laysEcho_44 0 rfl ?_
        obtain ⟨v79, h80, h81⟩ := bnd h78
        refine G1_callv X (As := [.int v1, .int v16]) (rest := []) (wr := []) (ws' := [(h, .inr (6, [.ref h_s, .ref h_aside, .ref h_before, .ref h_past, .int i_h_known, .ref h_text, .int i_h_length, .ref h_lost, .int i_h_losts, .int i_h_bestOrder, .int i_h_bestMany, .int i_h_spot, .int i_h_begin, .int i_h_isForm, .int i_h_letter, .ref h_tells, .int i_h_faultReason, .int i_h_faultCause])), (h_s, .inl (cI, 703, .inl v79))]) dX6_laysEcho_46 pkX6_drops gX6_laysEcho_X6_drops (kkX6_drops l D cI cR h h_s h_aside h_before h_past h_text h_lost h_tells i_h_known i_h_length i_h_losts i_h_bestOrder i_h_bestMany i_h_spot i_h_begin i_h_isForm i_h_letter i_h_faultReason i_h_faultCause f_h_s v1 v16 v79 h80) ⟨rfl, rfl⟩ ⟨Nat.le_of_ble_eq_true rfl, Nat.le_of_ble_eq_true rfl⟩ rfl rfl (Nat.le_of_ble_eq_true rfl) 0 rfl rfl [0, 1] [] rfl rfl ⟨rfl, rfl, by decide⟩ ⟨Nat.zero_le _, Nat.zero_le _⟩ [0, 1] rfl rfl ?_
        cases h81
        exact G_lv [2, 3, 4, 1] rfl (J22)
def rmX6_laysRow : Room := { frames := 5, cells := 0, slots := 0, locals := 113 }
theorem pkX6_laysRow : cK yX6_laysRow wsX6_laysRow cX6_laysRow 4 (some .int) 1 RX6 := ⟨⟨_, rfl⟩, by decide +kernel⟩
set_option maxHeartbeats 4000000 in
set_option maxRecDepth 100000 in
theorem kkX6_laysRow (l : Launch) (D : va_G) (cI cR : ClassId) (h h_s h_aside h_before h_past h_text h_lost h_tells : Nat) (i_h_known : Int32) (i_h_length : Int32) (i_h_losts : Int32) (i_h_bestOrder : Int32) (i_h_bestMany : Int32) (i_h_spot : Int32) (i_h_begin : Int32) (i_h_isForm : Int32) (i_h_letter : Int32) (i_h_faultReason : Int32) (i_h_faultCause : Int32) (f_h_s : Nat → Int32) (x0 : Int32) (z : (Int32 × (Nat → Int32))) (hz : MX6_laysRow f_h_s x0 = some z) : cI1 l yX6_laysRow wsX6_laysRow rmX6_laysRow D cI cR [.ref h, .int x0] [(h, .inr (6, [.ref h_s, .ref h_aside, .ref h_before, .ref h_past, .int i_h_known, .ref h_text, .int i_h_length, .ref h_lost, .int i_h_losts, .int i_h_bestOrder, .int i_h_bestMany, .int i_h_spot, .int i_h_begin, .int i_h_isForm, .int i_h_letter, .ref h_tells, .int i_h_faultReason, .int i_h_faultCause])), (h_s, .inl (cI, 703, .inl f_h_s))] z.1 [(h, .inr (6, [.ref h_s, .ref h_aside, .ref h_before, .ref h_past, .int i_h_known, .ref h_text, .int i_h_length, .ref h_lost, .int i_h_losts, .int i_h_bestOrder, .int i_h_bestMany, .int i_h_spot, .int i_h_begin, .int i_h_isForm, .int i_h_letter, .ref h_tells, .int i_h_faultReason, .int i_h_faultCause])), (h_s, .inl (cI, 703, .inl z.2))] := by
  unfold MX6_laysRow at hz
  refine kI_of (cc := cX6_laysRow) (maxL := 4) (own := RX6) (by decide +kernel) rfl rfl (Nat.le_of_ble_eq_true rfl) (lv0 := [(0, .ref h), (1, .int x0)]) rfl (fun p e s m args below meth c A Q X rt => ?_)
  refine G_iconst X (v := 0) dX6_laysRow_0 (by decide) ?_
  refine G_istore_n X (lv' := [(2, .int 0), (0, .ref h), (1, .int x0)]) dX6_laysRow_1 (by decide) rfl ?_
  refine G_iconst X (v := 0) dX6_laysRow_2 (by decide) ?_
  refine G_istore_n X (lv' := [(3, .int 0), (2, .int 0), (0, .ref h), (1, .int x0)]) dX6_laysRow_3 (by decide) rfl ?_
  obtain ⟨j2, h3, h4⟩ := bnd hz
  have J9 : G p l e rmX6_laysRow s m args below meth c D A 4 Q 0 0 25 [(2, .int j2.1)] [] [(h, .inr (6, [.ref h_s, .ref h_aside, .ref h_before, .ref h_past, .int i_h_known, .ref h_text, .int i_h_length, .ref h_lost, .int i_h_losts, .int i_h_bestOrder, .int i_h_bestMany, .int i_h_spot, .int i_h_begin, .int i_h_isForm, .int i_h_letter, .ref h_tells, .int i_h_faultReason, .int i_h_faultCause])), (h_s, .inl (cI, 703, .inl j2.2))] := by
    refine G_iload_n X dX6_laysRow_25 0 rfl ?_
    cases h4
    exact rt _ _ _ _ dX6_laysRow_26 ⟨rfl, rfl⟩
  refine G_lv [2, 3, 1, 0] rfl ?_
  refine itr_ind (P := fun s1 : (Int32 × Int32 × (Nat → Int32)) => G p l e rmX6_laysRow s m args below meth c D A 4 Q 0 0 4 [(0, .ref h), (1, .int x0), (2, .int s1.1), (3, .int s1.2.1)] [] [(h, .inr (6, [.ref h_s, .ref h_aside, .ref h_before, .ref h_past, .int i_h_known, .ref h_text, .int i_h_length, .ref h_lost, .int i_h_losts, .int i_h_bestOrder, .int i_h_bestMany, .int i_h_spot, .int i_h_begin, .int i_h_isForm, .int i_h_letter, .ref h_tells, .int i_h_faultReason, .int i_h_faultCause])), (h_s, .inl (cI, 703, .inl s1.2.2))]) (fun s1 o8 h5 h6 h7 => ?_) FU _ h3
  unfold SX6_laysRow_4 at h5
  refine G_iload_n X dX6_laysRow_4 3 rfl ?_
  refine G_bipush X (v := 8) dX6_laysRow_5 (by decide) ?_
  refine G_icmp_ge X (tgt := 25) dX6_laysRow_7 (by decide) (fun h11 => ?_) (fun h11 => ?_)
  · have h12 := ifp h11 h5
    cases h12
    have h13 := h7 _ rfl
    subst h13
    exact G_lv [2] rfl (J9)
  · have h14 := ifn h11 h5
    refine G_iload_n X dX6_laysRow_10 2 rfl ?_
    refine G_aload_n X dX6_laysRow_11 0 rfl ?_
    refine G_iload_n X dX6_laysRow_12 1 rfl ?_
    refine G_iload_n X dX6_laysRow_13 3 rfl ?_
    obtain ⟨v15, h16, h17⟩ := bnd h14
    refine G1_calli X (As := [.int x0, .int s1.2.1]) (rest := [.int s1.1]) (wr := []) (ws' := [(h, .inr (6, [.ref h_s, .ref h_aside, .ref h_before, .ref h_past, .int i_h_known, .ref h_text, .int i_h_length, .ref h_lost, .int i_h_losts, .int i_h_bestOrder, .int i_h_bestMany, .int i_h_spot, .int i_h_begin, .int i_h_isForm, .int i_h_letter, .ref h_tells, .int i_h_faultReason, .int i_h_faultCause])), (h_s, .inl (cI, 703, .inl v15.2))]) dX6_laysRow_14 pkX6_laysEcho gX6_laysRow_X6_laysEcho (kkX6_laysEcho l D cI cR h h_s h_aside h_before h_past h_text h_lost h_tells i_h_known i_h_length i_h_losts i_h_bestOrder i_h_bestMany i_h_spot i_h_begin i_h_isForm i_h_letter i_h_faultReason i_h_faultCause s1.2.2 x0 s1.2.1 v15 h16) ⟨rfl, rfl⟩ ⟨Nat.le_of_ble_eq_true rfl, Nat.le_of_ble_eq_true rfl⟩ rfl rfl (Nat.le_of_ble_eq_true rfl) 0 rfl rfl [0, 1] [] rfl rfl ⟨rfl, rfl, by decide⟩ ⟨Nat.zero_le _, Nat.zero_le _⟩ [0, 1] rfl rfl ?_
    refine G_iadd X dX6_laysRow_17 ?_
    refine G_istore_n X (lv' := [(2, .int (s1.1 + v15.1)), (0, .ref h), (1, .int x0), (3, .int s1.2.1)]) dX6_laysRow_18 (by decide) rfl ?_
    refine G_iinc X (v := (s1.2.1 + 1)) (lv' := [(3, .int (s1.2.1 + 1)), (2, .int (s1.1 + v15.1)), (0, .ref h), (1, .int x0)]) dX6_laysRow_19 3 rfl rfl (by decide) rfl ?_
    refine G_goto X (tgt := 4) dX6_laysRow_22 (by decide) ?_
    cases h17
    exact G_lv [2, 3, 1, 0] rfl (h6 _ rfl)
def rmX6_told : Room := { frames := 4, cells := 0, slots := 0, locals := 89 }
theorem pkX6_told : cK yX6_told wsX6_told cX6_told 5 (some .int) 2 RX6 := ⟨⟨_, rfl⟩, by decide +kernel⟩
theorem flX6_told_51 : Cond.constant RX6 51 (-1000004) ∈ wsX6_told := by decide +kernel
set_option maxHeartbeats 4000000 in
set_option maxRecDepth 100000 in
theorem kkX6_told (l : Launch) (D : va_G) (cI cR : ClassId) (h h_s h_aside h_before h_past h_text h_lost h_tells : Nat) (i_h_known : Int32) (i_h_length : Int32) (i_h_losts : Int32) (i_h_bestOrder : Int32) (i_h_bestMany : Int32) (i_h_spot : Int32) (i_h_begin : Int32) (i_h_isForm : Int32) (i_h_letter : Int32) (i_h_faultReason : Int32) (i_h_faultCause : Int32) (f_h_s : Nat → Int32) (x0 : Int32) (x1 : Int32) (z : Int32) (hz : MX6_told f_h_s x0 x1 = some z) : cI1 l yX6_told wsX6_told rmX6_told D cI cR [.ref h, .int x0, .int x1] [(h, .inr (6, [.ref h_s, .ref h_aside, .ref h_before, .ref h_past, .int i_h_known, .ref h_text, .int i_h_length, .ref h_lost, .int i_h_losts, .int i_h_bestOrder, .int i_h_bestMany, .int i_h_spot, .int i_h_begin, .int i_h_isForm, .int i_h_letter, .ref h_tells, .int i_h_faultReason, .int i_h_faultCause])), (h_s, .inl (cI, 703, .inl f_h_s))] z [(h, .inr (6, [.ref h_s, .ref h_aside, .ref h_before, .ref h_past, .int i_h_known, .ref h_text, .int i_h_length, .ref h_lost, .int i_h_losts, .int i_h_bestOrder, .int i_h_bestMany, .int i_h_spot, .int i_h_begin, .int i_h_isForm, .int i_h_letter, .ref h_tells, .int i_h_faultReason, .int i_h_faultCause])), (h_s, .inl (cI, 703, .inl f_h_s))] := by
  unfold MX6_told at hz
  refine kI_of (cc := cX6_told) (maxL := 5) (own := RX6) (by decide +kernel) rfl rfl (Nat.le_of_ble_eq_true rfl) (lv0 := [(0, .ref h), (1, .int x0), (2, .int x1)]) rfl (fun p e s m args below meth c A Q X rt => ?_)
  refine G_aload_n X dX6_told_0 0 rfl ?_
  refine G_iload_n X dX6_told_1 1 rfl ?_
  refine G_iload_n X dX6_told_2 2 rfl ?_
  obtain ⟨v1, h2, h3⟩ := bnd hz
  refine G1_calli X (As := [.int x0, .int x1]) (rest := []) (wr := []) (ws' := [(h, .inr (6, [.ref h_s, .ref h_aside, .ref h_before, .ref h_past, .int i_h_known, .ref h_text, .int i_h_length, .ref h_lost, .int i_h_losts, .int i_h_bestOrder, .int i_h_bestMany, .int i_h_spot, .int i_h_begin, .int i_h_isForm, .int i_h_letter, .ref h_tells, .int i_h_faultReason, .int i_h_faultCause])), (h_s, .inl (cI, 703, .inl f_h_s))]) dX6_told_3 pkX6_bearer gX6_told_X6_bearer (kkX6_bearer l D cI cR h h_s h_aside h_before h_past h_text h_lost h_tells i_h_known i_h_length i_h_losts i_h_bestOrder i_h_bestMany i_h_spot i_h_begin i_h_isForm i_h_letter i_h_faultReason i_h_faultCause f_h_s x0 x1 v1 h2) ⟨rfl, rfl⟩ ⟨Nat.le_of_ble_eq_true rfl, Nat.le_of_ble_eq_true rfl⟩ rfl rfl (Nat.le_of_ble_eq_true rfl) 0 rfl rfl [0, 1] [] rfl rfl ⟨rfl, rfl, by decide⟩ ⟨Nat.zero_le _, Nat.zero_le _⟩ [0, 1] rfl rfl ?_
  refine G_istore_n X (lv' := [(3, .int v1), (0, .ref h), (1, .int x0), (2, .int x1)]) dX6_told_6 (by decide) rfl ?_
  refine G_aload_n X dX6_told_7 1 rfl ?_
  refine G_iload_n X dX6_told_8 0 rfl ?_
  obtain ⟨v4, h5, h6⟩ := bnd h3
  refine G1_calli X (As := [.int v1]) (rest := []) (wr := []) (ws' := [(h, .inr (6, [.ref h_s, .ref h_aside, .ref h_before, .ref h_past, .int i_h_known, .ref h_text, .int i_h_length, .ref h_lost, .int i_h_losts, .int i_h_bestOrder, .int i_h_bestMany, .int i_h_spot, .int i_h_begin, .int i_h_isForm, .int i_h_letter, .ref h_tells, .int i_h_faultReason, .int i_h_faultCause])), (h_s, .inl (cI, 703, .inl f_h_s))]) dX6_told_9 pkX6_lives gX6_told_X6_lives (kkX6_lives l D cI cR h h_s h_aside h_before h_past h_text h_lost h_tells i_h_known i_h_length i_h_losts i_h_bestOrder i_h_bestMany i_h_spot i_h_begin i_h_isForm i_h_letter i_h_faultReason i_h_faultCause f_h_s v1 v4 h5) ⟨rfl, rfl⟩ ⟨Nat.le_of_ble_eq_true rfl, Nat.le_of_ble_eq_true rfl⟩ rfl rfl (Nat.le_of_ble_eq_true rfl) 0 rfl rfl [0, 1] [] rfl rfl ⟨rfl, rfl, by decide⟩ ⟨Nat.zero_le _, Nat.zero_le _⟩ [0, 1] rfl rfl ?_
  obtain ⟨j7, h8, h9⟩ := bnd h6
  have J10 : G p l e rmX6_told s m args below meth c D A 5 Q 0 0 27 [(0, .ref h), (3, .int v1)] [.int j7] [(h, .inr (6, [.ref h_s, .ref h_aside, .ref h_before, .ref h_past, .int i_h_known, .ref h_text, .int i_h_length, .ref h_lost, .int i_h_losts, .int i_h_bestOrder, .int i_h_bestMany, .int i_h_spot, .int i_h_begin, .int i_h_isForm, .int i_h_letter, .ref h_tells, .int i_h_faultReason, .int i_h_faultCause])), (h_s, .inl (cI, 703, .inl f_h_s))] := by
    refine G_istore X (lv' := [(4, .int j7), (0, .ref h), (3, .int v1)]) dX6_told_27 (by decide) rfl ?_
    refine G_iload X dX6_told_29 0 rfl ?_
    refine G_if_lt X (tgt := 49) dX6_told_31 (by decide) (fun h11 => ?_) (fun h11 => ?_)
    · have h12 := ifp h11 h9
      refine G_ldc X dX6_told_49 flX6_told_51 ?_
      cases h12
      exact rt _ _ _ _ dX6_told_51 ⟨rfl, rfl⟩
    · have h13 := ifn h11 h9
      refine G_aload_n X dX6_told_34 1 rfl ?_
      refine G_iload_n X dX6_told_35 2 rfl ?_
      refine G_iload X dX6_told_36 0 rfl ?_
      obtain ⟨v14, h15, h16⟩ := bnd h13
      refine G1_calli X (As := [.int v1, .int j7]) (rest := []) (wr := []) (ws' := [(h, .inr (6, [.ref h_s, .ref h_aside, .ref h_before, .ref h_past, .int i_h_known, .ref h_text, .int i_h_length, .ref h_lost, .int i_h_losts, .int i_h_bestOrder, .int i_h_bestMany, .int i_h_spot, .int i_h_begin, .int i_h_isForm, .int i_h_letter, .ref h_tells, .int i_h_faultReason, .int i_h_faultCause])), (h_s, .inl (cI, 703, .inl f_h_s))]) dX6_told_38 pkX6_isFaded gX6_told_X6_isFaded (kkX6_isFaded l D cI cR h h_s h_aside h_before h_past h_text h_lost h_tells i_h_known i_h_length i_h_losts i_h_bestOrder i_h_bestMany i_h_spot i_h_begin i_h_isForm i_h_letter i_h_faultReason i_h_faultCause f_h_s v1 j7 v14 h15) ⟨rfl, rfl⟩ ⟨Nat.le_of_ble_eq_true rfl, Nat.le_of_ble_eq_true rfl⟩ rfl rfl (Nat.le_of_ble_eq_true rfl) 0 rfl rfl [0, 1] [] rfl rfl ⟨rfl, rfl, by decide⟩ ⟨Nat.zero_le _, Nat.zero_le _⟩ [0, 1] rfl rfl ?_
      refine G_if_ne X (tgt := 49) dX6_told_41 (by decide) (fun h17 => ?_) (fun h17 => ?_)
      · have h18 := ifp h17 h16
        refine G_iload X dX6_told_44 0 rfl ?_
        refine G_goto X (tgt := 51) dX6_told_46 (by decide) ?_
        cases h18
        exact rt _ _ _ _ dX6_told_51 ⟨rfl, rfl⟩
      · have h19 := ifn h17 h16
        refine G_ldc X dX6_told_49 flX6_told_51 ?_
        cases h19
        exact rt _ _ _ _ dX6_told_51 ⟨rfl, rfl⟩
  refine G_if_eq X (tgt := 25) dX6_told_12 (by decide) (fun h20 => ?_) (fun h20 => ?_)
  · have h21 := ifp h20 h8
    refine G_ldc X dX6_told_25 flX6_told_51 ?_
    cases h21
    exact G_lv [1, 0] rfl (J10)
  · have h22 := ifn h20 h8
    refine G_aload_n X dX6_told_15 1 rfl ?_
    refine G_iload_n X dX6_told_16 0 rfl ?_
    refine G_iload_n X dX6_told_17 2 rfl ?_
    refine G_iload_n X dX6_told_18 3 rfl ?_
    obtain ⟨v23, h24, h25⟩ := bnd h22
    refine G1_calli X (As := [.int v1, .int x0, .int x1]) (rest := []) (wr := []) (ws' := [(h, .inr (6, [.ref h_s, .ref h_aside, .ref h_before, .ref h_past, .int i_h_known, .ref h_text, .int i_h_length, .ref h_lost, .int i_h_losts, .int i_h_bestOrder, .int i_h_bestMany, .int i_h_spot, .int i_h_begin, .int i_h_isForm, .int i_h_letter, .ref h_tells, .int i_h_faultReason, .int i_h_faultCause])), (h_s, .inl (cI, 703, .inl f_h_s))]) dX6_told_19 pkX6_rankOf gX6_told_X6_rankOf (kkX6_rankOf l D cI cR h h_s h_aside h_before h_past h_text h_lost h_tells i_h_known i_h_length i_h_losts i_h_bestOrder i_h_bestMany i_h_spot i_h_begin i_h_isForm i_h_letter i_h_faultReason i_h_faultCause f_h_s v1 x0 x1 v23 h24) ⟨rfl, rfl⟩ ⟨Nat.le_of_ble_eq_true rfl, Nat.le_of_ble_eq_true rfl⟩ rfl rfl (Nat.le_of_ble_eq_true rfl) 0 rfl rfl [0, 1] [] rfl rfl ⟨rfl, rfl, by decide⟩ ⟨Nat.zero_le _, Nat.zero_le _⟩ [0, 1] rfl rfl ?_
    refine G_goto X (tgt := 27) dX6_told_22 (by decide) ?_
    cases h25
    exact G_lv [1, 0] rfl (J10)
def rmX6_heard : Room := { frames := 5, cells := 0, slots := 0, locals := 113 }
theorem pkX6_heard : cK yX6_heard wsX6_heard cX6_heard 4 (some .int) 2 RX6 := ⟨⟨_, rfl⟩, by decide +kernel⟩
set_option maxHeartbeats 4000000 in
set_option maxRecDepth 100000 in
theorem kkX6_heard (l : Launch) (D : va_G) (cI cR : ClassId) (h h_s h_aside h_before h_past h_text h_lost h_tells : Nat) (i_h_known : Int32) (i_h_length : Int32) (i_h_losts : Int32) (i_h_bestOrder : Int32) (i_h_bestMany : Int32) (i_h_spot : Int32) (i_h_begin : Int32) (i_h_isForm : Int32) (i_h_letter : Int32) (i_h_faultReason : Int32) (i_h_faultCause : Int32) (f_h_s : Nat → Int32) (x0 : Int32) (x1 : Int32) (z : Int32) (hz : MX6_heard f_h_s x0 x1 = some z) : cI1 l yX6_heard wsX6_heard rmX6_heard D cI cR [.ref h, .int x0, .int x1] [(h, .inr (6, [.ref h_s, .ref h_aside, .ref h_before, .ref h_past, .int i_h_known, .ref h_text, .int i_h_length, .ref h_lost, .int i_h_losts, .int i_h_bestOrder, .int i_h_bestMany, .int i_h_spot, .int i_h_begin, .int i_h_isForm, .int i_h_letter, .ref h_tells, .int i_h_faultReason, .int i_h_faultCause])), (h_s, .inl (cI, 703, .inl f_h_s))] z [(h, .inr (6, [.ref h_s, .ref h_aside, .ref h_before, .ref h_past, .int i_h_known, .ref h_text, .int i_h_length, .ref h_lost, .int i_h_losts, .int i_h_bestOrder, .int i_h_bestMany, .int i_h_spot, .int i_h_begin, .int i_h_isForm, .int i_h_letter, .ref h_tells, .int i_h_faultReason, .int i_h_faultCause])), (h_s, .inl (cI, 703, .inl f_h_s))] := by
  unfold MX6_heard at hz
  refine kI_of (cc := cX6_heard) (maxL := 4) (own := RX6) (by decide +kernel) rfl rfl (Nat.le_of_ble_eq_true rfl) (lv0 := [(0, .ref h), (1, .int x0), (2, .int x1)]) rfl (fun p e s m args below meth c A Q X rt => ?_)
  refine G_aload_n X dX6_heard_0 0 rfl ?_
  refine G_iload_n X dX6_heard_1 1 rfl ?_
  refine G_iload_n X dX6_heard_2 2 rfl ?_
  obtain ⟨v1, h2, h3⟩ := bnd hz
  refine G1_calli X (As := [.int x0, .int x1]) (rest := []) (wr := []) (ws' := [(h, .inr (6, [.ref h_s, .ref h_aside, .ref h_before, .ref h_past, .int i_h_known, .ref h_text, .int i_h_length, .ref h_lost, .int i_h_losts, .int i_h_bestOrder, .int i_h_bestMany, .int i_h_spot, .int i_h_begin, .int i_h_isForm, .int i_h_letter, .ref h_tells, .int i_h_faultReason, .int i_h_faultCause])), (h_s, .inl (cI, 703, .inl f_h_s))]) dX6_heard_3 pkX6_told gX6_heard_X6_told (kkX6_told l D cI cR h h_s h_aside h_before h_past h_text h_lost h_tells i_h_known i_h_length i_h_losts i_h_bestOrder i_h_bestMany i_h_spot i_h_begin i_h_isForm i_h_letter i_h_faultReason i_h_faultCause f_h_s x0 x1 v1 h2) ⟨rfl, rfl⟩ ⟨Nat.le_of_ble_eq_true rfl, Nat.le_of_ble_eq_true rfl⟩ rfl rfl (Nat.le_of_ble_eq_true rfl) 0 rfl rfl [0, 1] [] rfl rfl ⟨rfl, rfl, by decide⟩ ⟨Nat.zero_le _, Nat.zero_le _⟩ [0, 1] rfl rfl ?_
  refine G_istore_n X (lv' := [(3, .int v1), (0, .ref h), (1, .int x0), (2, .int x1)]) dX6_heard_6 (by decide) rfl ?_
  refine G_iload_n X dX6_heard_7 0 rfl ?_
  refine G_if_ge X (tgt := 15) dX6_heard_8 (by decide) (fun h4 => ?_) (fun h4 => ?_)
  · have h5 := ifp h4 h3
    refine G_iconst X (v := 1) dX6_heard_15 (by decide) ?_
    refine G_aload_n X dX6_heard_16 1 rfl ?_
    refine G_aload_n X dX6_heard_17 1 rfl ?_
    refine G_iload_n X dX6_heard_18 2 rfl ?_
    refine G_iload_n X dX6_heard_19 3 rfl ?_
    obtain ⟨v6, h7, h8⟩ := bnd h5
    refine G1_calli X (As := [.int x0, .int x1]) (rest := [.ref h, .int 1]) (wr := []) (ws' := [(h, .inr (6, [.ref h_s, .ref h_aside, .ref h_before, .ref h_past, .int i_h_known, .ref h_text, .int i_h_length, .ref h_lost, .int i_h_losts, .int i_h_bestOrder, .int i_h_bestMany, .int i_h_spot, .int i_h_begin, .int i_h_isForm, .int i_h_letter, .ref h_tells, .int i_h_faultReason, .int i_h_faultCause])), (h_s, .inl (cI, 703, .inl f_h_s))]) dX6_heard_20 pkX6_bearer gX6_heard_X6_bearer (kkX6_bearer l D cI cR h h_s h_aside h_before h_past h_text h_lost h_tells i_h_known i_h_length i_h_losts i_h_bestOrder i_h_bestMany i_h_spot i_h_begin i_h_isForm i_h_letter i_h_faultReason i_h_faultCause f_h_s x0 x1 v6 h7) ⟨rfl, rfl⟩ ⟨Nat.le_of_ble_eq_true rfl, Nat.le_of_ble_eq_true rfl⟩ rfl rfl (Nat.le_of_ble_eq_true rfl) 0 rfl rfl [0, 1] [] rfl rfl ⟨rfl, rfl, by decide⟩ ⟨Nat.zero_le _, Nat.zero_le _⟩ [0, 1] rfl rfl ?_
    refine G_iload_n X dX6_heard_23 0 rfl ?_
    refine G_iconst X (v := 1) dX6_heard_24 (by decide) ?_
    obtain ⟨v9, h10, h11⟩ := bnd h8
    refine G1_calli X (As := [.int v6, .int v1, .int 1]) (rest := [.int 1]) (wr := []) (ws' := [(h, .inr (6, [.ref h_s, .ref h_aside, .ref h_before, .ref h_past, .int i_h_known, .ref h_text, .int i_h_length, .ref h_lost, .int i_h_losts, .int i_h_bestOrder, .int i_h_bestMany, .int i_h_spot, .int i_h_begin, .int i_h_isForm, .int i_h_letter, .ref h_tells, .int i_h_faultReason, .int i_h_faultCause])), (h_s, .inl (cI, 703, .inl f_h_s))]) dX6_heard_25 pkX6_echo gX6_heard_X6_echo (kkX6_echo l D cI cR h h_s h_aside h_before h_past h_text h_lost h_tells i_h_known i_h_length i_h_losts i_h_bestOrder i_h_bestMany i_h_spot i_h_begin i_h_isForm i_h_letter i_h_faultReason i_h_faultCause f_h_s v6 v1 1 v9 h10) ⟨rfl, rfl⟩ ⟨Nat.le_of_ble_eq_true rfl, Nat.le_of_ble_eq_true rfl⟩ rfl rfl (Nat.le_of_ble_eq_true rfl) 0 rfl rfl [0, 1] [] rfl rfl ⟨rfl, rfl, by decide⟩ ⟨Nat.zero_le _, Nat.zero_le _⟩ [0, 1] rfl rfl ?_
    refine G_iadd X dX6_heard_28 ?_
    cases h11
    exact rt _ _ _ _ dX6_heard_29 ⟨rfl, rfl⟩
  · have h12 := ifn h4 h3
    refine G_iconst X (v := 0) dX6_heard_11 (by decide) ?_
    refine G_goto X (tgt := 29) dX6_heard_12 (by decide) ?_
    cases h12
    exact rt _ _ _ _ dX6_heard_29 ⟨rfl, rfl⟩
def rmX6_heardAge : Room := { frames := 5, cells := 0, slots := 0, locals := 113 }
theorem pkX6_heardAge : cK yX6_heardAge wsX6_heardAge cX6_heardAge 4 (some .int) 2 RX6 := ⟨⟨_, rfl⟩, by decide +kernel⟩
theorem flX6_heardAge_51 : Cond.constant RX6 51 (-1000004) ∈ wsX6_heardAge := by decide +kernel
set_option maxHeartbeats 4000000 in
set_option maxRecDepth 100000 in
theorem kkX6_heardAge (l : Launch) (D : va_G) (cI cR : ClassId) (h h_s h_aside h_before h_past h_text h_lost h_tells : Nat) (i_h_known : Int32) (i_h_length : Int32) (i_h_losts : Int32) (i_h_bestOrder : Int32) (i_h_bestMany : Int32) (i_h_spot : Int32) (i_h_begin : Int32) (i_h_isForm : Int32) (i_h_letter : Int32) (i_h_faultReason : Int32) (i_h_faultCause : Int32) (f_h_s : Nat → Int32) (x0 : Int32) (x1 : Int32) (z : Int32) (hz : MX6_heardAge f_h_s x0 x1 = some z) : cI1 l yX6_heardAge wsX6_heardAge rmX6_heardAge D cI cR [.ref h, .int x0, .int x1] [(h, .inr (6, [.ref h_s, .ref h_aside, .ref h_before, .ref h_past, .int i_h_known, .ref h_text, .int i_h_length, .ref h_lost, .int i_h_losts, .int i_h_bestOrder, .int i_h_bestMany, .int i_h_spot, .int i_h_begin, .int i_h_isForm, .int i_h_letter, .ref h_tells, .int i_h_faultReason, .int i_h_faultCause])), (h_s, .inl (cI, 703, .inl f_h_s))] z [(h, .inr (6, [.ref h_s, .ref h_aside, .ref h_before, .ref h_past, .int i_h_known, .ref h_text, .int i_h_length, .ref h_lost, .int i_h_losts, .int i_h_bestOrder, .int i_h_bestMany, .int i_h_spot, .int i_h_begin, .int i_h_isForm, .int i_h_letter, .ref h_tells, .int i_h_faultReason, .int i_h_faultCause])), (h_s, .inl (cI, 703, .inl f_h_s))] := by
  unfold MX6_heardAge at hz
  refine kI_of (cc := cX6_heardAge) (maxL := 4) (own := RX6) (by decide +kernel) rfl rfl (Nat.le_of_ble_eq_true rfl) (lv0 := [(0, .ref h), (1, .int x0), (2, .int x1)]) rfl (fun p e s m args below meth c A Q X rt => ?_)
  refine G_aload_n X dX6_heardAge_0 0 rfl ?_
  refine G_iload_n X dX6_heardAge_1 1 rfl ?_
  refine G_iload_n X dX6_heardAge_2 2 rfl ?_
  obtain ⟨v1, h2, h3⟩ := bnd hz
  refine G1_calli X (As := [.int x0, .int x1]) (rest := []) (wr := []) (ws' := [(h, .inr (6, [.ref h_s, .ref h_aside, .ref h_before, .ref h_past, .int i_h_known, .ref h_text, .int i_h_length, .ref h_lost, .int i_h_losts, .int i_h_bestOrder, .int i_h_bestMany, .int i_h_spot, .int i_h_begin, .int i_h_isForm, .int i_h_letter, .ref h_tells, .int i_h_faultReason, .int i_h_faultCause])), (h_s, .inl (cI, 703, .inl f_h_s))]) dX6_heardAge_3 pkX6_told gX6_heardAge_X6_told (kkX6_told l D cI cR h h_s h_aside h_before h_past h_text h_lost h_tells i_h_known i_h_length i_h_losts i_h_bestOrder i_h_bestMany i_h_spot i_h_begin i_h_isForm i_h_letter i_h_faultReason i_h_faultCause f_h_s x0 x1 v1 h2) ⟨rfl, rfl⟩ ⟨Nat.le_of_ble_eq_true rfl, Nat.le_of_ble_eq_true rfl⟩ rfl rfl (Nat.le_of_ble_eq_true rfl) 0 rfl rfl [0, 1] [] rfl rfl ⟨rfl, rfl, by decide⟩ ⟨Nat.zero_le _, Nat.zero_le _⟩ [0, 1] rfl rfl ?_
  refine G_istore_n X (lv' := [(3, .int v1), (0, .ref h), (1, .int x0), (2, .int x1)]) dX6_heardAge_6 (by decide) rfl ?_
  refine G_iload_n X dX6_heardAge_7 0 rfl ?_
  refine G_if_ge X (tgt := 16) dX6_heardAge_8 (by decide) (fun h4 => ?_) (fun h4 => ?_)
  · have h5 := ifp h4 h3
    refine G_aload_n X dX6_heardAge_16 1 rfl ?_
    refine G_aload_n X dX6_heardAge_17 1 rfl ?_
    refine G_iload_n X dX6_heardAge_18 2 rfl ?_
    refine G_iload_n X dX6_heardAge_19 3 rfl ?_
    obtain ⟨v6, h7, h8⟩ := bnd h5
    refine G1_calli X (As := [.int x0, .int x1]) (rest := [.ref h]) (wr := []) (ws' := [(h, .inr (6, [.ref h_s, .ref h_aside, .ref h_before, .ref h_past, .int i_h_known, .ref h_text, .int i_h_length, .ref h_lost, .int i_h_losts, .int i_h_bestOrder, .int i_h_bestMany, .int i_h_spot, .int i_h_begin, .int i_h_isForm, .int i_h_letter, .ref h_tells, .int i_h_faultReason, .int i_h_faultCause])), (h_s, .inl (cI, 703, .inl f_h_s))]) dX6_heardAge_20 pkX6_bearer gX6_heardAge_X6_bearer (kkX6_bearer l D cI cR h h_s h_aside h_before h_past h_text h_lost h_tells i_h_known i_h_length i_h_losts i_h_bestOrder i_h_bestMany i_h_spot i_h_begin i_h_isForm i_h_letter i_h_faultReason i_h_faultCause f_h_s x0 x1 v6 h7) ⟨rfl, rfl⟩ ⟨Nat.le_of_ble_eq_true rfl, Nat.le_of_ble_eq_true rfl⟩ rfl rfl (Nat.le_of_ble_eq_true rfl) 0 rfl rfl [0, 1] [] rfl rfl ⟨rfl, rfl, by decide⟩ ⟨Nat.zero_le _, Nat.zero_le _⟩ [0, 1] rfl rfl ?_
    refine G_iload_n X dX6_heardAge_23 0 rfl ?_
    obtain ⟨v9, h10, h11⟩ := bnd h8
    refine G1_calli X (As := [.int v6, .int v1]) (rest := []) (wr := []) (ws' := [(h, .inr (6, [.ref h_s, .ref h_aside, .ref h_before, .ref h_past, .int i_h_known, .ref h_text, .int i_h_length, .ref h_lost, .int i_h_losts, .int i_h_bestOrder, .int i_h_bestMany, .int i_h_spot, .int i_h_begin, .int i_h_isForm, .int i_h_letter, .ref h_tells, .int i_h_faultReason, .int i_h_faultCause])), (h_s, .inl (cI, 703, .inl f_h_s))]) dX6_heardAge_24 pkX6_age gX6_heardAge_X6_age (kkX6_age l D cI cR h h_s h_aside h_before h_past h_text h_lost h_tells i_h_known i_h_length i_h_losts i_h_bestOrder i_h_bestMany i_h_spot i_h_begin i_h_isForm i_h_letter i_h_faultReason i_h_faultCause f_h_s v6 v1 v9 h10) ⟨rfl, rfl⟩ ⟨Nat.le_of_ble_eq_true rfl, Nat.le_of_ble_eq_true rfl⟩ rfl rfl (Nat.le_of_ble_eq_true rfl) 0 rfl rfl [0, 1] [] rfl rfl ⟨rfl, rfl, by decide⟩ ⟨Nat.zero_le _, Nat.zero_le _⟩ [0, 1] rfl rfl ?_
    cases h11
    exact rt _ _ _ _ dX6_heardAge_27 ⟨rfl, rfl⟩
  · have h12 := ifn h4 h3
    refine G_ldc X dX6_heardAge_11 flX6_heardAge_51 ?_
    refine G_goto X (tgt := 27) dX6_heardAge_13 (by decide) ?_
    cases h12
    exact rt _ _ _ _ dX6_heardAge_27 ⟨rfl, rfl⟩
def rmX6_back : Room := { frames := 6, cells := 0, slots := 0, locals := 136 }
theorem pkX6_back : cK yX6_back wsX6_back cX6_back 5 (some .int) 1 RX6 := ⟨⟨_, rfl⟩, by decide +kernel⟩
set_option maxHeartbeats 4000000 in
set_option maxRecDepth 100000 in
theorem kkX6_back (l : Launch) (D : va_G) (cI cR : ClassId) (h h_s h_aside h_before h_past h_text h_lost h_tells : Nat) (i_h_known : Int32) (i_h_length : Int32) (i_h_losts : Int32) (i_h_bestOrder : Int32) (i_h_bestMany : Int32) (i_h_spot : Int32) (i_h_begin : Int32) (i_h_isForm : Int32) (i_h_letter : Int32) (i_h_faultReason : Int32) (i_h_faultCause : Int32) (f_h_s : Nat → Int32) (x0 : Int32) (z : Int32) (hz : MX6_back f_h_s x0 = some z) : cI1 l yX6_back wsX6_back rmX6_back D cI cR [.ref h, .int x0] [(h, .inr (6, [.ref h_s, .ref h_aside, .ref h_before, .ref h_past, .int i_h_known, .ref h_text, .int i_h_length, .ref h_lost, .int i_h_losts, .int i_h_bestOrder, .int i_h_bestMany, .int i_h_spot, .int i_h_begin, .int i_h_isForm, .int i_h_letter, .ref h_tells, .int i_h_faultReason, .int i_h_faultCause])), (h_s, .inl (cI, 703, .inl f_h_s))] z [(h, .inr (6, [.ref h_s, .ref h_aside, .ref h_before, .ref h_past, .int i_h_known, .ref h_text, .int i_h_length, .ref h_lost, .int i_h_losts, .int i_h_bestOrder, .int i_h_bestMany, .int i_h_spot, .int i_h_begin, .int i_h_isForm, .int i_h_letter, .ref h_tells, .int i_h_faultReason, .int i_h_faultCause])), (h_s, .inl (cI, 703, .inl f_h_s))] := by
  unfold MX6_back at hz
  refine kI_of (cc := cX6_back) (maxL := 5) (own := RX6) (by decide +kernel) rfl rfl (Nat.le_of_ble_eq_true rfl) (lv0 := [(0, .ref h), (1, .int x0)]) rfl (fun p e s m args below meth c A Q X rt => ?_)
  refine G_iconst X (v := 0) dX6_back_0 (by decide) ?_
  refine G_istore_n X (lv' := [(2, .int 0), (0, .ref h), (1, .int x0)]) dX6_back_1 (by decide) rfl ?_
  refine G_aload_n X dX6_back_2 1 rfl ?_
  refine G_iload_n X dX6_back_3 2 rfl ?_
  obtain ⟨v1, h2, h3⟩ := bnd hz
  refine G1_calli X (As := [.int x0]) (rest := []) (wr := []) (ws' := [(h, .inr (6, [.ref h_s, .ref h_aside, .ref h_before, .ref h_past, .int i_h_known, .ref h_text, .int i_h_length, .ref h_lost, .int i_h_losts, .int i_h_bestOrder, .int i_h_bestMany, .int i_h_spot, .int i_h_begin, .int i_h_isForm, .int i_h_letter, .ref h_tells, .int i_h_faultReason, .int i_h_faultCause])), (h_s, .inl (cI, 703, .inl f_h_s))]) dX6_back_4 pkX6_lives gX6_back_X6_lives (kkX6_lives l D cI cR h h_s h_aside h_before h_past h_text h_lost h_tells i_h_known i_h_length i_h_losts i_h_bestOrder i_h_bestMany i_h_spot i_h_begin i_h_isForm i_h_letter i_h_faultReason i_h_faultCause f_h_s x0 v1 h2) ⟨rfl, rfl⟩ ⟨Nat.le_of_ble_eq_true rfl, Nat.le_of_ble_eq_true rfl⟩ rfl rfl (Nat.le_of_ble_eq_true rfl) 0 rfl rfl [0, 1] [] rfl rfl ⟨rfl, rfl, by decide⟩ ⟨Nat.zero_le _, Nat.zero_le _⟩ [0, 1] rfl rfl ?_
  obtain ⟨j4, h5, h6⟩ := bnd h3
  have J7 : G p l e rmX6_back s m args below meth c D A 5 Q 0 0 16 [(0, .ref h), (1, .int x0), (2, .int 0)] [.int j4] [(h, .inr (6, [.ref h_s, .ref h_aside, .ref h_before, .ref h_past, .int i_h_known, .ref h_text, .int i_h_length, .ref h_lost, .int i_h_losts, .int i_h_bestOrder, .int i_h_bestMany, .int i_h_spot, .int i_h_begin, .int i_h_isForm, .int i_h_letter, .ref h_tells, .int i_h_faultReason, .int i_h_faultCause])), (h_s, .inl (cI, 703, .inl f_h_s))] := by
    refine G_istore_n X (lv' := [(3, .int j4), (0, .ref h), (1, .int x0), (2, .int 0)]) dX6_back_16 (by decide) rfl ?_
    refine G_iconst X (v := 0) dX6_back_17 (by decide) ?_
    refine G_istore X (lv' := [(4, .int 0), (3, .int j4), (0, .ref h), (1, .int x0), (2, .int 0)]) dX6_back_18 (by decide) rfl ?_
    obtain ⟨j9, h10, h11⟩ := bnd h6
    have J16 : G p l e rmX6_back s m args below meth c D A 5 Q 0 0 72 [(2, .int j9)] [] [(h, .inr (6, [.ref h_s, .ref h_aside, .ref h_before, .ref h_past, .int i_h_known, .ref h_text, .int i_h_length, .ref h_lost, .int i_h_losts, .int i_h_bestOrder, .int i_h_bestMany, .int i_h_spot, .int i_h_begin, .int i_h_isForm, .int i_h_letter, .ref h_tells, .int i_h_faultReason, .int i_h_faultCause])), (h_s, .inl (cI, 703, .inl f_h_s))] := by
      refine G_iload_n X dX6_back_72 0 rfl ?_
      cases h11
      exact rt _ _ _ _ dX6_back_73 ⟨rfl, rfl⟩
    refine G_lv [2, 3, 4, 1, 0] rfl ?_
    refine itr_ind (P := fun s8 : (Int32 × Int32) => G p l e rmX6_back s m args below meth c D A 5 Q 0 0 20 [(0, .ref h), (1, .int x0), (2, .int s8.1), (3, .int j4), (4, .int s8.2)] [] [(h, .inr (6, [.ref h_s, .ref h_aside, .ref h_before, .ref h_past, .int i_h_known, .ref h_text, .int i_h_length, .ref h_lost, .int i_h_losts, .int i_h_bestOrder, .int i_h_bestMany, .int i_h_spot, .int i_h_begin, .int i_h_isForm, .int i_h_letter, .ref h_tells, .int i_h_faultReason, .int i_h_faultCause])), (h_s, .inl (cI, 703, .inl f_h_s))]) (fun s8 o15 h12 h13 h14 => ?_) FU _ h10
    unfold SX6_back_20 at h12
    refine G_iload X dX6_back_20 4 rfl ?_
    refine G_bipush X (v := 8) dX6_back_22 (by decide) ?_
    refine G_icmp_ge X (tgt := 72) dX6_back_24 (by decide) (fun h18 => ?_) (fun h18 => ?_)
    · have h19 := ifp h18 h12
      cases h19
      have h20 := h14 _ rfl
      subst h20
      exact G_lv [2] rfl (J16)
    · have h21 := ifn h18 h12
      refine G_iload_n X dX6_back_27 2 rfl ?_
      refine G_aload_n X dX6_back_28 0 rfl ?_
      refine G_iload_n X dX6_back_29 1 rfl ?_
      refine G_iload_n X dX6_back_30 3 rfl ?_
      refine G_iload X dX6_back_31 4 rfl ?_
      refine G_iadd X dX6_back_33 ?_
      obtain ⟨v22, h23, h24⟩ := bnd h21
      refine G1_calli X (As := [.int x0, .int (j4 + s8.2)]) (rest := [.int s8.1]) (wr := []) (ws' := [(h, .inr (6, [.ref h_s, .ref h_aside, .ref h_before, .ref h_past, .int i_h_known, .ref h_text, .int i_h_length, .ref h_lost, .int i_h_losts, .int i_h_bestOrder, .int i_h_bestMany, .int i_h_spot, .int i_h_begin, .int i_h_isForm, .int i_h_letter, .ref h_tells, .int i_h_faultReason, .int i_h_faultCause])), (h_s, .inl (cI, 703, .inl f_h_s))]) dX6_back_34 pkX6_of gX6_back_X6_of (kkX6_of l D cI cR h h_s h_aside h_before h_past h_text h_lost h_tells i_h_known i_h_length i_h_losts i_h_bestOrder i_h_bestMany i_h_spot i_h_begin i_h_isForm i_h_letter i_h_faultReason i_h_faultCause f_h_s x0 (j4 + s8.2) v22 h23) ⟨rfl, rfl⟩ ⟨Nat.le_of_ble_eq_true rfl, Nat.le_of_ble_eq_true rfl⟩ rfl rfl (Nat.le_of_ble_eq_true rfl) 0 rfl rfl [0, 1] [] rfl rfl ⟨rfl, rfl, by decide⟩ ⟨Nat.zero_le _, Nat.zero_le _⟩ [0, 1] rfl rfl ?_
      refine G_if_le X (tgt := 63) dX6_back_37 (by decide) (fun h25 => ?_) (fun h25 => ?_)
      · have h26 := ifp h25 h24
        refine G_iconst X (v := 0) dX6_back_63 (by decide) ?_
        refine G_iadd X dX6_back_64 ?_
        refine G_istore_n X (lv' := [(2, .int (s8.1 + 0)), (0, .ref h), (1, .int x0), (3, .int j4), (4, .int s8.2)]) dX6_back_65 (by decide) rfl ?_
        refine G_iinc X (v := (s8.2 + 1)) (lv' := [(4, .int (s8.2 + 1)), (2, .int (s8.1 + 0)), (0, .ref h), (1, .int x0), (3, .int j4)]) dX6_back_66 4 rfl rfl (by decide) rfl ?_
        refine G_goto X (tgt := 20) dX6_back_69 (by decide) ?_
        cases h26
        exact G_lv [2, 3, 1, 4, 0] rfl (h13 _ rfl)
      · have h27 := ifn h25 h24
        refine G_aload_n X dX6_back_40 0 rfl ?_
        refine G_iload_n X dX6_back_41 1 rfl ?_
        refine G_iload X dX6_back_42 4 rfl ?_
        obtain ⟨v28, h29, h30⟩ := bnd h27
        refine G1_calli X (As := [.int x0, .int s8.2]) (rest := [.int s8.1]) (wr := []) (ws' := [(h, .inr (6, [.ref h_s, .ref h_aside, .ref h_before, .ref h_past, .int i_h_known, .ref h_text, .int i_h_length, .ref h_lost, .int i_h_losts, .int i_h_bestOrder, .int i_h_bestMany, .int i_h_spot, .int i_h_begin, .int i_h_isForm, .int i_h_letter, .ref h_tells, .int i_h_faultReason, .int i_h_faultCause])), (h_s, .inl (cI, 703, .inl f_h_s))]) dX6_back_44 pkX6_heard gX6_back_X6_heard (kkX6_heard l D cI cR h h_s h_aside h_before h_past h_text h_lost h_tells i_h_known i_h_length i_h_losts i_h_bestOrder i_h_bestMany i_h_spot i_h_begin i_h_isForm i_h_letter i_h_faultReason i_h_faultCause f_h_s x0 s8.2 v28 h29) ⟨rfl, rfl⟩ ⟨Nat.le_of_ble_eq_true rfl, Nat.le_of_ble_eq_true rfl⟩ rfl rfl (Nat.le_of_ble_eq_true rfl) 0 rfl rfl [0, 1] [] rfl rfl ⟨rfl, rfl, by decide⟩ ⟨Nat.zero_le _, Nat.zero_le _⟩ [0, 1] rfl rfl ?_
        refine G_aload_n X dX6_back_47 0 rfl ?_
        refine G_iload_n X dX6_back_48 1 rfl ?_
        refine G_iload_n X dX6_back_49 3 rfl ?_
        refine G_iload X dX6_back_50 4 rfl ?_
        refine G_iadd X dX6_back_52 ?_
        obtain ⟨v31, h32, h33⟩ := bnd h30
        refine G1_calli X (As := [.int x0, .int (j4 + s8.2)]) (rest := [.int v28, .int s8.1]) (wr := []) (ws' := [(h, .inr (6, [.ref h_s, .ref h_aside, .ref h_before, .ref h_past, .int i_h_known, .ref h_text, .int i_h_length, .ref h_lost, .int i_h_losts, .int i_h_bestOrder, .int i_h_bestMany, .int i_h_spot, .int i_h_begin, .int i_h_isForm, .int i_h_letter, .ref h_tells, .int i_h_faultReason, .int i_h_faultCause])), (h_s, .inl (cI, 703, .inl f_h_s))]) dX6_back_53 pkX6_of gX6_back_X6_of (kkX6_of l D cI cR h h_s h_aside h_before h_past h_text h_lost h_tells i_h_known i_h_length i_h_losts i_h_bestOrder i_h_bestMany i_h_spot i_h_begin i_h_isForm i_h_letter i_h_faultReason i_h_faultCause f_h_s x0 (j4 + s8.2) v31 h32) ⟨rfl, rfl⟩ ⟨Nat.le_of_ble_eq_true rfl, Nat.le_of_ble_eq_true rfl⟩ rfl rfl (Nat.le_of_ble_eq_true rfl) 0 rfl rfl [0, 1] [] rfl rfl ⟨rfl, rfl, by decide⟩ ⟨Nat.zero_le _, Nat.zero_le _⟩ [0, 1] rfl rfl ?_
        refine G_icmp_ne X (tgt := 63) dX6_back_56 (by decide) (fun h34 => ?_) (fun h34 => ?_)
        · have h35 := ifp h34 h33
          refine G_iconst X (v := 1) dX6_back_59 (by decide) ?_
          refine G_goto X (tgt := 64) dX6_back_60 (by decide) ?_
          refine G_iadd X dX6_back_64 ?_
          refine G_istore_n X (lv' := [(2, .int (s8.1 + 1)), (0, .ref h), (1, .int x0), (3, .int j4), (4, .int s8.2)]) dX6_back_65 (by decide) rfl ?_
          refine G_iinc X (v := (s8.2 + 1)) (lv' := [(4, .int (s8.2 + 1)), (2, .int (s8.1 + 1)), (0, .ref h), (1, .int x0), (3, .int j4)]) dX6_back_66 4 rfl rfl (by decide) rfl ?_
          refine G_goto X (tgt := 20) dX6_back_69 (by decide) ?_
          cases h35
          exact G_lv [2, 3, 1, 4, 0] rfl (h13 _ rfl)
        · have h36 := ifn h34 h33
          refine G_iconst X (v := 0) dX6_back_63 (by decide) ?_
          refine G_iadd X dX6_back_64 ?_
          refine G_istore_n X (lv' := [(2, .int (s8.1 + 0)), (0, .ref h), (1, .int x0), (3, .int j4), (4, .int s8.2)]) dX6_back_65 (by decide) rfl ?_
          refine G_iinc X (v := (s8.2 + 1)) (lv' := [(4, .int (s8.2 + 1)), (2, .int (s8.1 + 0)), (0, .ref h), (1, .int x0), (3, .int j4)]) dX6_back_66 4 rfl rfl (by decide) rfl ?_
          refine G_goto X (tgt := 20) dX6_back_69 (by decide) ?_
          cases h36
          exact G_lv [2, 3, 1, 4, 0] rfl (h13 _ rfl)
  refine G_if_eq X (tgt := 14) dX6_back_7 (by decide) (fun h37 => ?_) (fun h37 => ?_)
  · have h38 := ifp h37 h5
    refine G_bipush X (v := 13) dX6_back_14 (by decide) ?_
    cases h38
    exact G_lv [1, 2, 0] rfl (J7)
  · have h39 := ifn h37 h5
    refine G_iconst X (v := 5) dX6_back_10 (by decide) ?_
    refine G_goto X (tgt := 16) dX6_back_11 (by decide) ?_
    cases h39
    exact G_lv [1, 2, 0] rfl (J7)
def rmX6_wrongs : Room := { frames := 6, cells := 0, slots := 0, locals := 136 }
theorem pkX6_wrongs : cK yX6_wrongs wsX6_wrongs cX6_wrongs 4 (some .int) 1 RX6 := ⟨⟨_, rfl⟩, by decide +kernel⟩
set_option maxHeartbeats 4000000 in
set_option maxRecDepth 100000 in
theorem kkX6_wrongs (l : Launch) (D : va_G) (cI cR : ClassId) (h h_s h_aside h_before h_past h_text h_lost h_tells : Nat) (i_h_known : Int32) (i_h_length : Int32) (i_h_losts : Int32) (i_h_bestOrder : Int32) (i_h_bestMany : Int32) (i_h_spot : Int32) (i_h_begin : Int32) (i_h_isForm : Int32) (i_h_letter : Int32) (i_h_faultReason : Int32) (i_h_faultCause : Int32) (f_h_s : Nat → Int32) (x0 : Int32) (z : Int32) (hz : MX6_wrongs f_h_s x0 = some z) : cI1 l yX6_wrongs wsX6_wrongs rmX6_wrongs D cI cR [.ref h, .int x0] [(h, .inr (6, [.ref h_s, .ref h_aside, .ref h_before, .ref h_past, .int i_h_known, .ref h_text, .int i_h_length, .ref h_lost, .int i_h_losts, .int i_h_bestOrder, .int i_h_bestMany, .int i_h_spot, .int i_h_begin, .int i_h_isForm, .int i_h_letter, .ref h_tells, .int i_h_faultReason, .int i_h_faultCause])), (h_s, .inl (cI, 703, .inl f_h_s))] z [(h, .inr (6, [.ref h_s, .ref h_aside, .ref h_before, .ref h_past, .int i_h_known, .ref h_text, .int i_h_length, .ref h_lost, .int i_h_losts, .int i_h_bestOrder, .int i_h_bestMany, .int i_h_spot, .int i_h_begin, .int i_h_isForm, .int i_h_letter, .ref h_tells, .int i_h_faultReason, .int i_h_faultCause])), (h_s, .inl (cI, 703, .inl f_h_s))] := by
  unfold MX6_wrongs at hz
  refine kI_of (cc := cX6_wrongs) (maxL := 4) (own := RX6) (by decide +kernel) rfl rfl (Nat.le_of_ble_eq_true rfl) (lv0 := [(0, .ref h), (1, .int x0)]) rfl (fun p e s m args below meth c A Q X rt => ?_)
  refine G_iconst X (v := 0) dX6_wrongs_0 (by decide) ?_
  refine G_istore_n X (lv' := [(2, .int 0), (0, .ref h), (1, .int x0)]) dX6_wrongs_1 (by decide) rfl ?_
  refine G_iconst X (v := 0) dX6_wrongs_2 (by decide) ?_
  refine G_istore_n X (lv' := [(3, .int 0), (2, .int 0), (0, .ref h), (1, .int x0)]) dX6_wrongs_3 (by decide) rfl ?_
  obtain ⟨j2, h3, h4⟩ := bnd hz
  have J9 : G p l e rmX6_wrongs s m args below meth c D A 4 Q 0 0 51 [(2, .int j2)] [] [(h, .inr (6, [.ref h_s, .ref h_aside, .ref h_before, .ref h_past, .int i_h_known, .ref h_text, .int i_h_length, .ref h_lost, .int i_h_losts, .int i_h_bestOrder, .int i_h_bestMany, .int i_h_spot, .int i_h_begin, .int i_h_isForm, .int i_h_letter, .ref h_tells, .int i_h_faultReason, .int i_h_faultCause])), (h_s, .inl (cI, 703, .inl f_h_s))] := by
    refine G_iload_n X dX6_wrongs_51 0 rfl ?_
    cases h4
    exact rt _ _ _ _ dX6_wrongs_52 ⟨rfl, rfl⟩
  refine G_lv [2, 3, 1, 0] rfl ?_
  refine itr_ind (P := fun s1 : (Int32 × Int32) => G p l e rmX6_wrongs s m args below meth c D A 4 Q 0 0 4 [(0, .ref h), (1, .int x0), (2, .int s1.1), (3, .int s1.2)] [] [(h, .inr (6, [.ref h_s, .ref h_aside, .ref h_before, .ref h_past, .int i_h_known, .ref h_text, .int i_h_length, .ref h_lost, .int i_h_losts, .int i_h_bestOrder, .int i_h_bestMany, .int i_h_spot, .int i_h_begin, .int i_h_isForm, .int i_h_letter, .ref h_tells, .int i_h_faultReason, .int i_h_faultCause])), (h_s, .inl (cI, 703, .inl f_h_s))]) (fun s1 o8 h5 h6 h7 => ?_) FU _ h3
  unfold SX6_wrongs_4 at h5
  refine G_iload_n X dX6_wrongs_4 3 rfl ?_
  refine G_bipush X (v := 8) dX6_wrongs_5 (by decide) ?_
  refine G_icmp_ge X (tgt := 51) dX6_wrongs_7 (by decide) (fun h11 => ?_) (fun h11 => ?_)
  · have h12 := ifp h11 h5
    cases h12
    have h13 := h7 _ rfl
    subst h13
    exact G_lv [2] rfl (J9)
  · have h14 := ifn h11 h5
    refine G_iload_n X dX6_wrongs_10 2 rfl ?_
    refine G_aload_n X dX6_wrongs_11 0 rfl ?_
    refine G_iload_n X dX6_wrongs_12 1 rfl ?_
    refine G_iload_n X dX6_wrongs_13 3 rfl ?_
    obtain ⟨v15, h16, h17⟩ := bnd h14
    refine G1_calli X (As := [.int x0, .int s1.2]) (rest := [.int s1.1]) (wr := []) (ws' := [(h, .inr (6, [.ref h_s, .ref h_aside, .ref h_before, .ref h_past, .int i_h_known, .ref h_text, .int i_h_length, .ref h_lost, .int i_h_losts, .int i_h_bestOrder, .int i_h_bestMany, .int i_h_spot, .int i_h_begin, .int i_h_isForm, .int i_h_letter, .ref h_tells, .int i_h_faultReason, .int i_h_faultCause])), (h_s, .inl (cI, 703, .inl f_h_s))]) dX6_wrongs_14 pkX6_heard gX6_wrongs_X6_heard (kkX6_heard l D cI cR h h_s h_aside h_before h_past h_text h_lost h_tells i_h_known i_h_length i_h_losts i_h_bestOrder i_h_bestMany i_h_spot i_h_begin i_h_isForm i_h_letter i_h_faultReason i_h_faultCause f_h_s x0 s1.2 v15 h16) ⟨rfl, rfl⟩ ⟨Nat.le_of_ble_eq_true rfl, Nat.le_of_ble_eq_true rfl⟩ rfl rfl (Nat.le_of_ble_eq_true rfl) 0 rfl rfl [0, 1] [] rfl rfl ⟨rfl, rfl, by decide⟩ ⟨Nat.zero_le _, Nat.zero_le _⟩ [0, 1] rfl rfl ?_
    refine G_if_le X (tgt := 42) dX6_wrongs_17 (by decide) (fun h18 => ?_) (fun h18 => ?_)
    · have h19 := ifp h18 h17
      refine G_iconst X (v := 0) dX6_wrongs_42 (by decide) ?_
      refine G_iadd X dX6_wrongs_43 ?_
      refine G_istore_n X (lv' := [(2, .int (s1.1 + 0)), (0, .ref h), (1, .int x0), (3, .int s1.2)]) dX6_wrongs_44 (by decide) rfl ?_
      refine G_iinc X (v := (s1.2 + 1)) (lv' := [(3, .int (s1.2 + 1)), (2, .int (s1.1 + 0)), (0, .ref h), (1, .int x0)]) dX6_wrongs_45 3 rfl rfl (by decide) rfl ?_
      refine G_goto X (tgt := 4) dX6_wrongs_48 (by decide) ?_
      cases h19
      exact G_lv [2, 3, 1, 0] rfl (h6 _ rfl)
    · have h20 := ifn h18 h17
      refine G_aload_n X dX6_wrongs_20 0 rfl ?_
      refine G_iload_n X dX6_wrongs_21 1 rfl ?_
      refine G_iload_n X dX6_wrongs_22 3 rfl ?_
      obtain ⟨v21, h22, h23⟩ := bnd h20
      refine G1_calli X (As := [.int x0, .int s1.2]) (rest := [.int s1.1]) (wr := []) (ws' := [(h, .inr (6, [.ref h_s, .ref h_aside, .ref h_before, .ref h_past, .int i_h_known, .ref h_text, .int i_h_length, .ref h_lost, .int i_h_losts, .int i_h_bestOrder, .int i_h_bestMany, .int i_h_spot, .int i_h_begin, .int i_h_isForm, .int i_h_letter, .ref h_tells, .int i_h_faultReason, .int i_h_faultCause])), (h_s, .inl (cI, 703, .inl f_h_s))]) dX6_wrongs_23 pkX6_heard gX6_wrongs_X6_heard (kkX6_heard l D cI cR h h_s h_aside h_before h_past h_text h_lost h_tells i_h_known i_h_length i_h_losts i_h_bestOrder i_h_bestMany i_h_spot i_h_begin i_h_isForm i_h_letter i_h_faultReason i_h_faultCause f_h_s x0 s1.2 v21 h22) ⟨rfl, rfl⟩ ⟨Nat.le_of_ble_eq_true rfl, Nat.le_of_ble_eq_true rfl⟩ rfl rfl (Nat.le_of_ble_eq_true rfl) 0 rfl rfl [0, 1] [] rfl rfl ⟨rfl, rfl, by decide⟩ ⟨Nat.zero_le _, Nat.zero_le _⟩ [0, 1] rfl rfl ?_
      refine G_aload_n X dX6_wrongs_26 0 rfl ?_
      refine G_iload_n X dX6_wrongs_27 1 rfl ?_
      refine G_bipush X (v := 13) dX6_wrongs_28 (by decide) ?_
      refine G_iload_n X dX6_wrongs_30 3 rfl ?_
      refine G_iadd X dX6_wrongs_31 ?_
      obtain ⟨v24, h25, h26⟩ := bnd h23
      refine G1_calli X (As := [.int x0, .int (13 + s1.2)]) (rest := [.int v21, .int s1.1]) (wr := []) (ws' := [(h, .inr (6, [.ref h_s, .ref h_aside, .ref h_before, .ref h_past, .int i_h_known, .ref h_text, .int i_h_length, .ref h_lost, .int i_h_losts, .int i_h_bestOrder, .int i_h_bestMany, .int i_h_spot, .int i_h_begin, .int i_h_isForm, .int i_h_letter, .ref h_tells, .int i_h_faultReason, .int i_h_faultCause])), (h_s, .inl (cI, 703, .inl f_h_s))]) dX6_wrongs_32 pkX6_of gX6_wrongs_X6_of (kkX6_of l D cI cR h h_s h_aside h_before h_past h_text h_lost h_tells i_h_known i_h_length i_h_losts i_h_bestOrder i_h_bestMany i_h_spot i_h_begin i_h_isForm i_h_letter i_h_faultReason i_h_faultCause f_h_s x0 (13 + s1.2) v24 h25) ⟨rfl, rfl⟩ ⟨Nat.le_of_ble_eq_true rfl, Nat.le_of_ble_eq_true rfl⟩ rfl rfl (Nat.le_of_ble_eq_true rfl) 0 rfl rfl [0, 1] [] rfl rfl ⟨rfl, rfl, by decide⟩ ⟨Nat.zero_le _, Nat.zero_le _⟩ [0, 1] rfl rfl ?_
      refine G_icmp_eq X (tgt := 42) dX6_wrongs_35 (by decide) (fun h27 => ?_) (fun h27 => ?_)
      · have h28 := ifp h27 h26
        refine G_iconst X (v := 0) dX6_wrongs_42 (by decide) ?_
        refine G_iadd X dX6_wrongs_43 ?_
        refine G_istore_n X (lv' := [(2, .int (s1.1 + 0)), (0, .ref h), (1, .int x0), (3, .int s1.2)]) dX6_wrongs_44 (by decide) rfl ?_
        refine G_iinc X (v := (s1.2 + 1)) (lv' := [(3, .int (s1.2 + 1)), (2, .int (s1.1 + 0)), (0, .ref h), (1, .int x0)]) dX6_wrongs_45 3 rfl rfl (by decide) rfl ?_
        refine G_goto X (tgt := 4) dX6_wrongs_48 (by decide) ?_
        cases h28
        exact G_lv [2, 3, 1, 0] rfl (h6 _ rfl)
      · have h29 := ifn h27 h26
        refine G_iconst X (v := 1) dX6_wrongs_38 (by decide) ?_
        refine G_goto X (tgt := 43) dX6_wrongs_39 (by decide) ?_
        refine G_iadd X dX6_wrongs_43 ?_
        refine G_istore_n X (lv' := [(2, .int (s1.1 + 1)), (0, .ref h), (1, .int x0), (3, .int s1.2)]) dX6_wrongs_44 (by decide) rfl ?_
        refine G_iinc X (v := (s1.2 + 1)) (lv' := [(3, .int (s1.2 + 1)), (2, .int (s1.1 + 1)), (0, .ref h), (1, .int x0)]) dX6_wrongs_45 3 rfl rfl (by decide) rfl ?_
        refine G_goto X (tgt := 4) dX6_wrongs_48 (by decide) ?_
        cases h29
        exact G_lv [2, 3, 1, 0] rfl (h6 _ rfl)
def rmX6_goBegin : Room := { frames := 6, cells := 0, slots := 0, locals := 136 }
theorem pkX6_goBegin : cK yX6_goBegin wsX6_goBegin cX6_goBegin 5 (some .int) 1 RX6 := ⟨⟨_, rfl⟩, by decide +kernel⟩
theorem hiX6_goBegin_X6 : ∀ w ∈ wsX60, w ∈ wsX6_goBegin := by decide +kernel
theorem flX6_goBegin_7 : Cond.fieldLink RX6 7 "EchoMarginsModel" "s" "[I" ∈ wsX6_goBegin := by decide +kernel
set_option maxHeartbeats 4000000 in
set_option maxRecDepth 100000 in
theorem kkX6_goBegin (l : Launch) (D : va_G) (cI cR : ClassId) (h h_s h_aside h_before h_past h_text h_lost h_tells : Nat) (i_h_known : Int32) (i_h_length : Int32) (i_h_losts : Int32) (i_h_bestOrder : Int32) (i_h_bestMany : Int32) (i_h_spot : Int32) (i_h_begin : Int32) (i_h_isForm : Int32) (i_h_letter : Int32) (i_h_faultReason : Int32) (i_h_faultCause : Int32) (f_h_s : Nat → Int32) (x0 : Int32) (z : (Int32 × (Nat → Int32))) (hz : MX6_goBegin f_h_s x0 = some z) : cI1 l yX6_goBegin wsX6_goBegin rmX6_goBegin D cI cR [.ref h, .int x0] [(h, .inr (6, [.ref h_s, .ref h_aside, .ref h_before, .ref h_past, .int i_h_known, .ref h_text, .int i_h_length, .ref h_lost, .int i_h_losts, .int i_h_bestOrder, .int i_h_bestMany, .int i_h_spot, .int i_h_begin, .int i_h_isForm, .int i_h_letter, .ref h_tells, .int i_h_faultReason, .int i_h_faultCause])), (h_s, .inl (cI, 703, .inl f_h_s))] z.1 [(h, .inr (6, [.ref h_s, .ref h_aside, .ref h_before, .ref h_past, .int i_h_known, .ref h_text, .int i_h_length, .ref h_lost, .int i_h_losts, .int i_h_bestOrder, .int i_h_bestMany, .int i_h_spot, .int i_h_begin, .int i_h_isForm, .int i_h_letter, .ref h_tells, .int i_h_faultReason, .int i_h_faultCause])), (h_s, .inl (cI, 703, .inl z.2))] := by
  unfold MX6_goBegin at hz
  refine kI_of (cc := cX6_goBegin) (maxL := 5) (own := RX6) (by decide +kernel) rfl rfl (Nat.le_of_ble_eq_true rfl) (lv0 := [(0, .ref h), (1, .int x0)]) rfl (fun p e s m args below meth c A Q X rt => ?_)
  refine G_aload_n X dX6_goBegin_0 0 rfl ?_
  refine G_get X (i0 := 0) (ci := 6) (j := 0) (C := RX6) (ref := RX6) (T := TX6) (N := 18) dX6_goBegin_1 rfl rfl hiX6_goBegin_X6 (by decide) flX6_goBegin_7 rfl rfl ?_
  refine G_iconst X (v := 0) dX6_goBegin_4 (by decide) ?_
  refine G_iload_n X dX6_goBegin_5 1 rfl ?_
  obtain ⟨g1, h2, h3⟩ := bnd hz
  refine G_iast X (i0 := 1) (ws' := [(h, .inr (6, [.ref h_s, .ref h_aside, .ref h_before, .ref h_past, .int i_h_known, .ref h_text, .int i_h_length, .ref h_lost, .int i_h_losts, .int i_h_bestOrder, .int i_h_bestMany, .int i_h_spot, .int i_h_begin, .int i_h_isForm, .int i_h_letter, .ref h_tells, .int i_h_faultReason, .int i_h_faultCause])), (h_s, .inl (cI, 703, .inl g1))]) dX6_goBegin_6 rfl h2 rfl ?_
  refine G_iconst X (v := 4) dX6_goBegin_7 (by decide) ?_
  refine G_istore_n X (lv' := [(2, .int 4), (0, .ref h), (1, .int x0)]) dX6_goBegin_8 (by decide) rfl ?_
  obtain ⟨j5, h6, h7⟩ := bnd h3
  have J12 : G p l e rmX6_goBegin s m args below meth c D A 5 Q 0 0 29 [(0, .ref h), (1, .int x0)] [] [(h, .inr (6, [.ref h_s, .ref h_aside, .ref h_before, .ref h_past, .int i_h_known, .ref h_text, .int i_h_length, .ref h_lost, .int i_h_losts, .int i_h_bestOrder, .int i_h_bestMany, .int i_h_spot, .int i_h_begin, .int i_h_isForm, .int i_h_letter, .ref h_tells, .int i_h_faultReason, .int i_h_faultCause])), (h_s, .inl (cI, 703, .inl j5))] := by
    refine G_iconst X (v := 0) dX6_goBegin_29 (by decide) ?_
    refine G_istore_n X (lv' := [(2, .int 0), (0, .ref h), (1, .int x0)]) dX6_goBegin_30 (by decide) rfl ?_
    obtain ⟨j15, h16, h17⟩ := bnd h7
    have J22 : G p l e rmX6_goBegin s m args below meth c D A 5 Q 0 0 79 [(0, .ref h), (1, .int x0)] [] [(h, .inr (6, [.ref h_s, .ref h_aside, .ref h_before, .ref h_past, .int i_h_known, .ref h_text, .int i_h_length, .ref h_lost, .int i_h_losts, .int i_h_bestOrder, .int i_h_bestMany, .int i_h_spot, .int i_h_begin, .int i_h_isForm, .int i_h_letter, .ref h_tells, .int i_h_faultReason, .int i_h_faultCause])), (h_s, .inl (cI, 703, .inl j15))] := by
      refine G_iconst X (v := 0) dX6_goBegin_79 (by decide) ?_
      refine G_istore_n X (lv' := [(2, .int 0), (0, .ref h), (1, .int x0)]) dX6_goBegin_80 (by decide) rfl ?_
      refine G_iconst X (v := 0) dX6_goBegin_81 (by decide) ?_
      refine G_istore_n X (lv' := [(3, .int 0), (2, .int 0), (0, .ref h), (1, .int x0)]) dX6_goBegin_82 (by decide) rfl ?_
      obtain ⟨j25, h26, h27⟩ := bnd h17
      have J32 : G p l e rmX6_goBegin s m args below meth c D A 5 Q 0 0 101 [(0, .ref h), (1, .int x0), (2, .int 0)] [] [(h, .inr (6, [.ref h_s, .ref h_aside, .ref h_before, .ref h_past, .int i_h_known, .ref h_text, .int i_h_length, .ref h_lost, .int i_h_losts, .int i_h_bestOrder, .int i_h_bestMany, .int i_h_spot, .int i_h_begin, .int i_h_isForm, .int i_h_letter, .ref h_tells, .int i_h_faultReason, .int i_h_faultCause])), (h_s, .inl (cI, 703, .inl j25))] := by
        refine G_aload_n X dX6_goBegin_101 0 rfl ?_
        refine G_get X (i0 := 0) (ci := 6) (j := 0) (C := RX6) (ref := RX6) (T := TX6) (N := 18) dX6_goBegin_102 rfl rfl hiX6_goBegin_X6 (by decide) flX6_goBegin_7 rfl rfl ?_
        refine G_bipush X (v := 9) dX6_goBegin_105 (by decide) ?_
        refine G_iconst X (v := 0) dX6_goBegin_107 (by decide) ?_
        obtain ⟨g34, h35, h36⟩ := bnd h27
        refine G_iast X (i0 := 1) (ws' := [(h, .inr (6, [.ref h_s, .ref h_aside, .ref h_before, .ref h_past, .int i_h_known, .ref h_text, .int i_h_length, .ref h_lost, .int i_h_losts, .int i_h_bestOrder, .int i_h_bestMany, .int i_h_spot, .int i_h_begin, .int i_h_isForm, .int i_h_letter, .ref h_tells, .int i_h_faultReason, .int i_h_faultCause])), (h_s, .inl (cI, 703, .inl g34))]) dX6_goBegin_108 rfl h35 rfl ?_
        refine G_iconst X (v := 0) dX6_goBegin_109 (by decide) ?_
        refine G_istore_n X (lv' := [(3, .int 0), (0, .ref h), (1, .int x0), (2, .int 0)]) dX6_goBegin_110 (by decide) rfl ?_
        obtain ⟨j38, h39, h40⟩ := bnd h36
        have J45 : G p l e rmX6_goBegin s m args below meth c D A 5 Q 0 0 138 [(2, .int j38.1)] [] [(h, .inr (6, [.ref h_s, .ref h_aside, .ref h_before, .ref h_past, .int i_h_known, .ref h_text, .int i_h_length, .ref h_lost, .int i_h_losts, .int i_h_bestOrder, .int i_h_bestMany, .int i_h_spot, .int i_h_begin, .int i_h_isForm, .int i_h_letter, .ref h_tells, .int i_h_faultReason, .int i_h_faultCause])), (h_s, .inl (cI, 703, .inl j38.2))] := by
          refine G_iload_n X dX6_goBegin_138 0 rfl ?_
          cases h40
          exact rt _ _ _ _ dX6_goBegin_139 ⟨rfl, rfl⟩
        refine G_lv [1, 2, 3, 0] rfl ?_
        refine itr_ind (P := fun s37 : (Int32 × Int32 × (Nat → Int32)) => G p l e rmX6_goBegin s m args below meth c D A 5 Q 0 0 111 [(0, .ref h), (1, .int x0), (2, .int s37.1), (3, .int s37.2.1)] [] [(h, .inr (6, [.ref h_s, .ref h_aside, .ref h_before, .ref h_past, .int i_h_known, .ref h_text, .int i_h_length, .ref h_lost, .int i_h_losts, .int i_h_bestOrder, .int i_h_bestMany, .int i_h_spot, .int i_h_begin, .int i_h_isForm, .int i_h_letter, .ref h_tells, .int i_h_faultReason, .int i_h_faultCause])), (h_s, .inl (cI, 703, .inl s37.2.2))]) (fun s37 o44 h41 h42 h43 => ?_) FU _ h39
        unfold SX6_goBegin_111 at h41
        refine G_iload_n X dX6_goBegin_111 3 rfl ?_
        refine G_iload_n X dX6_goBegin_112 1 rfl ?_
        refine G_icmp_ge X (tgt := 138) dX6_goBegin_113 (by decide) (fun h47 => ?_) (fun h47 => ?_)
        · have h48 := ifp h47 h41
          cases h48
          have h49 := h43 _ rfl
          subst h49
          exact G_lv [2] rfl (J45)
        · have h50 := ifn h47 h41
          refine G_aload_n X dX6_goBegin_116 0 rfl ?_
          refine G_iload_n X dX6_goBegin_117 3 rfl ?_
          refine G_iconst X (v := 3) dX6_goBegin_118 (by decide) ?_
          refine G_iconst X (v := 0) dX6_goBegin_119 (by decide) ?_
          obtain ⟨v51, h52, h53⟩ := bnd h50
          refine G1_callv X (As := [.int s37.2.1, .int 3, .int 0]) (rest := []) (wr := []) (ws' := [(h, .inr (6, [.ref h_s, .ref h_aside, .ref h_before, .ref h_past, .int i_h_known, .ref h_text, .int i_h_length, .ref h_lost, .int i_h_losts, .int i_h_bestOrder, .int i_h_bestMany, .int i_h_spot, .int i_h_begin, .int i_h_isForm, .int i_h_letter, .ref h_tells, .int i_h_faultReason, .int i_h_faultCause])), (h_s, .inl (cI, 703, .inl v51))]) dX6_goBegin_120 pkX6_lays gX6_goBegin_X6_lays (kkX6_lays l D cI cR h h_s h_aside h_before h_past h_text h_lost h_tells i_h_known i_h_length i_h_losts i_h_bestOrder i_h_bestMany i_h_spot i_h_begin i_h_isForm i_h_letter i_h_faultReason i_h_faultCause s37.2.2 s37.2.1 3 0 v51 h52) ⟨rfl, rfl⟩ ⟨Nat.le_of_ble_eq_true rfl, Nat.le_of_ble_eq_true rfl⟩ rfl rfl (Nat.le_of_ble_eq_true rfl) 0 rfl rfl [0, 1] [] rfl rfl ⟨rfl, rfl, by decide⟩ ⟨Nat.zero_le _, Nat.zero_le _⟩ [0, 1] rfl rfl ?_
          refine G_iload_n X dX6_goBegin_123 2 rfl ?_
          refine G_aload_n X dX6_goBegin_124 0 rfl ?_
          refine G_iload_n X dX6_goBegin_125 3 rfl ?_
          refine G_iconst X (v := 4) dX6_goBegin_126 (by decide) ?_
          obtain ⟨v54, h55, h56⟩ := bnd h53
          refine G1_calli X (As := [.int s37.2.1, .int 4]) (rest := [.int s37.1]) (wr := []) (ws' := [(h, .inr (6, [.ref h_s, .ref h_aside, .ref h_before, .ref h_past, .int i_h_known, .ref h_text, .int i_h_length, .ref h_lost, .int i_h_losts, .int i_h_bestOrder, .int i_h_bestMany, .int i_h_spot, .int i_h_begin, .int i_h_isForm, .int i_h_letter, .ref h_tells, .int i_h_faultReason, .int i_h_faultCause])), (h_s, .inl (cI, 703, .inl v51))]) dX6_goBegin_127 pkX6_of gX6_goBegin_X6_of (kkX6_of l D cI cR h h_s h_aside h_before h_past h_text h_lost h_tells i_h_known i_h_length i_h_losts i_h_bestOrder i_h_bestMany i_h_spot i_h_begin i_h_isForm i_h_letter i_h_faultReason i_h_faultCause v51 s37.2.1 4 v54 h55) ⟨rfl, rfl⟩ ⟨Nat.le_of_ble_eq_true rfl, Nat.le_of_ble_eq_true rfl⟩ rfl rfl (Nat.le_of_ble_eq_true rfl) 0 rfl rfl [0, 1] [] rfl rfl ⟨rfl, rfl, by decide⟩ ⟨Nat.zero_le _, Nat.zero_le _⟩ [0, 1] rfl rfl ?_
          refine G_iadd X dX6_goBegin_130 ?_
          refine G_istore_n X (lv' := [(2, .int (s37.1 + v54)), (0, .ref h), (1, .int x0), (3, .int s37.2.1)]) dX6_goBegin_131 (by decide) rfl ?_
          refine G_iinc X (v := (s37.2.1 + 1)) (lv' := [(3, .int (s37.2.1 + 1)), (2, .int (s37.1 + v54)), (0, .ref h), (1, .int x0)]) dX6_goBegin_132 3 rfl rfl (by decide) rfl ?_
          refine G_goto X (tgt := 111) dX6_goBegin_135 (by decide) ?_
          cases h56
          exact G_lv [2, 3, 1, 0] rfl (h42 _ rfl)
      refine G_lv [2, 3, 1, 0] rfl ?_
      refine itr_ind (P := fun s24 : (Int32 × (Nat → Int32)) => G p l e rmX6_goBegin s m args below meth c D A 5 Q 0 0 83 [(0, .ref h), (1, .int x0), (2, .int 0), (3, .int s24.1)] [] [(h, .inr (6, [.ref h_s, .ref h_aside, .ref h_before, .ref h_past, .int i_h_known, .ref h_text, .int i_h_length, .ref h_lost, .int i_h_losts, .int i_h_bestOrder, .int i_h_bestMany, .int i_h_spot, .int i_h_begin, .int i_h_isForm, .int i_h_letter, .ref h_tells, .int i_h_faultReason, .int i_h_faultCause])), (h_s, .inl (cI, 703, .inl s24.2))]) (fun s24 o31 h28 h29 h30 => ?_) FU _ h26
      unfold SX6_goBegin_83 at h28
      refine G_iload_n X dX6_goBegin_83 3 rfl ?_
      refine G_iload_n X dX6_goBegin_84 1 rfl ?_
      refine G_icmp_ge X (tgt := 101) dX6_goBegin_85 (by decide) (fun h57 => ?_) (fun h57 => ?_)
      · have h58 := ifp h57 h28
        cases h58
        have h59 := h30 _ rfl
        subst h59
        exact G_lv [0, 1, 2] rfl (J32)
      · have h60 := ifn h57 h28
        refine G_aload_n X dX6_goBegin_88 0 rfl ?_
        refine G_iload_n X dX6_goBegin_89 3 rfl ?_
        obtain ⟨v61, h62, h63⟩ := bnd h60
        refine G1_calli X (As := [.int s24.1]) (rest := []) (wr := []) (ws' := [(h, .inr (6, [.ref h_s, .ref h_aside, .ref h_before, .ref h_past, .int i_h_known, .ref h_text, .int i_h_length, .ref h_lost, .int i_h_losts, .int i_h_bestOrder, .int i_h_bestMany, .int i_h_spot, .int i_h_begin, .int i_h_isForm, .int i_h_letter, .ref h_tells, .int i_h_faultReason, .int i_h_faultCause])), (h_s, .inl (cI, 703, .inl v61.2))]) dX6_goBegin_90 pkX6_laysRow gX6_goBegin_X6_laysRow (kkX6_laysRow l D cI cR h h_s h_aside h_before h_past h_text h_lost h_tells i_h_known i_h_length i_h_losts i_h_bestOrder i_h_bestMany i_h_spot i_h_begin i_h_isForm i_h_letter i_h_faultReason i_h_faultCause s24.2 s24.1 v61 h62) ⟨rfl, rfl⟩ ⟨Nat.le_of_ble_eq_true rfl, Nat.le_of_ble_eq_true rfl⟩ rfl rfl (Nat.le_of_ble_eq_true rfl) 0 rfl rfl [0, 1] [] rfl rfl ⟨rfl, rfl, by decide⟩ ⟨Nat.zero_le _, Nat.zero_le _⟩ [0, 1] rfl rfl ?_
        refine G_istore X (lv' := [(4, .int v61.1), (0, .ref h), (1, .int x0), (2, .int 0), (3, .int s24.1)]) dX6_goBegin_93 (by decide) rfl ?_
        refine G_iinc X (v := (s24.1 + 1)) (lv' := [(3, .int (s24.1 + 1)), (4, .int v61.1), (0, .ref h), (1, .int x0), (2, .int 0)]) dX6_goBegin_95 4 rfl rfl (by decide) rfl ?_
        refine G_goto X (tgt := 83) dX6_goBegin_98 (by decide) ?_
        cases h63
        exact G_lv [2, 3, 4, 0] rfl (h29 _ rfl)
    refine G_lv [1, 2, 0] rfl ?_
    refine itr_ind (P := fun s14 : (Int32 × (Nat → Int32)) => G p l e rmX6_goBegin s m args below meth c D A 5 Q 0 0 31 [(0, .ref h), (1, .int x0), (2, .int s14.1)] [] [(h, .inr (6, [.ref h_s, .ref h_aside, .ref h_before, .ref h_past, .int i_h_known, .ref h_text, .int i_h_length, .ref h_lost, .int i_h_losts, .int i_h_bestOrder, .int i_h_bestMany, .int i_h_spot, .int i_h_begin, .int i_h_isForm, .int i_h_letter, .ref h_tells, .int i_h_faultReason, .int i_h_faultCause])), (h_s, .inl (cI, 703, .inl s14.2))]) (fun s14 o21 h18 h19 h20 => ?_) FU _ h16
    unfold SX6_goBegin_31 at h18
    refine G_iload_n X dX6_goBegin_31 2 rfl ?_
    refine G_iload_n X dX6_goBegin_32 1 rfl ?_
    refine G_icmp_ge X (tgt := 79) dX6_goBegin_33 (by decide) (fun h64 => ?_) (fun h64 => ?_)
    · have h65 := ifp h64 h18
      cases h65
      have h66 := h20 _ rfl
      subst h66
      exact G_lv [0, 1] rfl (J22)
    · have h67 := ifn h64 h18
      refine G_aload_n X dX6_goBegin_36 0 rfl ?_
      refine G_iload_n X dX6_goBegin_37 2 rfl ?_
      refine G_iconst X (v := 0) dX6_goBegin_38 (by decide) ?_
      refine G_iload_n X dX6_goBegin_39 2 rfl ?_
      obtain ⟨v68, h69, h70⟩ := bnd h67
      refine G1_callv X (As := [.int s14.1, .int 0, .int s14.1]) (rest := []) (wr := []) (ws' := [(h, .inr (6, [.ref h_s, .ref h_aside, .ref h_before, .ref h_past, .int i_h_known, .ref h_text, .int i_h_length, .ref h_lost, .int i_h_losts, .int i_h_bestOrder, .int i_h_bestMany, .int i_h_spot, .int i_h_begin, .int i_h_isForm, .int i_h_letter, .ref h_tells, .int i_h_faultReason, .int i_h_faultCause])), (h_s, .inl (cI, 703, .inl v68))]) dX6_goBegin_40 pkX6_lays gX6_goBegin_X6_lays (kkX6_lays l D cI cR h h_s h_aside h_before h_past h_text h_lost h_tells i_h_known i_h_length i_h_losts i_h_bestOrder i_h_bestMany i_h_spot i_h_begin i_h_isForm i_h_letter i_h_faultReason i_h_faultCause s14.2 s14.1 0 s14.1 v68 h69) ⟨rfl, rfl⟩ ⟨Nat.le_of_ble_eq_true rfl, Nat.le_of_ble_eq_true rfl⟩ rfl rfl (Nat.le_of_ble_eq_true rfl) 0 rfl rfl [0, 1] [] rfl rfl ⟨rfl, rfl, by decide⟩ ⟨Nat.zero_le _, Nat.zero_le _⟩ [0, 1] rfl rfl ?_
      refine G_aload_n X dX6_goBegin_43 0 rfl ?_
      refine G_iload_n X dX6_goBegin_44 2 rfl ?_
      refine G_iconst X (v := 1) dX6_goBegin_45 (by decide) ?_
      refine G_iconst X (v := 1) dX6_goBegin_46 (by decide) ?_
      obtain ⟨v71, h72, h73⟩ := bnd h70
      refine G1_callv X (As := [.int s14.1, .int 1, .int 1]) (rest := []) (wr := []) (ws' := [(h, .inr (6, [.ref h_s, .ref h_aside, .ref h_before, .ref h_past, .int i_h_known, .ref h_text, .int i_h_length, .ref h_lost, .int i_h_losts, .int i_h_bestOrder, .int i_h_bestMany, .int i_h_spot, .int i_h_begin, .int i_h_isForm, .int i_h_letter, .ref h_tells, .int i_h_faultReason, .int i_h_faultCause])), (h_s, .inl (cI, 703, .inl v71))]) dX6_goBegin_47 pkX6_lays gX6_goBegin_X6_lays (kkX6_lays l D cI cR h h_s h_aside h_before h_past h_text h_lost h_tells i_h_known i_h_length i_h_losts i_h_bestOrder i_h_bestMany i_h_spot i_h_begin i_h_isForm i_h_letter i_h_faultReason i_h_faultCause v68 s14.1 1 1 v71 h72) ⟨rfl, rfl⟩ ⟨Nat.le_of_ble_eq_true rfl, Nat.le_of_ble_eq_true rfl⟩ rfl rfl (Nat.le_of_ble_eq_true rfl) 0 rfl rfl [0, 1] [] rfl rfl ⟨rfl, rfl, by decide⟩ ⟨Nat.zero_le _, Nat.zero_le _⟩ [0, 1] rfl rfl ?_
      refine G_iconst X (v := 0) dX6_goBegin_50 (by decide) ?_
      refine G_istore_n X (lv' := [(3, .int 0), (0, .ref h), (1, .int x0), (2, .int s14.1)]) dX6_goBegin_51 (by decide) rfl ?_
      obtain ⟨j75, h76, h77⟩ := bnd h73
      have J82 : G p l e rmX6_goBegin s m args below meth c D A 5 Q 0 0 73 [(0, .ref h), (1, .int x0), (2, .int s14.1)] [] [(h, .inr (6, [.ref h_s, .ref h_aside, .ref h_before, .ref h_past, .int i_h_known, .ref h_text, .int i_h_length, .ref h_lost, .int i_h_losts, .int i_h_bestOrder, .int i_h_bestMany, .int i_h_spot, .int i_h_begin, .int i_h_isForm, .int i_h_letter, .ref h_tells, .int i_h_faultReason, .int i_h_faultCause])), (h_s, .inl (cI, 703, .inl j75))] := by
        refine G_iinc X (v := (s14.1 + 1)) (lv' := [(2, .int (s14.1 + 1)), (0, .ref h), (1, .int x0)]) dX6_goBegin_73 2 rfl rfl (by decide) rfl ?_
        refine G_goto X (tgt := 31) dX6_goBegin_76 (by decide) ?_
        cases h77
        exact G_lv [1, 2, 0] rfl (h19 _ rfl)
      refine G_lv [1, 2, 3, 0] rfl ?_
      refine itr_ind (P := fun s74 : (Int32 × (Nat → Int32)) => G p l e rmX6_goBegin s m args below meth c D A 5 Q 0 0 52 [(0, .ref h), (1, .int x0), (2, .int s14.1), (3, .int s74.1)] [] [(h, .inr (6, [.ref h_s, .ref h_aside, .ref h_before, .ref h_past, .int i_h_known, .ref h_text, .int i_h_length, .ref h_lost, .int i_h_losts, .int i_h_bestOrder, .int i_h_bestMany, .int i_h_spot, .int i_h_begin, .int i_h_isForm, .int i_h_letter, .ref h_tells, .int i_h_faultReason, .int i_h_faultCause])), (h_s, .inl (cI, 703, .inl s74.2))]) (fun s74 o81 h78 h79 h80 => ?_) FU _ h76
      unfold SX6_goBegin_52 at h78
      refine G_iload_n X dX6_goBegin_52 3 rfl ?_
      refine G_bipush X (v := 8) dX6_goBegin_53 (by decide) ?_
      refine G_icmp_ge X (tgt := 73) dX6_goBegin_55 (by decide) (fun h84 => ?_) (fun h84 => ?_)
      · have h85 := ifp h84 h78
        cases h85
        have h86 := h80 _ rfl
        subst h86
        exact G_lv [0, 1, 2] rfl (J82)
      · have h87 := ifn h84 h78
        refine G_aload_n X dX6_goBegin_58 0 rfl ?_
        refine G_iload_n X dX6_goBegin_59 2 rfl ?_
        refine G_iconst X (v := 5) dX6_goBegin_60 (by decide) ?_
        refine G_iload_n X dX6_goBegin_61 3 rfl ?_
        refine G_iadd X dX6_goBegin_62 ?_
        refine G_iconst X (v := 1) dX6_goBegin_63 (by decide) ?_
        obtain ⟨v88, h89, h90⟩ := bnd h87
        refine G1_callv X (As := [.int s14.1, .int (5 + s74.1), .int 1]) (rest := []) (wr := []) (ws' := [(h, .inr (6, [.ref h_s, .ref h_aside, .ref h_before, .ref h_past, .int i_h_known, .ref h_text, .int i_h_length, .ref h_lost, .int i_h_losts, .int i_h_bestOrder, .int i_h_bestMany, .int i_h_spot, .int i_h_begin, .int i_h_isForm, .int i_h_letter, .ref h_tells, .int i_h_faultReason, .int i_h_faultCause])), (h_s, .inl (cI, 703, .inl v88))]) dX6_goBegin_64 pkX6_lays gX6_goBegin_X6_lays (kkX6_lays l D cI cR h h_s h_aside h_before h_past h_text h_lost h_tells i_h_known i_h_length i_h_losts i_h_bestOrder i_h_bestMany i_h_spot i_h_begin i_h_isForm i_h_letter i_h_faultReason i_h_faultCause s74.2 s14.1 (5 + s74.1) 1 v88 h89) ⟨rfl, rfl⟩ ⟨Nat.le_of_ble_eq_true rfl, Nat.le_of_ble_eq_true rfl⟩ rfl rfl (Nat.le_of_ble_eq_true rfl) 0 rfl rfl [0, 1] [] rfl rfl ⟨rfl, rfl, by decide⟩ ⟨Nat.zero_le _, Nat.zero_le _⟩ [0, 1] rfl rfl ?_
        refine G_iinc X (v := (s74.1 + 1)) (lv' := [(3, .int (s74.1 + 1)), (0, .ref h), (1, .int x0), (2, .int s14.1)]) dX6_goBegin_67 3 rfl rfl (by decide) rfl ?_
        refine G_goto X (tgt := 52) dX6_goBegin_70 (by decide) ?_
        cases h90
        exact G_lv [1, 2, 3, 0] rfl (h79 _ rfl)
  refine G_lv [1, 2, 0] rfl ?_
  refine itr_ind (P := fun s4 : (Int32 × (Nat → Int32)) => G p l e rmX6_goBegin s m args below meth c D A 5 Q 0 0 9 [(0, .ref h), (1, .int x0), (2, .int s4.1)] [] [(h, .inr (6, [.ref h_s, .ref h_aside, .ref h_before, .ref h_past, .int i_h_known, .ref h_text, .int i_h_length, .ref h_lost, .int i_h_losts, .int i_h_bestOrder, .int i_h_bestMany, .int i_h_spot, .int i_h_begin, .int i_h_isForm, .int i_h_letter, .ref h_tells, .int i_h_faultReason, .int i_h_faultCause])), (h_s, .inl (cI, 703, .inl s4.2))]) (fun s4 o11 h8 h9 h10 => ?_) FU _ h6
  unfold SX6_goBegin_9 at h8
  refine G_iload_n X dX6_goBegin_9 2 rfl ?_
  refine G_sipush X (v := 703) dX6_goBegin_10 (by decide) ?_
  refine G_icmp_ge X (tgt := 29) dX6_goBegin_13 (by decide) (fun h91 => ?_) (fun h91 => ?_)
  · have h92 := ifp h91 h8
    cases h92
    have h93 := h10 _ rfl
    subst h93
    exact G_lv [0, 1] rfl (J12)
  · have h94 := ifn h91 h8
    refine G_aload_n X dX6_goBegin_16 0 rfl ?_
    refine G_get X (i0 := 0) (ci := 6) (j := 0) (C := RX6) (ref := RX6) (T := TX6) (N := 18) dX6_goBegin_17 rfl rfl hiX6_goBegin_X6 (by decide) flX6_goBegin_7 rfl rfl ?_
    refine G_iload_n X dX6_goBegin_20 2 rfl ?_
    refine G_iconst X (v := 0) dX6_goBegin_21 (by decide) ?_
    obtain ⟨g95, h96, h97⟩ := bnd h94
    refine G_iast X (i0 := 1) (ws' := [(h, .inr (6, [.ref h_s, .ref h_aside, .ref h_before, .ref h_past, .int i_h_known, .ref h_text, .int i_h_length, .ref h_lost, .int i_h_losts, .int i_h_bestOrder, .int i_h_bestMany, .int i_h_spot, .int i_h_begin, .int i_h_isForm, .int i_h_letter, .ref h_tells, .int i_h_faultReason, .int i_h_faultCause])), (h_s, .inl (cI, 703, .inl g95))]) dX6_goBegin_22 rfl h96 rfl ?_
    refine G_iinc X (v := (s4.1 + 1)) (lv' := [(2, .int (s4.1 + 1)), (0, .ref h), (1, .int x0)]) dX6_goBegin_23 2 rfl rfl (by decide) rfl ?_
    refine G_goto X (tgt := 9) dX6_goBegin_26 (by decide) ?_
    cases h97
    exact G_lv [1, 2, 0] rfl (h9 _ rfl)
def rmX6_goWrite : Room := { frames := 5, cells := 0, slots := 0, locals := 113 }
theorem pkX6_goWrite : cK yX6_goWrite wsX6_goWrite cX6_goWrite 4 (some .int) 3 RX6 := ⟨⟨_, rfl⟩, by decide +kernel⟩
theorem hiX6_goWrite_X6 : ∀ w ∈ wsX60, w ∈ wsX6_goWrite := by decide +kernel
theorem flX6_goWrite_7 : Cond.fieldLink RX6 7 "EchoMarginsModel" "s" "[I" ∈ wsX6_goWrite := by decide +kernel
set_option maxHeartbeats 4000000 in
set_option maxRecDepth 100000 in
theorem kkX6_goWrite (l : Launch) (D : va_G) (cI cR : ClassId) (h h_s h_aside h_before h_past h_text h_lost h_tells : Nat) (i_h_known : Int32) (i_h_length : Int32) (i_h_losts : Int32) (i_h_bestOrder : Int32) (i_h_bestMany : Int32) (i_h_spot : Int32) (i_h_begin : Int32) (i_h_isForm : Int32) (i_h_letter : Int32) (i_h_faultReason : Int32) (i_h_faultCause : Int32) (f_h_s : Nat → Int32) (x0 : Int32) (x1 : Int32) (x2 : Int32) (z : (Int32 × (Nat → Int32))) (hz : MX6_goWrite f_h_s x0 x1 x2 = some z) : cI1 l yX6_goWrite wsX6_goWrite rmX6_goWrite D cI cR [.ref h, .int x0, .int x1, .int x2] [(h, .inr (6, [.ref h_s, .ref h_aside, .ref h_before, .ref h_past, .int i_h_known, .ref h_text, .int i_h_length, .ref h_lost, .int i_h_losts, .int i_h_bestOrder, .int i_h_bestMany, .int i_h_spot, .int i_h_begin, .int i_h_isForm, .int i_h_letter, .ref h_tells, .int i_h_faultReason, .int i_h_faultCause])), (h_s, .inl (cI, 703, .inl f_h_s))] z.1 [(h, .inr (6, [.ref h_s, .ref h_aside, .ref h_before, .ref h_past, .int i_h_known, .ref h_text, .int i_h_length, .ref h_lost, .int i_h_losts, .int i_h_bestOrder, .int i_h_bestMany, .int i_h_spot, .int i_h_begin, .int i_h_isForm, .int i_h_letter, .ref h_tells, .int i_h_faultReason, .int i_h_faultCause])), (h_s, .inl (cI, 703, .inl z.2))] := by
  unfold MX6_goWrite at hz
  refine kI_of (cc := cX6_goWrite) (maxL := 4) (own := RX6) (by decide +kernel) rfl rfl (Nat.le_of_ble_eq_true rfl) (lv0 := [(0, .ref h), (1, .int x0), (2, .int x1), (3, .int x2)]) rfl (fun p e s m args below meth c A Q X rt => ?_)
  refine G_aload_n X dX6_goWrite_0 0 rfl ?_
  refine G_iload_n X dX6_goWrite_1 1 rfl ?_
  refine G_iconst X (v := 5) dX6_goWrite_2 (by decide) ?_
  refine G_iload_n X dX6_goWrite_3 2 rfl ?_
  refine G_iadd X dX6_goWrite_4 ?_
  refine G_iconst X (v := 1) dX6_goWrite_5 (by decide) ?_
  refine G_iload_n X dX6_goWrite_6 3 rfl ?_
  refine G_iadd X dX6_goWrite_7 ?_
  obtain ⟨v1, h2, h3⟩ := bnd hz
  refine G1_callv X (As := [.int x0, .int (5 + x1), .int (1 + x2)]) (rest := []) (wr := []) (ws' := [(h, .inr (6, [.ref h_s, .ref h_aside, .ref h_before, .ref h_past, .int i_h_known, .ref h_text, .int i_h_length, .ref h_lost, .int i_h_losts, .int i_h_bestOrder, .int i_h_bestMany, .int i_h_spot, .int i_h_begin, .int i_h_isForm, .int i_h_letter, .ref h_tells, .int i_h_faultReason, .int i_h_faultCause])), (h_s, .inl (cI, 703, .inl v1))]) dX6_goWrite_8 pkX6_lays gX6_goWrite_X6_lays (kkX6_lays l D cI cR h h_s h_aside h_before h_past h_text h_lost h_tells i_h_known i_h_length i_h_losts i_h_bestOrder i_h_bestMany i_h_spot i_h_begin i_h_isForm i_h_letter i_h_faultReason i_h_faultCause f_h_s x0 (5 + x1) (1 + x2) v1 h2) ⟨rfl, rfl⟩ ⟨Nat.le_of_ble_eq_true rfl, Nat.le_of_ble_eq_true rfl⟩ rfl rfl (Nat.le_of_ble_eq_true rfl) 0 rfl rfl [0, 1] [] rfl rfl ⟨rfl, rfl, by decide⟩ ⟨Nat.zero_le _, Nat.zero_le _⟩ [0, 1] rfl rfl ?_
  refine G_aload_n X dX6_goWrite_11 0 rfl ?_
  refine G_iload_n X dX6_goWrite_12 1 rfl ?_
  refine G_bipush X (v := 21) dX6_goWrite_13 (by decide) ?_
  refine G_iload_n X dX6_goWrite_15 2 rfl ?_
  refine G_iadd X dX6_goWrite_16 ?_
  refine G_iconst X (v := 0) dX6_goWrite_17 (by decide) ?_
  obtain ⟨v4, h5, h6⟩ := bnd h3
  refine G1_callv X (As := [.int x0, .int (21 + x1), .int 0]) (rest := []) (wr := []) (ws' := [(h, .inr (6, [.ref h_s, .ref h_aside, .ref h_before, .ref h_past, .int i_h_known, .ref h_text, .int i_h_length, .ref h_lost, .int i_h_losts, .int i_h_bestOrder, .int i_h_bestMany, .int i_h_spot, .int i_h_begin, .int i_h_isForm, .int i_h_letter, .ref h_tells, .int i_h_faultReason, .int i_h_faultCause])), (h_s, .inl (cI, 703, .inl v4))]) dX6_goWrite_18 pkX6_lays gX6_goWrite_X6_lays (kkX6_lays l D cI cR h h_s h_aside h_before h_past h_text h_lost h_tells i_h_known i_h_length i_h_losts i_h_bestOrder i_h_bestMany i_h_spot i_h_begin i_h_isForm i_h_letter i_h_faultReason i_h_faultCause v1 x0 (21 + x1) 0 v4 h5) ⟨rfl, rfl⟩ ⟨Nat.le_of_ble_eq_true rfl, Nat.le_of_ble_eq_true rfl⟩ rfl rfl (Nat.le_of_ble_eq_true rfl) 0 rfl rfl [0, 1] [] rfl rfl ⟨rfl, rfl, by decide⟩ ⟨Nat.zero_le _, Nat.zero_le _⟩ [0, 1] rfl rfl ?_
  refine G_aload_n X dX6_goWrite_21 0 rfl ?_
  refine G_get X (i0 := 0) (ci := 6) (j := 0) (C := RX6) (ref := RX6) (T := TX6) (N := 18) dX6_goWrite_22 rfl rfl hiX6_goWrite_X6 (by decide) flX6_goWrite_7 rfl rfl ?_
  refine G_iconst X (v := 4) dX6_goWrite_25 (by decide) ?_
  refine G_dup2 X dX6_goWrite_26 rfl rfl ?_
  obtain ⟨v7, h8, h9⟩ := bnd h6
  refine G_iald X (i0 := 1) dX6_goWrite_27 rfl h8 ?_
  refine G_iconst X (v := 1) dX6_goWrite_28 (by decide) ?_
  refine G_iadd X dX6_goWrite_29 ?_
  obtain ⟨g10, h11, h12⟩ := bnd h9
  refine G_iast X (i0 := 1) (ws' := [(h, .inr (6, [.ref h_s, .ref h_aside, .ref h_before, .ref h_past, .int i_h_known, .ref h_text, .int i_h_length, .ref h_lost, .int i_h_losts, .int i_h_bestOrder, .int i_h_bestMany, .int i_h_spot, .int i_h_begin, .int i_h_isForm, .int i_h_letter, .ref h_tells, .int i_h_faultReason, .int i_h_faultCause])), (h_s, .inl (cI, 703, .inl g10))]) dX6_goWrite_30 rfl h11 rfl ?_
  refine G_aload_n X dX6_goWrite_31 0 rfl ?_
  refine G_iload_n X dX6_goWrite_32 1 rfl ?_
  refine G_iload_n X dX6_goWrite_33 2 rfl ?_
  obtain ⟨v13, h14, h15⟩ := bnd h12
  refine G1_calli X (As := [.int x0, .int x1]) (rest := []) (wr := []) (ws' := [(h, .inr (6, [.ref h_s, .ref h_aside, .ref h_before, .ref h_past, .int i_h_known, .ref h_text, .int i_h_length, .ref h_lost, .int i_h_losts, .int i_h_bestOrder, .int i_h_bestMany, .int i_h_spot, .int i_h_begin, .int i_h_isForm, .int i_h_letter, .ref h_tells, .int i_h_faultReason, .int i_h_faultCause])), (h_s, .inl (cI, 703, .inl v13.2))]) dX6_goWrite_34 pkX6_laysEcho gX6_goWrite_X6_laysEcho (kkX6_laysEcho l D cI cR h h_s h_aside h_before h_past h_text h_lost h_tells i_h_known i_h_length i_h_losts i_h_bestOrder i_h_bestMany i_h_spot i_h_begin i_h_isForm i_h_letter i_h_faultReason i_h_faultCause g10 x0 x1 v13 h14) ⟨rfl, rfl⟩ ⟨Nat.le_of_ble_eq_true rfl, Nat.le_of_ble_eq_true rfl⟩ rfl rfl (Nat.le_of_ble_eq_true rfl) 0 rfl rfl [0, 1] [] rfl rfl ⟨rfl, rfl, by decide⟩ ⟨Nat.zero_le _, Nat.zero_le _⟩ [0, 1] rfl rfl ?_
  cases h15
  exact rt _ _ _ _ dX6_goWrite_37 ⟨rfl, rfl⟩
def rmX6_goLose : Room := { frames := 7, cells := 0, slots := 0, locals := 160 }
theorem pkX6_goLose : cK yX6_goLose wsX6_goLose cX6_goLose 4 (some .int) 1 RX6 := ⟨⟨_, rfl⟩, by decide +kernel⟩
theorem hiX6_goLose_X6 : ∀ w ∈ wsX60, w ∈ wsX6_goLose := by decide +kernel
theorem flX6_goLose_7 : Cond.fieldLink RX6 7 "EchoMarginsModel" "s" "[I" ∈ wsX6_goLose := by decide +kernel
set_option maxHeartbeats 4000000 in
set_option maxRecDepth 100000 in
theorem kkX6_goLose (l : Launch) (D : va_G) (cI cR : ClassId) (h h_s h_aside h_before h_past h_text h_lost h_tells : Nat) (i_h_known : Int32) (i_h_length : Int32) (i_h_losts : Int32) (i_h_bestOrder : Int32) (i_h_bestMany : Int32) (i_h_spot : Int32) (i_h_begin : Int32) (i_h_isForm : Int32) (i_h_letter : Int32) (i_h_faultReason : Int32) (i_h_faultCause : Int32) (f_h_s : Nat → Int32) (x0 : Int32) (z : (Int32 × (Nat → Int32))) (hz : MX6_goLose f_h_s x0 = some z) : cI1 l yX6_goLose wsX6_goLose rmX6_goLose D cI cR [.ref h, .int x0] [(h, .inr (6, [.ref h_s, .ref h_aside, .ref h_before, .ref h_past, .int i_h_known, .ref h_text, .int i_h_length, .ref h_lost, .int i_h_losts, .int i_h_bestOrder, .int i_h_bestMany, .int i_h_spot, .int i_h_begin, .int i_h_isForm, .int i_h_letter, .ref h_tells, .int i_h_faultReason, .int i_h_faultCause])), (h_s, .inl (cI, 703, .inl f_h_s))] z.1 [(h, .inr (6, [.ref h_s, .ref h_aside, .ref h_before, .ref h_past, .int i_h_known, .ref h_text, .int i_h_length, .ref h_lost, .int i_h_losts, .int i_h_bestOrder, .int i_h_bestMany, .int i_h_spot, .int i_h_begin, .int i_h_isForm, .int i_h_letter, .ref h_tells, .int i_h_faultReason, .int i_h_faultCause])), (h_s, .inl (cI, 703, .inl z.2))] := by
  unfold MX6_goLose at hz
  refine kI_of (cc := cX6_goLose) (maxL := 4) (own := RX6) (by decide +kernel) rfl rfl (Nat.le_of_ble_eq_true rfl) (lv0 := [(0, .ref h), (1, .int x0)]) rfl (fun p e s m args below meth c A Q X rt => ?_)
  refine G_aload_n X dX6_goLose_0 0 rfl ?_
  refine G_iload_n X dX6_goLose_1 1 rfl ?_
  obtain ⟨v1, h2, h3⟩ := bnd hz
  refine G1_calli X (As := [.int x0]) (rest := []) (wr := []) (ws' := [(h, .inr (6, [.ref h_s, .ref h_aside, .ref h_before, .ref h_past, .int i_h_known, .ref h_text, .int i_h_length, .ref h_lost, .int i_h_losts, .int i_h_bestOrder, .int i_h_bestMany, .int i_h_spot, .int i_h_begin, .int i_h_isForm, .int i_h_letter, .ref h_tells, .int i_h_faultReason, .int i_h_faultCause])), (h_s, .inl (cI, 703, .inl f_h_s))]) dX6_goLose_2 pkX6_back gX6_goLose_X6_back (kkX6_back l D cI cR h h_s h_aside h_before h_past h_text h_lost h_tells i_h_known i_h_length i_h_losts i_h_bestOrder i_h_bestMany i_h_spot i_h_begin i_h_isForm i_h_letter i_h_faultReason i_h_faultCause f_h_s x0 v1 h2) ⟨rfl, rfl⟩ ⟨Nat.le_of_ble_eq_true rfl, Nat.le_of_ble_eq_true rfl⟩ rfl rfl (Nat.le_of_ble_eq_true rfl) 0 rfl rfl [0, 1] [] rfl rfl ⟨rfl, rfl, by decide⟩ ⟨Nat.zero_le _, Nat.zero_le _⟩ [0, 1] rfl rfl ?_
  refine G_istore_n X (lv' := [(2, .int v1), (0, .ref h), (1, .int x0)]) dX6_goLose_5 (by decide) rfl ?_
  refine G_iconst X (v := 0) dX6_goLose_6 (by decide) ?_
  refine G_istore_n X (lv' := [(3, .int 0), (2, .int v1), (0, .ref h), (1, .int x0)]) dX6_goLose_7 (by decide) rfl ?_
  obtain ⟨j5, h6, h7⟩ := bnd h3
  have J12 : G p l e rmX6_goLose s m args below meth c D A 4 Q 0 0 56 [(0, .ref h), (1, .int x0), (2, .int v1)] [] [(h, .inr (6, [.ref h_s, .ref h_aside, .ref h_before, .ref h_past, .int i_h_known, .ref h_text, .int i_h_length, .ref h_lost, .int i_h_losts, .int i_h_bestOrder, .int i_h_bestMany, .int i_h_spot, .int i_h_begin, .int i_h_isForm, .int i_h_letter, .ref h_tells, .int i_h_faultReason, .int i_h_faultCause])), (h_s, .inl (cI, 703, .inl j5))] := by
    refine G_iconst X (v := 0) dX6_goLose_56 (by decide) ?_
    refine G_istore_n X (lv' := [(3, .int 0), (0, .ref h), (1, .int x0), (2, .int v1)]) dX6_goLose_57 (by decide) rfl ?_
    obtain ⟨j15, h16, h17⟩ := bnd h7
    have J22 : G p l e rmX6_goLose s m args below meth c D A 4 Q 0 0 80 [(0, .ref h), (1, .int x0), (2, .int v1)] [] [(h, .inr (6, [.ref h_s, .ref h_aside, .ref h_before, .ref h_past, .int i_h_known, .ref h_text, .int i_h_length, .ref h_lost, .int i_h_losts, .int i_h_bestOrder, .int i_h_bestMany, .int i_h_spot, .int i_h_begin, .int i_h_isForm, .int i_h_letter, .ref h_tells, .int i_h_faultReason, .int i_h_faultCause])), (h_s, .inl (cI, 703, .inl j15))] := by
      refine G_aload_n X dX6_goLose_80 0 rfl ?_
      refine G_iload_n X dX6_goLose_81 1 rfl ?_
      refine G_iconst X (v := 4) dX6_goLose_82 (by decide) ?_
      refine G_iconst X (v := 0) dX6_goLose_83 (by decide) ?_
      obtain ⟨v24, h25, h26⟩ := bnd h17
      refine G1_callv X (As := [.int x0, .int 4, .int 0]) (rest := []) (wr := []) (ws' := [(h, .inr (6, [.ref h_s, .ref h_aside, .ref h_before, .ref h_past, .int i_h_known, .ref h_text, .int i_h_length, .ref h_lost, .int i_h_losts, .int i_h_bestOrder, .int i_h_bestMany, .int i_h_spot, .int i_h_begin, .int i_h_isForm, .int i_h_letter, .ref h_tells, .int i_h_faultReason, .int i_h_faultCause])), (h_s, .inl (cI, 703, .inl v24))]) dX6_goLose_84 pkX6_lays gX6_goLose_X6_lays (kkX6_lays l D cI cR h h_s h_aside h_before h_past h_text h_lost h_tells i_h_known i_h_length i_h_losts i_h_bestOrder i_h_bestMany i_h_spot i_h_begin i_h_isForm i_h_letter i_h_faultReason i_h_faultCause j15 x0 4 0 v24 h25) ⟨rfl, rfl⟩ ⟨Nat.le_of_ble_eq_true rfl, Nat.le_of_ble_eq_true rfl⟩ rfl rfl (Nat.le_of_ble_eq_true rfl) 0 rfl rfl [0, 1] [] rfl rfl ⟨rfl, rfl, by decide⟩ ⟨Nat.zero_le _, Nat.zero_le _⟩ [0, 1] rfl rfl ?_
      refine G_aload_n X dX6_goLose_87 0 rfl ?_
      refine G_iload_n X dX6_goLose_88 1 rfl ?_
      refine G_iconst X (v := 1) dX6_goLose_89 (by decide) ?_
      refine G_iconst X (v := 0) dX6_goLose_90 (by decide) ?_
      obtain ⟨v27, h28, h29⟩ := bnd h26
      refine G1_callv X (As := [.int x0, .int 1, .int 0]) (rest := []) (wr := []) (ws' := [(h, .inr (6, [.ref h_s, .ref h_aside, .ref h_before, .ref h_past, .int i_h_known, .ref h_text, .int i_h_length, .ref h_lost, .int i_h_losts, .int i_h_bestOrder, .int i_h_bestMany, .int i_h_spot, .int i_h_begin, .int i_h_isForm, .int i_h_letter, .ref h_tells, .int i_h_faultReason, .int i_h_faultCause])), (h_s, .inl (cI, 703, .inl v27))]) dX6_goLose_91 pkX6_lays gX6_goLose_X6_lays (kkX6_lays l D cI cR h h_s h_aside h_before h_past h_text h_lost h_tells i_h_known i_h_length i_h_losts i_h_bestOrder i_h_bestMany i_h_spot i_h_begin i_h_isForm i_h_letter i_h_faultReason i_h_faultCause v24 x0 1 0 v27 h28) ⟨rfl, rfl⟩ ⟨Nat.le_of_ble_eq_true rfl, Nat.le_of_ble_eq_true rfl⟩ rfl rfl (Nat.le_of_ble_eq_true rfl) 0 rfl rfl [0, 1] [] rfl rfl ⟨rfl, rfl, by decide⟩ ⟨Nat.zero_le _, Nat.zero_le _⟩ [0, 1] rfl rfl ?_
      refine G_aload_n X dX6_goLose_94 0 rfl ?_
      refine G_iload_n X dX6_goLose_95 1 rfl ?_
      refine G_iconst X (v := 2) dX6_goLose_96 (by decide) ?_
      obtain ⟨v30, h31, h32⟩ := bnd h29
      refine G1_callv X (As := [.int x0, .int 2]) (rest := []) (wr := []) (ws' := [(h, .inr (6, [.ref h_s, .ref h_aside, .ref h_before, .ref h_past, .int i_h_known, .ref h_text, .int i_h_length, .ref h_lost, .int i_h_losts, .int i_h_bestOrder, .int i_h_bestMany, .int i_h_spot, .int i_h_begin, .int i_h_isForm, .int i_h_letter, .ref h_tells, .int i_h_faultReason, .int i_h_faultCause])), (h_s, .inl (cI, 703, .inl v30))]) dX6_goLose_97 pkX6_adds gX6_goLose_X6_adds (kkX6_adds l D cI cR h h_s h_aside h_before h_past h_text h_lost h_tells i_h_known i_h_length i_h_losts i_h_bestOrder i_h_bestMany i_h_spot i_h_begin i_h_isForm i_h_letter i_h_faultReason i_h_faultCause v27 x0 2 v30 h31) ⟨rfl, rfl⟩ ⟨Nat.le_of_ble_eq_true rfl, Nat.le_of_ble_eq_true rfl⟩ rfl rfl (Nat.le_of_ble_eq_true rfl) 0 rfl rfl [0, 1] [] rfl rfl ⟨rfl, rfl, by decide⟩ ⟨Nat.zero_le _, Nat.zero_le _⟩ [0, 1] rfl rfl ?_
      refine G_aload_n X dX6_goLose_100 0 rfl ?_
      refine G_get X (i0 := 0) (ci := 6) (j := 0) (C := RX6) (ref := RX6) (T := TX6) (N := 18) dX6_goLose_101 rfl rfl hiX6_goLose_X6 (by decide) flX6_goLose_7 rfl rfl ?_
      refine G_iconst X (v := 5) dX6_goLose_104 (by decide) ?_
      refine G_dup2 X dX6_goLose_105 rfl rfl ?_
      obtain ⟨v33, h34, h35⟩ := bnd h32
      refine G_iald X (i0 := 1) dX6_goLose_106 rfl h34 ?_
      refine G_iconst X (v := 1) dX6_goLose_107 (by decide) ?_
      refine G_iadd X dX6_goLose_108 ?_
      obtain ⟨g36, h37, h38⟩ := bnd h35
      refine G_iast X (i0 := 1) (ws' := [(h, .inr (6, [.ref h_s, .ref h_aside, .ref h_before, .ref h_past, .int i_h_known, .ref h_text, .int i_h_length, .ref h_lost, .int i_h_losts, .int i_h_bestOrder, .int i_h_bestMany, .int i_h_spot, .int i_h_begin, .int i_h_isForm, .int i_h_letter, .ref h_tells, .int i_h_faultReason, .int i_h_faultCause])), (h_s, .inl (cI, 703, .inl g36))]) dX6_goLose_109 rfl h37 rfl ?_
      refine G_iload_n X dX6_goLose_110 2 rfl ?_
      cases h38
      exact rt _ _ _ _ dX6_goLose_111 ⟨rfl, rfl⟩
    refine G_lv [1, 2, 3, 0] rfl ?_
    refine itr_ind (P := fun s14 : (Int32 × (Nat → Int32)) => G p l e rmX6_goLose s m args below meth c D A 4 Q 0 0 58 [(0, .ref h), (1, .int x0), (2, .int v1), (3, .int s14.1)] [] [(h, .inr (6, [.ref h_s, .ref h_aside, .ref h_before, .ref h_past, .int i_h_known, .ref h_text, .int i_h_length, .ref h_lost, .int i_h_losts, .int i_h_bestOrder, .int i_h_bestMany, .int i_h_spot, .int i_h_begin, .int i_h_isForm, .int i_h_letter, .ref h_tells, .int i_h_faultReason, .int i_h_faultCause])), (h_s, .inl (cI, 703, .inl s14.2))]) (fun s14 o21 h18 h19 h20 => ?_) FU _ h16
    unfold SX6_goLose_58 at h18
    refine G_iload_n X dX6_goLose_58 3 rfl ?_
    refine G_bipush X (v := 48) dX6_goLose_59 (by decide) ?_
    refine G_icmp_ge X (tgt := 80) dX6_goLose_61 (by decide) (fun h39 => ?_) (fun h39 => ?_)
    · have h40 := ifp h39 h18
      cases h40
      have h41 := h20 _ rfl
      subst h41
      exact G_lv [0, 1, 2] rfl (J22)
    · have h42 := ifn h39 h18
      refine G_aload_n X dX6_goLose_64 0 rfl ?_
      refine G_iload_n X dX6_goLose_65 1 rfl ?_
      refine G_bipush X (v := 29) dX6_goLose_66 (by decide) ?_
      refine G_iload_n X dX6_goLose_68 3 rfl ?_
      refine G_iadd X dX6_goLose_69 ?_
      refine G_iconst X (v := 0) dX6_goLose_70 (by decide) ?_
      obtain ⟨v43, h44, h45⟩ := bnd h42
      refine G1_callv X (As := [.int x0, .int (29 + s14.1), .int 0]) (rest := []) (wr := []) (ws' := [(h, .inr (6, [.ref h_s, .ref h_aside, .ref h_before, .ref h_past, .int i_h_known, .ref h_text, .int i_h_length, .ref h_lost, .int i_h_losts, .int i_h_bestOrder, .int i_h_bestMany, .int i_h_spot, .int i_h_begin, .int i_h_isForm, .int i_h_letter, .ref h_tells, .int i_h_faultReason, .int i_h_faultCause])), (h_s, .inl (cI, 703, .inl v43))]) dX6_goLose_71 pkX6_lays gX6_goLose_X6_lays (kkX6_lays l D cI cR h h_s h_aside h_before h_past h_text h_lost h_tells i_h_known i_h_length i_h_losts i_h_bestOrder i_h_bestMany i_h_spot i_h_begin i_h_isForm i_h_letter i_h_faultReason i_h_faultCause s14.2 x0 (29 + s14.1) 0 v43 h44) ⟨rfl, rfl⟩ ⟨Nat.le_of_ble_eq_true rfl, Nat.le_of_ble_eq_true rfl⟩ rfl rfl (Nat.le_of_ble_eq_true rfl) 0 rfl rfl [0, 1] [] rfl rfl ⟨rfl, rfl, by decide⟩ ⟨Nat.zero_le _, Nat.zero_le _⟩ [0, 1] rfl rfl ?_
      refine G_iinc X (v := (s14.1 + 1)) (lv' := [(3, .int (s14.1 + 1)), (0, .ref h), (1, .int x0), (2, .int v1)]) dX6_goLose_74 3 rfl rfl (by decide) rfl ?_
      refine G_goto X (tgt := 58) dX6_goLose_77 (by decide) ?_
      cases h45
      exact G_lv [1, 2, 3, 0] rfl (h19 _ rfl)
  refine G_lv [2, 3, 1, 0] rfl ?_
  refine itr_ind (P := fun s4 : (Int32 × (Nat → Int32)) => G p l e rmX6_goLose s m args below meth c D A 4 Q 0 0 8 [(0, .ref h), (1, .int x0), (2, .int v1), (3, .int s4.1)] [] [(h, .inr (6, [.ref h_s, .ref h_aside, .ref h_before, .ref h_past, .int i_h_known, .ref h_text, .int i_h_length, .ref h_lost, .int i_h_losts, .int i_h_bestOrder, .int i_h_bestMany, .int i_h_spot, .int i_h_begin, .int i_h_isForm, .int i_h_letter, .ref h_tells, .int i_h_faultReason, .int i_h_faultCause])), (h_s, .inl (cI, 703, .inl s4.2))]) (fun s4 o11 h8 h9 h10 => ?_) FU _ h6
  unfold SX6_goLose_8 at h8
  refine G_iload_n X dX6_goLose_8 3 rfl ?_
  refine G_bipush X (v := 8) dX6_goLose_9 (by decide) ?_
  refine G_icmp_ge X (tgt := 56) dX6_goLose_11 (by decide) (fun h46 => ?_) (fun h46 => ?_)
  · have h47 := ifp h46 h8
    cases h47
    have h48 := h10 _ rfl
    subst h48
    exact G_lv [0, 1, 2] rfl (J12)
  · have h49 := ifn h46 h8
    refine G_aload_n X dX6_goLose_14 0 rfl ?_
    refine G_iload_n X dX6_goLose_15 1 rfl ?_
    refine G_bipush X (v := 13) dX6_goLose_16 (by decide) ?_
    refine G_iload_n X dX6_goLose_18 3 rfl ?_
    refine G_iadd X dX6_goLose_19 ?_
    refine G_aload_n X dX6_goLose_20 0 rfl ?_
    refine G_iload_n X dX6_goLose_21 1 rfl ?_
    refine G_iconst X (v := 5) dX6_goLose_22 (by decide) ?_
    refine G_iload_n X dX6_goLose_23 3 rfl ?_
    refine G_iadd X dX6_goLose_24 ?_
    obtain ⟨v50, h51, h52⟩ := bnd h49
    refine G1_calli X (As := [.int x0, .int (5 + s4.1)]) (rest := [.int (13 + s4.1), .int x0, .ref h]) (wr := []) (ws' := [(h, .inr (6, [.ref h_s, .ref h_aside, .ref h_before, .ref h_past, .int i_h_known, .ref h_text, .int i_h_length, .ref h_lost, .int i_h_losts, .int i_h_bestOrder, .int i_h_bestMany, .int i_h_spot, .int i_h_begin, .int i_h_isForm, .int i_h_letter, .ref h_tells, .int i_h_faultReason, .int i_h_faultCause])), (h_s, .inl (cI, 703, .inl s4.2))]) dX6_goLose_25 pkX6_of gX6_goLose_X6_of (kkX6_of l D cI cR h h_s h_aside h_before h_past h_text h_lost h_tells i_h_known i_h_length i_h_losts i_h_bestOrder i_h_bestMany i_h_spot i_h_begin i_h_isForm i_h_letter i_h_faultReason i_h_faultCause s4.2 x0 (5 + s4.1) v50 h51) ⟨rfl, rfl⟩ ⟨Nat.le_of_ble_eq_true rfl, Nat.le_of_ble_eq_true rfl⟩ rfl rfl (Nat.le_of_ble_eq_true rfl) 0 rfl rfl [0, 1] [] rfl rfl ⟨rfl, rfl, by decide⟩ ⟨Nat.zero_le _, Nat.zero_le _⟩ [0, 1] rfl rfl ?_
    obtain ⟨v53, h54, h55⟩ := bnd h52
    refine G1_callv X (As := [.int x0, .int (13 + s4.1), .int v50]) (rest := []) (wr := []) (ws' := [(h, .inr (6, [.ref h_s, .ref h_aside, .ref h_before, .ref h_past, .int i_h_known, .ref h_text, .int i_h_length, .ref h_lost, .int i_h_losts, .int i_h_bestOrder, .int i_h_bestMany, .int i_h_spot, .int i_h_begin, .int i_h_isForm, .int i_h_letter, .ref h_tells, .int i_h_faultReason, .int i_h_faultCause])), (h_s, .inl (cI, 703, .inl v53))]) dX6_goLose_28 pkX6_lays gX6_goLose_X6_lays (kkX6_lays l D cI cR h h_s h_aside h_before h_past h_text h_lost h_tells i_h_known i_h_length i_h_losts i_h_bestOrder i_h_bestMany i_h_spot i_h_begin i_h_isForm i_h_letter i_h_faultReason i_h_faultCause s4.2 x0 (13 + s4.1) v50 v53 h54) ⟨rfl, rfl⟩ ⟨Nat.le_of_ble_eq_true rfl, Nat.le_of_ble_eq_true rfl⟩ rfl rfl (Nat.le_of_ble_eq_true rfl) 0 rfl rfl [0, 1] [] rfl rfl ⟨rfl, rfl, by decide⟩ ⟨Nat.zero_le _, Nat.zero_le _⟩ [0, 1] rfl rfl ?_
    refine G_aload_n X dX6_goLose_31 0 rfl ?_
    refine G_iload_n X dX6_goLose_32 1 rfl ?_
    refine G_iconst X (v := 5) dX6_goLose_33 (by decide) ?_
    refine G_iload_n X dX6_goLose_34 3 rfl ?_
    refine G_iadd X dX6_goLose_35 ?_
    refine G_iconst X (v := 0) dX6_goLose_36 (by decide) ?_
    obtain ⟨v56, h57, h58⟩ := bnd h55
    refine G1_callv X (As := [.int x0, .int (5 + s4.1), .int 0]) (rest := []) (wr := []) (ws' := [(h, .inr (6, [.ref h_s, .ref h_aside, .ref h_before, .ref h_past, .int i_h_known, .ref h_text, .int i_h_length, .ref h_lost, .int i_h_losts, .int i_h_bestOrder, .int i_h_bestMany, .int i_h_spot, .int i_h_begin, .int i_h_isForm, .int i_h_letter, .ref h_tells, .int i_h_faultReason, .int i_h_faultCause])), (h_s, .inl (cI, 703, .inl v56))]) dX6_goLose_37 pkX6_lays gX6_goLose_X6_lays (kkX6_lays l D cI cR h h_s h_aside h_before h_past h_text h_lost h_tells i_h_known i_h_length i_h_losts i_h_bestOrder i_h_bestMany i_h_spot i_h_begin i_h_isForm i_h_letter i_h_faultReason i_h_faultCause v53 x0 (5 + s4.1) 0 v56 h57) ⟨rfl, rfl⟩ ⟨Nat.le_of_ble_eq_true rfl, Nat.le_of_ble_eq_true rfl⟩ rfl rfl (Nat.le_of_ble_eq_true rfl) 0 rfl rfl [0, 1] [] rfl rfl ⟨rfl, rfl, by decide⟩ ⟨Nat.zero_le _, Nat.zero_le _⟩ [0, 1] rfl rfl ?_
    refine G_aload_n X dX6_goLose_40 0 rfl ?_
    refine G_iload_n X dX6_goLose_41 1 rfl ?_
    refine G_bipush X (v := 21) dX6_goLose_42 (by decide) ?_
    refine G_iload_n X dX6_goLose_44 3 rfl ?_
    refine G_iadd X dX6_goLose_45 ?_
    refine G_iconst X (v := 0) dX6_goLose_46 (by decide) ?_
    obtain ⟨v59, h60, h61⟩ := bnd h58
    refine G1_callv X (As := [.int x0, .int (21 + s4.1), .int 0]) (rest := []) (wr := []) (ws' := [(h, .inr (6, [.ref h_s, .ref h_aside, .ref h_before, .ref h_past, .int i_h_known, .ref h_text, .int i_h_length, .ref h_lost, .int i_h_losts, .int i_h_bestOrder, .int i_h_bestMany, .int i_h_spot, .int i_h_begin, .int i_h_isForm, .int i_h_letter, .ref h_tells, .int i_h_faultReason, .int i_h_faultCause])), (h_s, .inl (cI, 703, .inl v59))]) dX6_goLose_47 pkX6_lays gX6_goLose_X6_lays (kkX6_lays l D cI cR h h_s h_aside h_before h_past h_text h_lost h_tells i_h_known i_h_length i_h_losts i_h_bestOrder i_h_bestMany i_h_spot i_h_begin i_h_isForm i_h_letter i_h_faultReason i_h_faultCause v56 x0 (21 + s4.1) 0 v59 h60) ⟨rfl, rfl⟩ ⟨Nat.le_of_ble_eq_true rfl, Nat.le_of_ble_eq_true rfl⟩ rfl rfl (Nat.le_of_ble_eq_true rfl) 0 rfl rfl [0, 1] [] rfl rfl ⟨rfl, rfl, by decide⟩ ⟨Nat.zero_le _, Nat.zero_le _⟩ [0, 1] rfl rfl ?_
    refine G_iinc X (v := (s4.1 + 1)) (lv' := [(3, .int (s4.1 + 1)), (0, .ref h), (1, .int x0), (2, .int v1)]) dX6_goLose_50 3 rfl rfl (by decide) rfl ?_
    refine G_goto X (tgt := 8) dX6_goLose_53 (by decide) ?_
    cases h61
    exact G_lv [1, 2, 3, 0] rfl (h9 _ rfl)
