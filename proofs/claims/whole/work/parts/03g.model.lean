def rmX6_undo : Room := { frames := 1, cells := 0, slots := 0, locals := 24 }
theorem pkX6_undo : cK yX6_undo wsX6_undo cX6_undo 1 (some .int) 0 RX6 := ⟨⟨_, rfl⟩, by decide +kernel⟩
theorem hiX6_undo_X6 : ∀ w ∈ wsX60, w ∈ wsX6_undo := by decide +kernel
theorem flX6_undo_35 : Cond.fieldLink RX6 35 "EchoMarginsModel" "known" "I" ∈ wsX6_undo := by decide +kernel
theorem flX6_undo_115 : Cond.constant RX6 115 (-1000002) ∈ wsX6_undo := by decide +kernel
theorem flX6_undo_19 : Cond.fieldLink RX6 19 "EchoMarginsModel" "past" "[I" ∈ wsX6_undo := by decide +kernel
theorem flX6_undo_7 : Cond.fieldLink RX6 7 "EchoMarginsModel" "s" "[I" ∈ wsX6_undo := by decide +kernel
set_option maxHeartbeats 4000000 in
set_option maxRecDepth 100000 in
theorem kkX6_undo (l : Launch) (D : va_G) (cI cR : ClassId) (h h_s h_aside h_before h_past h_text h_lost h_tells : Nat) (i_h_known : Int32) (i_h_length : Int32) (i_h_losts : Int32) (i_h_bestOrder : Int32) (i_h_bestMany : Int32) (i_h_spot : Int32) (i_h_begin : Int32) (i_h_isForm : Int32) (i_h_letter : Int32) (i_h_faultReason : Int32) (i_h_faultCause : Int32) (f_h_s : Nat → Int32) (f_h_past : Nat → Int32) (z : (Int32 × Int32 × (Nat → Int32))) (hz : MX6_undo i_h_known f_h_s f_h_past = some z) : cI1 l yX6_undo wsX6_undo rmX6_undo D cI cR [.ref h] [(h, .inr (6, [.ref h_s, .ref h_aside, .ref h_before, .ref h_past, .int i_h_known, .ref h_text, .int i_h_length, .ref h_lost, .int i_h_losts, .int i_h_bestOrder, .int i_h_bestMany, .int i_h_spot, .int i_h_begin, .int i_h_isForm, .int i_h_letter, .ref h_tells, .int i_h_faultReason, .int i_h_faultCause])), (h_s, .inl (cI, 703, .inl f_h_s)), (h_past, .inl (cI, 2812, .inl f_h_past))] z.1 [(h, .inr (6, [.ref h_s, .ref h_aside, .ref h_before, .ref h_past, .int z.2.1, .ref h_text, .int i_h_length, .ref h_lost, .int i_h_losts, .int i_h_bestOrder, .int i_h_bestMany, .int i_h_spot, .int i_h_begin, .int i_h_isForm, .int i_h_letter, .ref h_tells, .int i_h_faultReason, .int i_h_faultCause])), (h_s, .inl (cI, 703, .inl z.2.2)), (h_past, .inl (cI, 2812, .inl f_h_past))] := by
  unfold MX6_undo at hz
  refine kI_of (cc := cX6_undo) (maxL := 1) (own := RX6) (by decide +kernel) rfl rfl (Nat.le_of_ble_eq_true rfl) (lv0 := [(0, .ref h)]) rfl (fun p e s m args below meth c A Q X rt => ?_)
  refine G_aload_n X dX6_undo_0 0 rfl ?_
  refine G_get X (i0 := 0) (ci := 6) (j := 4) (C := RX6) (ref := RX6) (T := TX6) (N := 18) dX6_undo_1 rfl rfl hiX6_undo_X6 (by decide) flX6_undo_35 rfl rfl ?_
  refine G_if_ne X (tgt := 10) dX6_undo_4 (by decide) (fun h1 => ?_) (fun h1 => ?_)
  · have h2 := ifp h1 hz
    refine G_ldc X dX6_undo_7 flX6_undo_115 ?_
    cases h2
    exact rt _ _ _ _ dX6_undo_9 ⟨rfl, rfl⟩
  · have h3 := ifn h1 hz
    refine G_aload_n X dX6_undo_10 0 rfl ?_
    refine G_dup X dX6_undo_11 rfl ?_
    refine G_get X (i0 := 0) (ci := 6) (j := 4) (C := RX6) (ref := RX6) (T := TX6) (N := 18) dX6_undo_12 rfl rfl hiX6_undo_X6 (by decide) flX6_undo_35 rfl rfl ?_
    refine G_iconst X (v := 1) dX6_undo_15 (by decide) ?_
    refine G_isub X dX6_undo_16 ?_
    refine G_put X (i0 := 0) (ci := 6) (j := 4) (C := RX6) (ref := RX6) (T := TX6) (N := 18) (ty := .int) (ws' := [(h, .inr (6, [.ref h_s, .ref h_aside, .ref h_before, .ref h_past, .int (i_h_known - 1), .ref h_text, .int i_h_length, .ref h_lost, .int i_h_losts, .int i_h_bestOrder, .int i_h_bestMany, .int i_h_spot, .int i_h_begin, .int i_h_isForm, .int i_h_letter, .ref h_tells, .int i_h_faultReason, .int i_h_faultCause])), (h_s, .inl (cI, 703, .inl f_h_s)), (h_past, .inl (cI, 2812, .inl f_h_past))]) tyX6 dX6_undo_17 rfl rfl hiX6_undo_X6 tyX6_ok nmX6 (by decide) flX6_undo_35 rfl rfl rfl rfl rfl (Nat.le_of_ble_eq_true rfl) rfl ?_
    refine G_aload_n X dX6_undo_20 0 rfl ?_
    refine G_get X (i0 := 0) (ci := 6) (j := 3) (C := RX6) (ref := RX6) (T := TX6) (N := 18) dX6_undo_21 rfl rfl hiX6_undo_X6 (by decide) flX6_undo_19 rfl rfl ?_
    refine G_sipush X (v := 703) dX6_undo_24 (by decide) ?_
    refine G_aload_n X dX6_undo_27 0 rfl ?_
    refine G_get X (i0 := 0) (ci := 6) (j := 4) (C := RX6) (ref := RX6) (T := TX6) (N := 18) dX6_undo_28 rfl rfl hiX6_undo_X6 (by decide) flX6_undo_35 rfl rfl ?_
    refine G_imul X dX6_undo_31 ?_
    refine G_aload_n X dX6_undo_32 0 rfl ?_
    refine G_get X (i0 := 0) (ci := 6) (j := 0) (C := RX6) (ref := RX6) (T := TX6) (N := 18) dX6_undo_33 rfl rfl hiX6_undo_X6 (by decide) flX6_undo_7 rfl rfl ?_
    refine G_iconst X (v := 0) dX6_undo_36 (by decide) ?_
    obtain ⟨v4, h5, h6⟩ := bnd h3
    refine G1_callsv X (As := [.ref h_past, .int (703 * (i_h_known - 1)), .ref h_s, .int 0]) (rest := []) (wr := [(h, .inr (6, [.ref h_s, .ref h_aside, .ref h_before, .ref h_past, .int (i_h_known - 1), .ref h_text, .int i_h_length, .ref h_lost, .int i_h_losts, .int i_h_bestOrder, .int i_h_bestMany, .int i_h_spot, .int i_h_begin, .int i_h_isForm, .int i_h_letter, .ref h_tells, .int i_h_faultReason, .int i_h_faultCause]))]) (ws' := [(h, .inr (6, [.ref h_s, .ref h_aside, .ref h_before, .ref h_past, .int (i_h_known - 1), .ref h_text, .int i_h_length, .ref h_lost, .int i_h_losts, .int i_h_bestOrder, .int i_h_bestMany, .int i_h_spot, .int i_h_begin, .int i_h_isForm, .int i_h_letter, .ref h_tells, .int i_h_faultReason, .int i_h_faultCause])), (h_s, .inl (cI, 703, .inl v4)), (h_past, .inl (cI, 2812, .inl f_h_past))]) dX6_undo_37 pkX6_copies gX6_undo_X6_copies (kkX6_copies l D cI cR h_past h_s 2812 703 f_h_past f_h_s (703 * (i_h_known - 1)) 0 v4 h5) ⟨rfl, rfl⟩ ⟨Nat.le_of_ble_eq_true rfl, Nat.le_of_ble_eq_true rfl⟩ rfl rfl (Nat.le_of_ble_eq_true rfl) [2, 1] [0] rfl rfl ⟨rfl, rfl, by decide⟩ ⟨Nat.zero_le _, Nat.zero_le _⟩ [0, 2, 1] rfl rfl ?_
    refine G_aload_n X dX6_undo_40 0 rfl ?_
    refine G_get X (i0 := 0) (ci := 6) (j := 4) (C := RX6) (ref := RX6) (T := TX6) (N := 18) dX6_undo_41 rfl rfl hiX6_undo_X6 (by decide) flX6_undo_35 rfl rfl ?_
    cases h6
    exact rt _ _ _ _ dX6_undo_44 ⟨rfl, rfl⟩
def rmX6_type : Room := { frames := 1, cells := 0, slots := 0, locals := 22 }
theorem pkX6_type : cK yX6_type wsX6_type cX6_type 2 (some .int) 1 RX6 := ⟨⟨_, rfl⟩, by decide +kernel⟩
theorem hiX6_type_X6 : ∀ w ∈ wsX60, w ∈ wsX6_type := by decide +kernel
theorem flX6_type_114 : Cond.constant RX6 114 (-1000001) ∈ wsX6_type := by decide +kernel
theorem flX6_type_213 : Cond.fieldLink RX6 213 "EchoMarginsModel" "length" "I" ∈ wsX6_type := by decide +kernel
theorem flX6_type_119 : Cond.constant RX6 119 (-1000003) ∈ wsX6_type := by decide +kernel
theorem flX6_type_22 : Cond.fieldLink RX6 22 "EchoMarginsModel" "text" "[I" ∈ wsX6_type := by decide +kernel
set_option maxHeartbeats 4000000 in
set_option maxRecDepth 100000 in
theorem kkX6_type (l : Launch) (D : va_G) (cI cR : ClassId) (h h_s h_aside h_before h_past h_text h_lost h_tells : Nat) (i_h_known : Int32) (i_h_length : Int32) (i_h_losts : Int32) (i_h_bestOrder : Int32) (i_h_bestMany : Int32) (i_h_spot : Int32) (i_h_begin : Int32) (i_h_isForm : Int32) (i_h_letter : Int32) (i_h_faultReason : Int32) (i_h_faultCause : Int32) (f_h_text : Nat → Int32) (x0 : Int32) (z : (Int32 × Int32 × (Nat → Int32))) (hz : MX6_type i_h_length f_h_text x0 = some z) : cI1 l yX6_type wsX6_type rmX6_type D cI cR [.ref h, .int x0] [(h, .inr (6, [.ref h_s, .ref h_aside, .ref h_before, .ref h_past, .int i_h_known, .ref h_text, .int i_h_length, .ref h_lost, .int i_h_losts, .int i_h_bestOrder, .int i_h_bestMany, .int i_h_spot, .int i_h_begin, .int i_h_isForm, .int i_h_letter, .ref h_tells, .int i_h_faultReason, .int i_h_faultCause])), (h_text, .inl (cI, 60, .inl f_h_text))] z.1 [(h, .inr (6, [.ref h_s, .ref h_aside, .ref h_before, .ref h_past, .int i_h_known, .ref h_text, .int z.2.1, .ref h_lost, .int i_h_losts, .int i_h_bestOrder, .int i_h_bestMany, .int i_h_spot, .int i_h_begin, .int i_h_isForm, .int i_h_letter, .ref h_tells, .int i_h_faultReason, .int i_h_faultCause])), (h_text, .inl (cI, 60, .inl z.2.2))] := by
  unfold MX6_type at hz
  refine kI_of (cc := cX6_type) (maxL := 2) (own := RX6) (by decide +kernel) rfl rfl (Nat.le_of_ble_eq_true rfl) (lv0 := [(0, .ref h), (1, .int x0)]) rfl (fun p e s m args below meth c A Q X rt => ?_)
  refine G_iload_n X dX6_type_0 1 rfl ?_
  refine G_bipush X (v := 32) dX6_type_1 (by decide) ?_
  refine G_bipush X (v := 126) dX6_type_3 (by decide) ?_
  obtain ⟨v1, h2, h3⟩ := bnd hz
  refine G1_callsi X (As := [.int x0, .int 32, .int 126]) (rest := []) (wr := [(h, .inr (6, [.ref h_s, .ref h_aside, .ref h_before, .ref h_past, .int i_h_known, .ref h_text, .int i_h_length, .ref h_lost, .int i_h_losts, .int i_h_bestOrder, .int i_h_bestMany, .int i_h_spot, .int i_h_begin, .int i_h_isForm, .int i_h_letter, .ref h_tells, .int i_h_faultReason, .int i_h_faultCause])), (h_text, .inl (cI, 60, .inl f_h_text))]) (ws' := [(h, .inr (6, [.ref h_s, .ref h_aside, .ref h_before, .ref h_past, .int i_h_known, .ref h_text, .int i_h_length, .ref h_lost, .int i_h_losts, .int i_h_bestOrder, .int i_h_bestMany, .int i_h_spot, .int i_h_begin, .int i_h_isForm, .int i_h_letter, .ref h_tells, .int i_h_faultReason, .int i_h_faultCause])), (h_text, .inl (cI, 60, .inl f_h_text))]) dX6_type_5 pkX6_in gX6_type_X6_in (kkX6_in l D cI cR x0 32 126 v1 h2) ⟨rfl, rfl⟩ ⟨Nat.le_of_ble_eq_true rfl, Nat.le_of_ble_eq_true rfl⟩ rfl rfl (Nat.le_of_ble_eq_true rfl) [] [0, 1] rfl rfl ⟨rfl, rfl, by decide⟩ ⟨Nat.zero_le _, Nat.zero_le _⟩ [0, 1] rfl rfl ?_
  refine G_if_ne X (tgt := 14) dX6_type_8 (by decide) (fun h4 => ?_) (fun h4 => ?_)
  · have h5 := ifp h4 h3
    refine G_ldc X dX6_type_11 flX6_type_114 ?_
    cases h5
    exact rt _ _ _ _ dX6_type_13 ⟨rfl, rfl⟩
  · have h6 := ifn h4 h3
    refine G_aload_n X dX6_type_14 0 rfl ?_
    refine G_get X (i0 := 0) (ci := 6) (j := 6) (C := RX6) (ref := RX6) (T := TX6) (N := 18) dX6_type_15 rfl rfl hiX6_type_X6 (by decide) flX6_type_213 rfl rfl ?_
    refine G_bipush X (v := 60) dX6_type_18 (by decide) ?_
    refine G_icmp_ne X (tgt := 26) dX6_type_20 (by decide) (fun h7 => ?_) (fun h7 => ?_)
    · have h8 := ifp h7 h6
      refine G_ldc X dX6_type_23 flX6_type_119 ?_
      cases h8
      exact rt _ _ _ _ dX6_type_25 ⟨rfl, rfl⟩
    · have h9 := ifn h7 h6
      refine G_aload_n X dX6_type_26 0 rfl ?_
      refine G_get X (i0 := 0) (ci := 6) (j := 5) (C := RX6) (ref := RX6) (T := TX6) (N := 18) dX6_type_27 rfl rfl hiX6_type_X6 (by decide) flX6_type_22 rfl rfl ?_
      refine G_aload_n X dX6_type_30 0 rfl ?_
      refine G_get X (i0 := 0) (ci := 6) (j := 6) (C := RX6) (ref := RX6) (T := TX6) (N := 18) dX6_type_31 rfl rfl hiX6_type_X6 (by decide) flX6_type_213 rfl rfl ?_
      refine G_iload_n X dX6_type_34 1 rfl ?_
      obtain ⟨g10, h11, h12⟩ := bnd h9
      refine G_iast X (i0 := 1) (ws' := [(h, .inr (6, [.ref h_s, .ref h_aside, .ref h_before, .ref h_past, .int i_h_known, .ref h_text, .int i_h_length, .ref h_lost, .int i_h_losts, .int i_h_bestOrder, .int i_h_bestMany, .int i_h_spot, .int i_h_begin, .int i_h_isForm, .int i_h_letter, .ref h_tells, .int i_h_faultReason, .int i_h_faultCause])), (h_text, .inl (cI, 60, .inl g10))]) dX6_type_35 rfl h11 rfl ?_
      refine G_aload_n X dX6_type_36 0 rfl ?_
      refine G_dup X dX6_type_37 rfl ?_
      refine G_get X (i0 := 0) (ci := 6) (j := 6) (C := RX6) (ref := RX6) (T := TX6) (N := 18) dX6_type_38 rfl rfl hiX6_type_X6 (by decide) flX6_type_213 rfl rfl ?_
      refine G_iconst X (v := 1) dX6_type_41 (by decide) ?_
      refine G_iadd X dX6_type_42 ?_
      refine G_put X (i0 := 0) (ci := 6) (j := 6) (C := RX6) (ref := RX6) (T := TX6) (N := 18) (ty := .int) (ws' := [(h, .inr (6, [.ref h_s, .ref h_aside, .ref h_before, .ref h_past, .int i_h_known, .ref h_text, .int (i_h_length + 1), .ref h_lost, .int i_h_losts, .int i_h_bestOrder, .int i_h_bestMany, .int i_h_spot, .int i_h_begin, .int i_h_isForm, .int i_h_letter, .ref h_tells, .int i_h_faultReason, .int i_h_faultCause])), (h_text, .inl (cI, 60, .inl g10))]) tyX6 dX6_type_43 rfl rfl hiX6_type_X6 tyX6_ok nmX6 (by decide) flX6_type_213 rfl rfl rfl rfl rfl (Nat.le_of_ble_eq_true rfl) rfl ?_
      refine G_aload_n X dX6_type_46 0 rfl ?_
      refine G_get X (i0 := 0) (ci := 6) (j := 6) (C := RX6) (ref := RX6) (T := TX6) (N := 18) dX6_type_47 rfl rfl hiX6_type_X6 (by decide) flX6_type_213 rfl rfl ?_
      cases h12
      exact rt _ _ _ _ dX6_type_50 ⟨rfl, rfl⟩
def rmX6_clearText : Room := { frames := 0, cells := 0, slots := 0, locals := 0 }
theorem pkX6_clearText : cK yX6_clearText wsX6_clearText cX6_clearText 2 (some .int) 0 RX6 := ⟨⟨_, rfl⟩, by decide +kernel⟩
theorem hiX6_clearText_X6 : ∀ w ∈ wsX60, w ∈ wsX6_clearText := by decide +kernel
theorem flX6_clearText_213 : Cond.fieldLink RX6 213 "EchoMarginsModel" "length" "I" ∈ wsX6_clearText := by decide +kernel
set_option maxHeartbeats 4000000 in
set_option maxRecDepth 100000 in
theorem kkX6_clearText (l : Launch) (D : va_G) (cI cR : ClassId) (h h_s h_aside h_before h_past h_text h_lost h_tells : Nat) (i_h_known : Int32) (i_h_length : Int32) (i_h_losts : Int32) (i_h_bestOrder : Int32) (i_h_bestMany : Int32) (i_h_spot : Int32) (i_h_begin : Int32) (i_h_isForm : Int32) (i_h_letter : Int32) (i_h_faultReason : Int32) (i_h_faultCause : Int32) (z : (Int32 × Int32)) (hz : MX6_clearText i_h_length = some z) : cI1 l yX6_clearText wsX6_clearText rmX6_clearText D cI cR [.ref h] [(h, .inr (6, [.ref h_s, .ref h_aside, .ref h_before, .ref h_past, .int i_h_known, .ref h_text, .int i_h_length, .ref h_lost, .int i_h_losts, .int i_h_bestOrder, .int i_h_bestMany, .int i_h_spot, .int i_h_begin, .int i_h_isForm, .int i_h_letter, .ref h_tells, .int i_h_faultReason, .int i_h_faultCause]))] z.1 [(h, .inr (6, [.ref h_s, .ref h_aside, .ref h_before, .ref h_past, .int i_h_known, .ref h_text, .int z.2, .ref h_lost, .int i_h_losts, .int i_h_bestOrder, .int i_h_bestMany, .int i_h_spot, .int i_h_begin, .int i_h_isForm, .int i_h_letter, .ref h_tells, .int i_h_faultReason, .int i_h_faultCause]))] := by
  unfold MX6_clearText at hz
  refine kI_of (cc := cX6_clearText) (maxL := 2) (own := RX6) (by decide +kernel) rfl rfl (Nat.le_of_ble_eq_true rfl) (lv0 := [(0, .ref h)]) rfl (fun p e s m args below meth c A Q X rt => ?_)
  refine G_aload_n X dX6_clearText_0 0 rfl ?_
  refine G_get X (i0 := 0) (ci := 6) (j := 6) (C := RX6) (ref := RX6) (T := TX6) (N := 18) dX6_clearText_1 rfl rfl hiX6_clearText_X6 (by decide) flX6_clearText_213 rfl rfl ?_
  refine G_istore_n X (lv' := [(1, .int i_h_length), (0, .ref h)]) dX6_clearText_4 (by decide) rfl ?_
  refine G_aload_n X dX6_clearText_5 1 rfl ?_
  refine G_iconst X (v := 0) dX6_clearText_6 (by decide) ?_
  refine G_put X (i0 := 0) (ci := 6) (j := 6) (C := RX6) (ref := RX6) (T := TX6) (N := 18) (ty := .int) (ws' := [(h, .inr (6, [.ref h_s, .ref h_aside, .ref h_before, .ref h_past, .int i_h_known, .ref h_text, .int 0, .ref h_lost, .int i_h_losts, .int i_h_bestOrder, .int i_h_bestMany, .int i_h_spot, .int i_h_begin, .int i_h_isForm, .int i_h_letter, .ref h_tells, .int i_h_faultReason, .int i_h_faultCause]))]) tyX6 dX6_clearText_7 rfl rfl hiX6_clearText_X6 tyX6_ok nmX6 (by decide) flX6_clearText_213 rfl rfl rfl rfl rfl (Nat.le_of_ble_eq_true rfl) rfl ?_
  refine G_iload_n X dX6_clearText_10 0 rfl ?_
  cases hz
  exact rt _ _ _ _ dX6_clearText_11 ⟨rfl, rfl⟩
def rmX6_here : Room := { frames := 0, cells := 0, slots := 0, locals := 0 }
theorem pkX6_here : cK yX6_here wsX6_here cX6_here 1 (some .int) 0 RX6 := ⟨⟨_, rfl⟩, by decide +kernel⟩
theorem hiX6_here_X6 : ∀ w ∈ wsX60, w ∈ wsX6_here := by decide +kernel
theorem flX6_here_216 : Cond.fieldLink RX6 216 "EchoMarginsModel" "spot" "I" ∈ wsX6_here := by decide +kernel
theorem flX6_here_213 : Cond.fieldLink RX6 213 "EchoMarginsModel" "length" "I" ∈ wsX6_here := by decide +kernel
theorem flX6_here_22 : Cond.fieldLink RX6 22 "EchoMarginsModel" "text" "[I" ∈ wsX6_here := by decide +kernel
set_option maxHeartbeats 4000000 in
set_option maxRecDepth 100000 in
theorem kkX6_here (l : Launch) (D : va_G) (cI cR : ClassId) (h h_s h_aside h_before h_past h_text h_lost h_tells : Nat) (i_h_known : Int32) (i_h_length : Int32) (i_h_losts : Int32) (i_h_bestOrder : Int32) (i_h_bestMany : Int32) (i_h_spot : Int32) (i_h_begin : Int32) (i_h_isForm : Int32) (i_h_letter : Int32) (i_h_faultReason : Int32) (i_h_faultCause : Int32) (f_h_text : Nat → Int32) (z : Int32) (hz : MX6_here i_h_length i_h_spot f_h_text = some z) : cI1 l yX6_here wsX6_here rmX6_here D cI cR [.ref h] [(h, .inr (6, [.ref h_s, .ref h_aside, .ref h_before, .ref h_past, .int i_h_known, .ref h_text, .int i_h_length, .ref h_lost, .int i_h_losts, .int i_h_bestOrder, .int i_h_bestMany, .int i_h_spot, .int i_h_begin, .int i_h_isForm, .int i_h_letter, .ref h_tells, .int i_h_faultReason, .int i_h_faultCause])), (h_text, .inl (cI, 60, .inl f_h_text))] z [(h, .inr (6, [.ref h_s, .ref h_aside, .ref h_before, .ref h_past, .int i_h_known, .ref h_text, .int i_h_length, .ref h_lost, .int i_h_losts, .int i_h_bestOrder, .int i_h_bestMany, .int i_h_spot, .int i_h_begin, .int i_h_isForm, .int i_h_letter, .ref h_tells, .int i_h_faultReason, .int i_h_faultCause])), (h_text, .inl (cI, 60, .inl f_h_text))] := by
  unfold MX6_here at hz
  refine kI_of (cc := cX6_here) (maxL := 1) (own := RX6) (by decide +kernel) rfl rfl (Nat.le_of_ble_eq_true rfl) (lv0 := [(0, .ref h)]) rfl (fun p e s m args below meth c A Q X rt => ?_)
  refine G_aload_n X dX6_here_0 0 rfl ?_
  refine G_get X (i0 := 0) (ci := 6) (j := 11) (C := RX6) (ref := RX6) (T := TX6) (N := 18) dX6_here_1 rfl rfl hiX6_here_X6 (by decide) flX6_here_216 rfl rfl ?_
  refine G_aload_n X dX6_here_4 0 rfl ?_
  refine G_get X (i0 := 0) (ci := 6) (j := 6) (C := RX6) (ref := RX6) (T := TX6) (N := 18) dX6_here_5 rfl rfl hiX6_here_X6 (by decide) flX6_here_213 rfl rfl ?_
  refine G_icmp_ge X (tgt := 23) dX6_here_8 (by decide) (fun h1 => ?_) (fun h1 => ?_)
  · have h2 := ifp h1 hz
    refine G_iconst X (v := 0) dX6_here_23 (by decide) ?_
    cases h2
    exact rt _ _ _ _ dX6_here_24 ⟨rfl, rfl⟩
  · have h3 := ifn h1 hz
    refine G_aload_n X dX6_here_11 0 rfl ?_
    refine G_get X (i0 := 0) (ci := 6) (j := 5) (C := RX6) (ref := RX6) (T := TX6) (N := 18) dX6_here_12 rfl rfl hiX6_here_X6 (by decide) flX6_here_22 rfl rfl ?_
    refine G_aload_n X dX6_here_15 0 rfl ?_
    refine G_get X (i0 := 0) (ci := 6) (j := 11) (C := RX6) (ref := RX6) (T := TX6) (N := 18) dX6_here_16 rfl rfl hiX6_here_X6 (by decide) flX6_here_216 rfl rfl ?_
    obtain ⟨v4, h5, h6⟩ := bnd h3
    refine G_iald X (i0 := 1) dX6_here_19 rfl h5 ?_
    refine G_goto X (tgt := 24) dX6_here_20 (by decide) ?_
    cases h6
    exact rt _ _ _ _ dX6_here_24 ⟨rfl, rfl⟩
def rmX6_takes : Room := { frames := 0, cells := 0, slots := 0, locals := 0 }
theorem pkX6_takes : cK yX6_takes wsX6_takes cX6_takes 2 none 1 RX6 := ⟨⟨_, rfl⟩, by decide +kernel⟩
theorem hiX6_takes_X6 : ∀ w ∈ wsX60, w ∈ wsX6_takes := by decide +kernel
theorem flX6_takes_219 : Cond.fieldLink RX6 219 "EchoMarginsModel" "isForm" "Z" ∈ wsX6_takes := by decide +kernel
theorem flX6_takes_216 : Cond.fieldLink RX6 216 "EchoMarginsModel" "spot" "I" ∈ wsX6_takes := by decide +kernel
set_option maxHeartbeats 4000000 in
set_option maxRecDepth 100000 in
theorem kkX6_takes (l : Launch) (D : va_G) (cI cR : ClassId) (h h_s h_aside h_before h_past h_text h_lost h_tells : Nat) (i_h_known : Int32) (i_h_length : Int32) (i_h_losts : Int32) (i_h_bestOrder : Int32) (i_h_bestMany : Int32) (i_h_spot : Int32) (i_h_begin : Int32) (i_h_isForm : Int32) (i_h_letter : Int32) (i_h_faultReason : Int32) (i_h_faultCause : Int32) (x0 : Int32) (z : (Int32 × Int32)) (hz : MX6_takes i_h_spot i_h_isForm x0 = some z) : cV1 l yX6_takes wsX6_takes rmX6_takes D cI cR [.ref h, .int x0] [(h, .inr (6, [.ref h_s, .ref h_aside, .ref h_before, .ref h_past, .int i_h_known, .ref h_text, .int i_h_length, .ref h_lost, .int i_h_losts, .int i_h_bestOrder, .int i_h_bestMany, .int i_h_spot, .int i_h_begin, .int i_h_isForm, .int i_h_letter, .ref h_tells, .int i_h_faultReason, .int i_h_faultCause]))] [(h, .inr (6, [.ref h_s, .ref h_aside, .ref h_before, .ref h_past, .int i_h_known, .ref h_text, .int i_h_length, .ref h_lost, .int i_h_losts, .int i_h_bestOrder, .int i_h_bestMany, .int z.1, .int i_h_begin, .int z.2, .int i_h_letter, .ref h_tells, .int i_h_faultReason, .int i_h_faultCause]))] := by
  unfold MX6_takes at hz
  refine kV_of (cc := cX6_takes) (maxL := 2) (own := RX6) (by decide +kernel) rfl rfl (Nat.le_of_ble_eq_true rfl) (lv0 := [(0, .ref h), (1, .int x0)]) rfl (fun p e s m args below meth c A Q X rt => ?_)
  refine G_aload_n X dX6_takes_0 0 rfl ?_
  refine G_aload_n X dX6_takes_1 0 rfl ?_
  refine G_get X (i0 := 0) (ci := 6) (j := 13) (C := RX6) (ref := RX6) (T := TX6) (N := 18) dX6_takes_2 rfl rfl hiX6_takes_X6 (by decide) flX6_takes_219 rfl rfl ?_
  obtain ⟨w2, h3, h4⟩ := bnd hz
  have J5 : ∀ j1, w2 = .inl j1 → G p l e rmX6_takes s m args below meth c D A 2 Q 0 0 16 [(0, .ref h)] [.ref h] [(h, .inr (6, [.ref h_s, .ref h_aside, .ref h_before, .ref h_past, .int i_h_known, .ref h_text, .int i_h_length, .ref h_lost, .int i_h_losts, .int i_h_bestOrder, .int i_h_bestMany, .int i_h_spot, .int i_h_begin, .int i_h_isForm, .int i_h_letter, .ref h_tells, .int i_h_faultReason, .int i_h_faultCause]))] := by
    intro j1 q
    subst q
    have h6 := cnt_l h4
    refine G_iconst X (v := 0) dX6_takes_16 (by decide) ?_
    refine G_put X (i0 := 0) (ci := 6) (j := 13) (C := RX6) (ref := RX6) (T := TX6) (N := 18) (ty := .boolean) (ws' := [(h, .inr (6, [.ref h_s, .ref h_aside, .ref h_before, .ref h_past, .int i_h_known, .ref h_text, .int i_h_length, .ref h_lost, .int i_h_losts, .int i_h_bestOrder, .int i_h_bestMany, .int i_h_spot, .int i_h_begin, .int 0, .int i_h_letter, .ref h_tells, .int i_h_faultReason, .int i_h_faultCause]))]) tyX6 dX6_takes_17 rfl rfl hiX6_takes_X6 tyX6_ok nmX6 (by decide) flX6_takes_219 rfl rfl rfl rfl rfl (Nat.le_of_ble_eq_true rfl) rfl ?_
    refine G_aload_n X dX6_takes_20 0 rfl ?_
    refine G_dup X dX6_takes_21 rfl ?_
    refine G_get X (i0 := 0) (ci := 6) (j := 11) (C := RX6) (ref := RX6) (T := TX6) (N := 18) dX6_takes_22 rfl rfl hiX6_takes_X6 (by decide) flX6_takes_216 rfl rfl ?_
    refine G_aload_n X dX6_takes_25 0 rfl ?_
    refine G_get X (i0 := 0) (ci := 6) (j := 13) (C := RX6) (ref := RX6) (T := TX6) (N := 18) dX6_takes_26 rfl rfl hiX6_takes_X6 (by decide) flX6_takes_219 rfl rfl ?_
    refine G_if_eq X (tgt := 36) dX6_takes_29 (by decide) (fun _ => ?_) (fun q => absurd (by decide) q)
    refine G_iconst X (v := 0) dX6_takes_36 (by decide) ?_
    refine G_iadd X dX6_takes_37 ?_
    refine G_put X (i0 := 0) (ci := 6) (j := 11) (C := RX6) (ref := RX6) (T := TX6) (N := 18) (ty := .int) (ws' := [(h, .inr (6, [.ref h_s, .ref h_aside, .ref h_before, .ref h_past, .int i_h_known, .ref h_text, .int i_h_length, .ref h_lost, .int i_h_losts, .int i_h_bestOrder, .int i_h_bestMany, .int (i_h_spot + 0), .int i_h_begin, .int 0, .int i_h_letter, .ref h_tells, .int i_h_faultReason, .int i_h_faultCause]))]) tyX6 dX6_takes_38 rfl rfl hiX6_takes_X6 tyX6_ok nmX6 (by decide) flX6_takes_216 rfl rfl rfl rfl rfl (Nat.le_of_ble_eq_true rfl) rfl ?_
    cases h6
    exact rt _ _ _ dX6_takes_41 rfl
  refine G_if_eq X (tgt := 16) dX6_takes_5 (by decide) (fun h7 => ?_) (fun h7 => ?_)
  · have h8 := ifp h7 h3
    cases h8
    exact G_lv [0] rfl (J5 _ rfl)
  · have h9 := ifn h7 h3
    refine G_iload_n X dX6_takes_8 1 rfl ?_
    refine G_if_eq X (tgt := 16) dX6_takes_9 (by decide) (fun h10 => ?_) (fun h10 => ?_)
    · have h11 := ifp h10 h9
      cases h11
      exact G_lv [0] rfl (J5 _ rfl)
    · have h12 := ifn h10 h9
      refine G_iconst X (v := 1) dX6_takes_12 (by decide) ?_
      refine G_goto X (tgt := 17) dX6_takes_13 (by decide) ?_
      refine G_put X (i0 := 0) (ci := 6) (j := 13) (C := RX6) (ref := RX6) (T := TX6) (N := 18) (ty := .boolean) (ws' := [(h, .inr (6, [.ref h_s, .ref h_aside, .ref h_before, .ref h_past, .int i_h_known, .ref h_text, .int i_h_length, .ref h_lost, .int i_h_losts, .int i_h_bestOrder, .int i_h_bestMany, .int i_h_spot, .int i_h_begin, .int 1, .int i_h_letter, .ref h_tells, .int i_h_faultReason, .int i_h_faultCause]))]) tyX6 dX6_takes_17 rfl rfl hiX6_takes_X6 tyX6_ok nmX6 (by decide) flX6_takes_219 rfl rfl rfl rfl rfl (Nat.le_of_ble_eq_true rfl) rfl ?_
      refine G_aload_n X dX6_takes_20 0 rfl ?_
      refine G_dup X dX6_takes_21 rfl ?_
      refine G_get X (i0 := 0) (ci := 6) (j := 11) (C := RX6) (ref := RX6) (T := TX6) (N := 18) dX6_takes_22 rfl rfl hiX6_takes_X6 (by decide) flX6_takes_216 rfl rfl ?_
      refine G_aload_n X dX6_takes_25 0 rfl ?_
      refine G_get X (i0 := 0) (ci := 6) (j := 13) (C := RX6) (ref := RX6) (T := TX6) (N := 18) dX6_takes_26 rfl rfl hiX6_takes_X6 (by decide) flX6_takes_219 rfl rfl ?_
      refine G_if_eq X (tgt := 36) dX6_takes_29 (by decide) (fun q => absurd q (by decide)) (fun _ => ?_)
      refine G_iconst X (v := 1) dX6_takes_32 (by decide) ?_
      refine G_goto X (tgt := 37) dX6_takes_33 (by decide) ?_
      refine G_iadd X dX6_takes_37 ?_
      refine G_put X (i0 := 0) (ci := 6) (j := 11) (C := RX6) (ref := RX6) (T := TX6) (N := 18) (ty := .int) (ws' := [(h, .inr (6, [.ref h_s, .ref h_aside, .ref h_before, .ref h_past, .int i_h_known, .ref h_text, .int i_h_length, .ref h_lost, .int i_h_losts, .int i_h_bestOrder, .int i_h_bestMany, .int (i_h_spot + 1), .int i_h_begin, .int 1, .int i_h_letter, .ref h_tells, .int i_h_faultReason, .int i_h_faultCause]))]) tyX6 dX6_takes_38 rfl rfl hiX6_takes_X6 tyX6_ok nmX6 (by decide) flX6_takes_216 rfl rfl rfl rfl rfl (Nat.le_of_ble_eq_true rfl) rfl ?_
      cases h12
      have h13 := congrArg some (cnt_r h4)
      cases h13
      exact rt _ _ _ dX6_takes_41 rfl
def rmX6_takesNumber : Room := { frames := 1, cells := 0, slots := 0, locals := 22 }
theorem pkX6_takesNumber : cK yX6_takesNumber wsX6_takesNumber cX6_takesNumber 4 none 1 RX6 := ⟨⟨_, rfl⟩, by decide +kernel⟩
theorem hiX6_takesNumber_X6 : ∀ w ∈ wsX60, w ∈ wsX6_takesNumber := by decide +kernel
theorem flX6_takesNumber_219 : Cond.fieldLink RX6 219 "EchoMarginsModel" "isForm" "Z" ∈ wsX6_takesNumber := by decide +kernel
theorem flX6_takesNumber_216 : Cond.fieldLink RX6 216 "EchoMarginsModel" "spot" "I" ∈ wsX6_takesNumber := by decide +kernel
theorem flX6_takesNumber_28 : Cond.fieldLink RX6 28 "EchoMarginsModel" "tells" "[I" ∈ wsX6_takesNumber := by decide +kernel
set_option maxHeartbeats 4000000 in
set_option maxRecDepth 100000 in
theorem kkX6_takesNumber (l : Launch) (D : va_G) (cI cR : ClassId) (h h_s h_aside h_before h_past h_text h_lost h_tells : Nat) (i_h_known : Int32) (i_h_length : Int32) (i_h_losts : Int32) (i_h_bestOrder : Int32) (i_h_bestMany : Int32) (i_h_spot : Int32) (i_h_begin : Int32) (i_h_isForm : Int32) (i_h_letter : Int32) (i_h_faultReason : Int32) (i_h_faultCause : Int32) (f_h_text : Nat → Int32) (f_h_tells : Nat → Int32) (x0 : Int32) (z : (Int32 × Int32 × (Nat → Int32))) (hz : MX6_takesNumber i_h_length i_h_spot i_h_isForm f_h_text f_h_tells x0 = some z) : cV1 l yX6_takesNumber wsX6_takesNumber rmX6_takesNumber D cI cR [.ref h, .int x0] [(h, .inr (6, [.ref h_s, .ref h_aside, .ref h_before, .ref h_past, .int i_h_known, .ref h_text, .int i_h_length, .ref h_lost, .int i_h_losts, .int i_h_bestOrder, .int i_h_bestMany, .int i_h_spot, .int i_h_begin, .int i_h_isForm, .int i_h_letter, .ref h_tells, .int i_h_faultReason, .int i_h_faultCause])), (h_text, .inl (cI, 60, .inl f_h_text)), (h_tells, .inl (cI, 3, .inl f_h_tells))] [(h, .inr (6, [.ref h_s, .ref h_aside, .ref h_before, .ref h_past, .int i_h_known, .ref h_text, .int i_h_length, .ref h_lost, .int i_h_losts, .int i_h_bestOrder, .int i_h_bestMany, .int z.1, .int i_h_begin, .int z.2.1, .int i_h_letter, .ref h_tells, .int i_h_faultReason, .int i_h_faultCause])), (h_text, .inl (cI, 60, .inl f_h_text)), (h_tells, .inl (cI, 3, .inl z.2.2))] := by
  unfold MX6_takesNumber at hz
  refine kV_of (cc := cX6_takesNumber) (maxL := 4) (own := RX6) (by decide +kernel) rfl rfl (Nat.le_of_ble_eq_true rfl) (lv0 := [(0, .ref h), (1, .int x0)]) rfl (fun p e s m args below meth c A Q X rt => ?_)
  refine G_iconst X (v := 0) dX6_takesNumber_0 (by decide) ?_
  refine G_istore_n X (lv' := [(2, .int 0), (0, .ref h), (1, .int x0)]) dX6_takesNumber_1 (by decide) rfl ?_
  refine G_iconst X (v := 0) dX6_takesNumber_2 (by decide) ?_
  refine G_istore_n X (lv' := [(3, .int 0), (2, .int 0), (0, .ref h), (1, .int x0)]) dX6_takesNumber_3 (by decide) rfl ?_
  obtain ⟨j2, h3, h4⟩ := bnd hz
  have J9 : G p l e rmX6_takesNumber s m args below meth c D A 4 Q 0 0 59 [(0, .ref h), (1, .int x0), (2, .int j2.1), (3, .int j2.2.1)] [] [(h, .inr (6, [.ref h_s, .ref h_aside, .ref h_before, .ref h_past, .int i_h_known, .ref h_text, .int i_h_length, .ref h_lost, .int i_h_losts, .int i_h_bestOrder, .int i_h_bestMany, .int j2.2.2, .int i_h_begin, .int i_h_isForm, .int i_h_letter, .ref h_tells, .int i_h_faultReason, .int i_h_faultCause])), (h_text, .inl (cI, 60, .inl f_h_text)), (h_tells, .inl (cI, 3, .inl f_h_tells))] := by
    refine G_aload_n X dX6_takesNumber_59 0 rfl ?_
    refine G_aload_n X dX6_takesNumber_60 0 rfl ?_
    refine G_get X (i0 := 0) (ci := 6) (j := 13) (C := RX6) (ref := RX6) (T := TX6) (N := 18) dX6_takesNumber_61 rfl rfl hiX6_takesNumber_X6 (by decide) flX6_takesNumber_219 rfl rfl ?_
    obtain ⟨w12, h13, h14⟩ := bnd h4
    have J15 : ∀ j11, w12 = .inl j11 → G p l e rmX6_takesNumber s m args below meth c D A 4 Q 0 0 75 [(0, .ref h), (1, .int x0), (2, .int j2.1)] [.ref h] [(h, .inr (6, [.ref h_s, .ref h_aside, .ref h_before, .ref h_past, .int i_h_known, .ref h_text, .int i_h_length, .ref h_lost, .int i_h_losts, .int i_h_bestOrder, .int i_h_bestMany, .int j2.2.2, .int i_h_begin, .int i_h_isForm, .int i_h_letter, .ref h_tells, .int i_h_faultReason, .int i_h_faultCause])), (h_text, .inl (cI, 60, .inl f_h_text)), (h_tells, .inl (cI, 3, .inl f_h_tells))] := by
      intro j11 q
      subst q
      have h16 := cnt_l h14
      refine G_iconst X (v := 0) dX6_takesNumber_75 (by decide) ?_
      refine G_put X (i0 := 0) (ci := 6) (j := 13) (C := RX6) (ref := RX6) (T := TX6) (N := 18) (ty := .boolean) (ws' := [(h, .inr (6, [.ref h_s, .ref h_aside, .ref h_before, .ref h_past, .int i_h_known, .ref h_text, .int i_h_length, .ref h_lost, .int i_h_losts, .int i_h_bestOrder, .int i_h_bestMany, .int j2.2.2, .int i_h_begin, .int 0, .int i_h_letter, .ref h_tells, .int i_h_faultReason, .int i_h_faultCause])), (h_text, .inl (cI, 60, .inl f_h_text)), (h_tells, .inl (cI, 3, .inl f_h_tells))]) tyX6 dX6_takesNumber_76 rfl rfl hiX6_takesNumber_X6 tyX6_ok nmX6 (by decide) flX6_takesNumber_219 rfl rfl rfl rfl rfl (Nat.le_of_ble_eq_true rfl) rfl ?_
      refine G_aload_n X dX6_takesNumber_79 0 rfl ?_
      refine G_get X (i0 := 0) (ci := 6) (j := 15) (C := RX6) (ref := RX6) (T := TX6) (N := 18) dX6_takesNumber_80 rfl rfl hiX6_takesNumber_X6 (by decide) flX6_takesNumber_28 rfl rfl ?_
      refine G_iload_n X dX6_takesNumber_83 1 rfl ?_
      refine G_iload_n X dX6_takesNumber_84 2 rfl ?_
      obtain ⟨g17, h18, h19⟩ := bnd h16
      refine G_iast X (i0 := 2) (ws' := [(h, .inr (6, [.ref h_s, .ref h_aside, .ref h_before, .ref h_past, .int i_h_known, .ref h_text, .int i_h_length, .ref h_lost, .int i_h_losts, .int i_h_bestOrder, .int i_h_bestMany, .int j2.2.2, .int i_h_begin, .int 0, .int i_h_letter, .ref h_tells, .int i_h_faultReason, .int i_h_faultCause])), (h_text, .inl (cI, 60, .inl f_h_text)), (h_tells, .inl (cI, 3, .inl g17))]) dX6_takesNumber_85 rfl h18 rfl ?_
      cases h19
      exact rt _ _ _ dX6_takesNumber_86 rfl
    refine G_if_eq X (tgt := 75) dX6_takesNumber_64 (by decide) (fun h20 => ?_) (fun h20 => ?_)
    · have h21 := ifp h20 h13
      cases h21
      exact G_lv [0, 1, 2] rfl (J15 _ rfl)
    · have h22 := ifn h20 h13
      refine G_iload_n X dX6_takesNumber_67 3 rfl ?_
      refine G_if_le X (tgt := 75) dX6_takesNumber_68 (by decide) (fun h23 => ?_) (fun h23 => ?_)
      · have h24 := ifp h23 h22
        cases h24
        exact G_lv [0, 1, 2] rfl (J15 _ rfl)
      · have h25 := ifn h23 h22
        refine G_iconst X (v := 1) dX6_takesNumber_71 (by decide) ?_
        refine G_goto X (tgt := 76) dX6_takesNumber_72 (by decide) ?_
        refine G_put X (i0 := 0) (ci := 6) (j := 13) (C := RX6) (ref := RX6) (T := TX6) (N := 18) (ty := .boolean) (ws' := [(h, .inr (6, [.ref h_s, .ref h_aside, .ref h_before, .ref h_past, .int i_h_known, .ref h_text, .int i_h_length, .ref h_lost, .int i_h_losts, .int i_h_bestOrder, .int i_h_bestMany, .int j2.2.2, .int i_h_begin, .int 1, .int i_h_letter, .ref h_tells, .int i_h_faultReason, .int i_h_faultCause])), (h_text, .inl (cI, 60, .inl f_h_text)), (h_tells, .inl (cI, 3, .inl f_h_tells))]) tyX6 dX6_takesNumber_76 rfl rfl hiX6_takesNumber_X6 tyX6_ok nmX6 (by decide) flX6_takesNumber_219 rfl rfl rfl rfl rfl (Nat.le_of_ble_eq_true rfl) rfl ?_
        refine G_aload_n X dX6_takesNumber_79 0 rfl ?_
        refine G_get X (i0 := 0) (ci := 6) (j := 15) (C := RX6) (ref := RX6) (T := TX6) (N := 18) dX6_takesNumber_80 rfl rfl hiX6_takesNumber_X6 (by decide) flX6_takesNumber_28 rfl rfl ?_
        refine G_iload_n X dX6_takesNumber_83 1 rfl ?_
        refine G_iload_n X dX6_takesNumber_84 2 rfl ?_
        obtain ⟨g26, h27, h28⟩ := bnd h25
        refine G_iast X (i0 := 2) (ws' := [(h, .inr (6, [.ref h_s, .ref h_aside, .ref h_before, .ref h_past, .int i_h_known, .ref h_text, .int i_h_length, .ref h_lost, .int i_h_losts, .int i_h_bestOrder, .int i_h_bestMany, .int j2.2.2, .int i_h_begin, .int 1, .int i_h_letter, .ref h_tells, .int i_h_faultReason, .int i_h_faultCause])), (h_text, .inl (cI, 60, .inl f_h_text)), (h_tells, .inl (cI, 3, .inl g26))]) dX6_takesNumber_85 rfl h27 rfl ?_
        cases h28
        have h29 := congrArg some (cnt_r h14)
        cases h29
        exact rt _ _ _ dX6_takesNumber_86 rfl
  refine G_lv [2, 3, 1, 0] rfl ?_
  refine itr_ind (P := fun s1 : (Int32 × Int32 × Int32) => G p l e rmX6_takesNumber s m args below meth c D A 4 Q 0 0 4 [(0, .ref h), (1, .int x0), (2, .int s1.1), (3, .int s1.2.1)] [] [(h, .inr (6, [.ref h_s, .ref h_aside, .ref h_before, .ref h_past, .int i_h_known, .ref h_text, .int i_h_length, .ref h_lost, .int i_h_losts, .int i_h_bestOrder, .int i_h_bestMany, .int s1.2.2, .int i_h_begin, .int i_h_isForm, .int i_h_letter, .ref h_tells, .int i_h_faultReason, .int i_h_faultCause])), (h_text, .inl (cI, 60, .inl f_h_text)), (h_tells, .inl (cI, 3, .inl f_h_tells))]) (fun s1 o8 h5 h6 h7 => ?_) FU _ h3
  unfold SX6_takesNumber_4 at h5
  refine G_aload_n X dX6_takesNumber_4 0 rfl ?_
  refine G_get X (i0 := 0) (ci := 6) (j := 13) (C := RX6) (ref := RX6) (T := TX6) (N := 18) dX6_takesNumber_5 rfl rfl hiX6_takesNumber_X6 (by decide) flX6_takesNumber_219 rfl rfl ?_
  refine G_if_eq X (tgt := 59) dX6_takesNumber_8 (by decide) (fun h30 => ?_) (fun h30 => ?_)
  · have h31 := ifp h30 h5
    cases h31
    have h32 := h7 _ rfl
    subst h32
    exact J9
  · have h33 := ifn h30 h5
    refine G_iload_n X dX6_takesNumber_11 3 rfl ?_
    refine G_iconst X (v := 3) dX6_takesNumber_12 (by decide) ?_
    refine G_icmp_ge X (tgt := 59) dX6_takesNumber_13 (by decide) (fun h34 => ?_) (fun h34 => ?_)
    · have h35 := ifp h34 h33
      cases h35
      have h36 := h7 _ rfl
      subst h36
      exact J9
    · have h37 := ifn h34 h33
      refine G_aload_n X dX6_takesNumber_16 0 rfl ?_
      obtain ⟨v38, h39, h40⟩ := bnd h37
      refine G1_calli X (As := []) (rest := []) (wr := [(h_tells, .inl (cI, 3, .inl f_h_tells))]) (ws' := [(h, .inr (6, [.ref h_s, .ref h_aside, .ref h_before, .ref h_past, .int i_h_known, .ref h_text, .int i_h_length, .ref h_lost, .int i_h_losts, .int i_h_bestOrder, .int i_h_bestMany, .int s1.2.2, .int i_h_begin, .int i_h_isForm, .int i_h_letter, .ref h_tells, .int i_h_faultReason, .int i_h_faultCause])), (h_text, .inl (cI, 60, .inl f_h_text)), (h_tells, .inl (cI, 3, .inl f_h_tells))]) dX6_takesNumber_17 pkX6_here gX6_takesNumber_X6_here (kkX6_here l D cI cR h h_s h_aside h_before h_past h_text h_lost h_tells i_h_known i_h_length i_h_losts i_h_bestOrder i_h_bestMany s1.2.2 i_h_begin i_h_isForm i_h_letter i_h_faultReason i_h_faultCause f_h_text v38 h39) ⟨rfl, rfl⟩ ⟨Nat.le_of_ble_eq_true rfl, Nat.le_of_ble_eq_true rfl⟩ rfl rfl (Nat.le_of_ble_eq_true rfl) 0 rfl rfl [0, 1] [2] rfl rfl ⟨rfl, rfl, by decide⟩ ⟨Nat.zero_le _, Nat.zero_le _⟩ [1, 2, 0] rfl rfl ?_
      refine G_bipush X (v := 48) dX6_takesNumber_20 (by decide) ?_
      refine G_bipush X (v := 57) dX6_takesNumber_22 (by decide) ?_
      obtain ⟨v41, h42, h43⟩ := bnd h40
      refine G1_callsi X (As := [.int v38, .int 48, .int 57]) (rest := []) (wr := [(h, .inr (6, [.ref h_s, .ref h_aside, .ref h_before, .ref h_past, .int i_h_known, .ref h_text, .int i_h_length, .ref h_lost, .int i_h_losts, .int i_h_bestOrder, .int i_h_bestMany, .int s1.2.2, .int i_h_begin, .int i_h_isForm, .int i_h_letter, .ref h_tells, .int i_h_faultReason, .int i_h_faultCause])), (h_text, .inl (cI, 60, .inl f_h_text)), (h_tells, .inl (cI, 3, .inl f_h_tells))]) (ws' := [(h, .inr (6, [.ref h_s, .ref h_aside, .ref h_before, .ref h_past, .int i_h_known, .ref h_text, .int i_h_length, .ref h_lost, .int i_h_losts, .int i_h_bestOrder, .int i_h_bestMany, .int s1.2.2, .int i_h_begin, .int i_h_isForm, .int i_h_letter, .ref h_tells, .int i_h_faultReason, .int i_h_faultCause])), (h_text, .inl (cI, 60, .inl f_h_text)), (h_tells, .inl (cI, 3, .inl f_h_tells))]) dX6_takesNumber_24 pkX6_in gX6_takesNumber_X6_in (kkX6_in l D cI cR v38 48 57 v41 h42) ⟨rfl, rfl⟩ ⟨Nat.le_of_ble_eq_true rfl, Nat.le_of_ble_eq_true rfl⟩ rfl rfl (Nat.le_of_ble_eq_true rfl) [] [0, 1, 2] rfl rfl ⟨rfl, rfl, by decide⟩ ⟨Nat.zero_le _, Nat.zero_le _⟩ [0, 1, 2] rfl rfl ?_
      refine G_if_eq X (tgt := 59) dX6_takesNumber_27 (by decide) (fun h44 => ?_) (fun h44 => ?_)
      · have h45 := ifp h44 h43
        cases h45
        have h46 := h7 _ rfl
        subst h46
        exact J9
      · have h47 := ifn h44 h43
        refine G_bipush X (v := 10) dX6_takesNumber_30 (by decide) ?_
        refine G_iload_n X dX6_takesNumber_32 2 rfl ?_
        refine G_imul X dX6_takesNumber_33 ?_
        refine G_aload_n X dX6_takesNumber_34 0 rfl ?_
        obtain ⟨v48, h49, h50⟩ := bnd h47
        refine G1_calli X (As := []) (rest := [.int (10 * s1.1)]) (wr := [(h_tells, .inl (cI, 3, .inl f_h_tells))]) (ws' := [(h, .inr (6, [.ref h_s, .ref h_aside, .ref h_before, .ref h_past, .int i_h_known, .ref h_text, .int i_h_length, .ref h_lost, .int i_h_losts, .int i_h_bestOrder, .int i_h_bestMany, .int s1.2.2, .int i_h_begin, .int i_h_isForm, .int i_h_letter, .ref h_tells, .int i_h_faultReason, .int i_h_faultCause])), (h_text, .inl (cI, 60, .inl f_h_text)), (h_tells, .inl (cI, 3, .inl f_h_tells))]) dX6_takesNumber_35 pkX6_here gX6_takesNumber_X6_here (kkX6_here l D cI cR h h_s h_aside h_before h_past h_text h_lost h_tells i_h_known i_h_length i_h_losts i_h_bestOrder i_h_bestMany s1.2.2 i_h_begin i_h_isForm i_h_letter i_h_faultReason i_h_faultCause f_h_text v48 h49) ⟨rfl, rfl⟩ ⟨Nat.le_of_ble_eq_true rfl, Nat.le_of_ble_eq_true rfl⟩ rfl rfl (Nat.le_of_ble_eq_true rfl) 0 rfl rfl [0, 1] [2] rfl rfl ⟨rfl, rfl, by decide⟩ ⟨Nat.zero_le _, Nat.zero_le _⟩ [1, 2, 0] rfl rfl ?_
        refine G_iadd X dX6_takesNumber_38 ?_
        refine G_bipush X (v := 48) dX6_takesNumber_39 (by decide) ?_
        refine G_isub X dX6_takesNumber_41 ?_
        refine G_istore_n X (lv' := [(2, .int (((10 * s1.1) + v48) - 48)), (0, .ref h), (1, .int x0), (3, .int s1.2.1)]) dX6_takesNumber_42 (by decide) rfl ?_
        refine G_iinc X (v := (s1.2.1 + 1)) (lv' := [(3, .int (s1.2.1 + 1)), (2, .int (((10 * s1.1) + v48) - 48)), (0, .ref h), (1, .int x0)]) dX6_takesNumber_43 3 rfl rfl (by decide) rfl ?_
        refine G_aload_n X dX6_takesNumber_46 2 rfl ?_
        refine G_dup X dX6_takesNumber_47 rfl ?_
        refine G_get X (i0 := 0) (ci := 6) (j := 11) (C := RX6) (ref := RX6) (T := TX6) (N := 18) dX6_takesNumber_48 rfl rfl hiX6_takesNumber_X6 (by decide) flX6_takesNumber_216 rfl rfl ?_
        refine G_iconst X (v := 1) dX6_takesNumber_51 (by decide) ?_
        refine G_iadd X dX6_takesNumber_52 ?_
        refine G_put X (i0 := 0) (ci := 6) (j := 11) (C := RX6) (ref := RX6) (T := TX6) (N := 18) (ty := .int) (ws' := [(h, .inr (6, [.ref h_s, .ref h_aside, .ref h_before, .ref h_past, .int i_h_known, .ref h_text, .int i_h_length, .ref h_lost, .int i_h_losts, .int i_h_bestOrder, .int i_h_bestMany, .int (s1.2.2 + 1), .int i_h_begin, .int i_h_isForm, .int i_h_letter, .ref h_tells, .int i_h_faultReason, .int i_h_faultCause])), (h_text, .inl (cI, 60, .inl f_h_text)), (h_tells, .inl (cI, 3, .inl f_h_tells))]) tyX6 dX6_takesNumber_53 rfl rfl hiX6_takesNumber_X6 tyX6_ok nmX6 (by decide) flX6_takesNumber_216 rfl rfl rfl rfl rfl (Nat.le_of_ble_eq_true rfl) rfl ?_
        refine G_goto X (tgt := 4) dX6_takesNumber_56 (by decide) ?_
        cases h50
        exact G_lv [2, 3, 1, 0] rfl (h6 _ rfl)
def rmX6_takesOrder : Room := { frames := 2, cells := 0, slots := 0, locals := 45 }
theorem pkX6_takesOrder : cK yX6_takesOrder wsX6_takesOrder cX6_takesOrder 3 none 0 RX6 := ⟨⟨_, rfl⟩, by decide +kernel⟩
theorem hiX6_takesOrder_X6 : ∀ w ∈ wsX60, w ∈ wsX6_takesOrder := by decide +kernel
theorem flX6_takesOrder_216 : Cond.fieldLink RX6 216 "EchoMarginsModel" "spot" "I" ∈ wsX6_takesOrder := by decide +kernel
theorem flX6_takesOrder_226 : Cond.fieldLink RX6 226 "EchoMarginsModel" "begin" "I" ∈ wsX6_takesOrder := by decide +kernel
theorem flX6_takesOrder_219 : Cond.fieldLink RX6 219 "EchoMarginsModel" "isForm" "Z" ∈ wsX6_takesOrder := by decide +kernel
theorem flX6_takesOrder_229 : Cond.fieldLink RX6 229 "EchoMarginsModel" "letter" "I" ∈ wsX6_takesOrder := by decide +kernel
set_option maxHeartbeats 4000000 in
set_option maxRecDepth 100000 in
theorem kkX6_takesOrder (l : Launch) (D : va_G) (cI cR : ClassId) (h h_s h_aside h_before h_past h_text h_lost h_tells : Nat) (i_h_known : Int32) (i_h_length : Int32) (i_h_losts : Int32) (i_h_bestOrder : Int32) (i_h_bestMany : Int32) (i_h_spot : Int32) (i_h_begin : Int32) (i_h_isForm : Int32) (i_h_letter : Int32) (i_h_faultReason : Int32) (i_h_faultCause : Int32) (f_h_text : Nat → Int32) (f_h_tells : Nat → Int32) (z : (Int32 × Int32 × Int32 × Int32 × (Nat → Int32))) (hz : MX6_takesOrder i_h_length i_h_spot i_h_begin i_h_isForm i_h_letter f_h_text f_h_tells = some z) : cV1 l yX6_takesOrder wsX6_takesOrder rmX6_takesOrder D cI cR [.ref h] [(h, .inr (6, [.ref h_s, .ref h_aside, .ref h_before, .ref h_past, .int i_h_known, .ref h_text, .int i_h_length, .ref h_lost, .int i_h_losts, .int i_h_bestOrder, .int i_h_bestMany, .int i_h_spot, .int i_h_begin, .int i_h_isForm, .int i_h_letter, .ref h_tells, .int i_h_faultReason, .int i_h_faultCause])), (h_text, .inl (cI, 60, .inl f_h_text)), (h_tells, .inl (cI, 3, .inl f_h_tells))] [(h, .inr (6, [.ref h_s, .ref h_aside, .ref h_before, .ref h_past, .int i_h_known, .ref h_text, .int i_h_length, .ref h_lost, .int i_h_losts, .int i_h_bestOrder, .int i_h_bestMany, .int z.1, .int z.2.1, .int z.2.2.1, .int z.2.2.2.1, .ref h_tells, .int i_h_faultReason, .int i_h_faultCause])), (h_text, .inl (cI, 60, .inl f_h_text)), (h_tells, .inl (cI, 3, .inl z.2.2.2.2))] := by
  unfold MX6_takesOrder at hz
  refine kV_of (cc := cX6_takesOrder) (maxL := 3) (own := RX6) (by decide +kernel) rfl rfl (Nat.le_of_ble_eq_true rfl) (lv0 := [(0, .ref h)]) rfl (fun p e s m args below meth c A Q X rt => ?_)
  refine G_aload_n X dX6_takesOrder_0 0 rfl ?_
  refine G_aload_n X dX6_takesOrder_1 0 rfl ?_
  refine G_get X (i0 := 0) (ci := 6) (j := 11) (C := RX6) (ref := RX6) (T := TX6) (N := 18) dX6_takesOrder_2 rfl rfl hiX6_takesOrder_X6 (by decide) flX6_takesOrder_216 rfl rfl ?_
  refine G_put X (i0 := 0) (ci := 6) (j := 12) (C := RX6) (ref := RX6) (T := TX6) (N := 18) (ty := .int) (ws' := [(h, .inr (6, [.ref h_s, .ref h_aside, .ref h_before, .ref h_past, .int i_h_known, .ref h_text, .int i_h_length, .ref h_lost, .int i_h_losts, .int i_h_bestOrder, .int i_h_bestMany, .int i_h_spot, .int i_h_spot, .int i_h_isForm, .int i_h_letter, .ref h_tells, .int i_h_faultReason, .int i_h_faultCause])), (h_text, .inl (cI, 60, .inl f_h_text)), (h_tells, .inl (cI, 3, .inl f_h_tells))]) tyX6 dX6_takesOrder_5 rfl rfl hiX6_takesOrder_X6 tyX6_ok nmX6 (by decide) flX6_takesOrder_226 rfl rfl rfl rfl rfl (Nat.le_of_ble_eq_true rfl) rfl ?_
  refine G_aload_n X dX6_takesOrder_8 0 rfl ?_
  refine G_iconst X (v := 1) dX6_takesOrder_9 (by decide) ?_
  refine G_put X (i0 := 0) (ci := 6) (j := 13) (C := RX6) (ref := RX6) (T := TX6) (N := 18) (ty := .boolean) (ws' := [(h, .inr (6, [.ref h_s, .ref h_aside, .ref h_before, .ref h_past, .int i_h_known, .ref h_text, .int i_h_length, .ref h_lost, .int i_h_losts, .int i_h_bestOrder, .int i_h_bestMany, .int i_h_spot, .int i_h_spot, .int 1, .int i_h_letter, .ref h_tells, .int i_h_faultReason, .int i_h_faultCause])), (h_text, .inl (cI, 60, .inl f_h_text)), (h_tells, .inl (cI, 3, .inl f_h_tells))]) tyX6 dX6_takesOrder_10 rfl rfl hiX6_takesOrder_X6 tyX6_ok nmX6 (by decide) flX6_takesOrder_219 rfl rfl rfl rfl rfl (Nat.le_of_ble_eq_true rfl) rfl ?_
  refine G_aload_n X dX6_takesOrder_13 0 rfl ?_
  refine G_aload_n X dX6_takesOrder_14 0 rfl ?_
  obtain ⟨v1, h2, h3⟩ := bnd hz
  refine G1_calli X (As := []) (rest := [.ref h]) (wr := [(h_tells, .inl (cI, 3, .inl f_h_tells))]) (ws' := [(h, .inr (6, [.ref h_s, .ref h_aside, .ref h_before, .ref h_past, .int i_h_known, .ref h_text, .int i_h_length, .ref h_lost, .int i_h_losts, .int i_h_bestOrder, .int i_h_bestMany, .int i_h_spot, .int i_h_spot, .int 1, .int i_h_letter, .ref h_tells, .int i_h_faultReason, .int i_h_faultCause])), (h_text, .inl (cI, 60, .inl f_h_text)), (h_tells, .inl (cI, 3, .inl f_h_tells))]) dX6_takesOrder_15 pkX6_here gX6_takesOrder_X6_here (kkX6_here l D cI cR h h_s h_aside h_before h_past h_text h_lost h_tells i_h_known i_h_length i_h_losts i_h_bestOrder i_h_bestMany i_h_spot i_h_spot 1 i_h_letter i_h_faultReason i_h_faultCause f_h_text v1 h2) ⟨rfl, rfl⟩ ⟨Nat.le_of_ble_eq_true rfl, Nat.le_of_ble_eq_true rfl⟩ rfl rfl (Nat.le_of_ble_eq_true rfl) 0 rfl rfl [0, 1] [2] rfl rfl ⟨rfl, rfl, by decide⟩ ⟨Nat.zero_le _, Nat.zero_le _⟩ [1, 2, 0] rfl rfl ?_
  refine G_put X (i0 := 0) (ci := 6) (j := 14) (C := RX6) (ref := RX6) (T := TX6) (N := 18) (ty := .int) (ws' := [(h, .inr (6, [.ref h_s, .ref h_aside, .ref h_before, .ref h_past, .int i_h_known, .ref h_text, .int i_h_length, .ref h_lost, .int i_h_losts, .int i_h_bestOrder, .int i_h_bestMany, .int i_h_spot, .int i_h_spot, .int 1, .int v1, .ref h_tells, .int i_h_faultReason, .int i_h_faultCause])), (h_text, .inl (cI, 60, .inl f_h_text)), (h_tells, .inl (cI, 3, .inl f_h_tells))]) tyX6 dX6_takesOrder_18 rfl rfl hiX6_takesOrder_X6 tyX6_ok nmX6 (by decide) flX6_takesOrder_229 rfl rfl rfl rfl rfl (Nat.le_of_ble_eq_true rfl) rfl ?_
  refine G_aload_n X dX6_takesOrder_21 0 rfl ?_
  refine G_aload_n X dX6_takesOrder_22 0 rfl ?_
  refine G_get X (i0 := 0) (ci := 6) (j := 14) (C := RX6) (ref := RX6) (T := TX6) (N := 18) dX6_takesOrder_23 rfl rfl hiX6_takesOrder_X6 (by decide) flX6_takesOrder_229 rfl rfl ?_
  refine G_bipush X (v := 119) dX6_takesOrder_26 (by decide) ?_
  obtain ⟨w5, h6, h7⟩ := bnd h3
  have J8 : ∀ j4, w5 = .inl j4 → G p l e rmX6_takesOrder s m args below meth c D A 3 Q 0 0 76 [(0, .ref h)] [.ref h] [(h, .inr (6, [.ref h_s, .ref h_aside, .ref h_before, .ref h_past, .int i_h_known, .ref h_text, .int i_h_length, .ref h_lost, .int i_h_losts, .int i_h_bestOrder, .int i_h_bestMany, .int i_h_spot, .int i_h_spot, .int 1, .int v1, .ref h_tells, .int i_h_faultReason, .int i_h_faultCause])), (h_text, .inl (cI, 60, .inl f_h_text)), (h_tells, .inl (cI, 3, .inl f_h_tells))] := by
    intro j4 q
    subst q
    have h9 := cnt_l h7
    refine G_iconst X (v := 1) dX6_takesOrder_76 (by decide) ?_
    refine G_goto X (tgt := 81) dX6_takesOrder_77 (by decide) ?_
    obtain ⟨v10, h11, h12⟩ := bnd h9
    refine G1_callv X (As := [.int 1]) (rest := []) (wr := [(h_text, .inl (cI, 60, .inl f_h_text)), (h_tells, .inl (cI, 3, .inl f_h_tells))]) (ws' := [(h, .inr (6, [.ref h_s, .ref h_aside, .ref h_before, .ref h_past, .int i_h_known, .ref h_text, .int i_h_length, .ref h_lost, .int i_h_losts, .int i_h_bestOrder, .int i_h_bestMany, .int v10.1, .int i_h_spot, .int v10.2, .int v1, .ref h_tells, .int i_h_faultReason, .int i_h_faultCause])), (h_text, .inl (cI, 60, .inl f_h_text)), (h_tells, .inl (cI, 3, .inl f_h_tells))]) dX6_takesOrder_81 pkX6_takes gX6_takesOrder_X6_takes (kkX6_takes l D cI cR h h_s h_aside h_before h_past h_text h_lost h_tells i_h_known i_h_length i_h_losts i_h_bestOrder i_h_bestMany i_h_spot i_h_spot 1 v1 i_h_faultReason i_h_faultCause 1 v10 h11) ⟨rfl, rfl⟩ ⟨Nat.le_of_ble_eq_true rfl, Nat.le_of_ble_eq_true rfl⟩ rfl rfl (Nat.le_of_ble_eq_true rfl) 0 rfl rfl [0] [1, 2] rfl rfl ⟨rfl, rfl, by decide⟩ ⟨Nat.zero_le _, Nat.zero_le _⟩ [2, 0, 1] rfl rfl ?_
    refine G_aload_n X dX6_takesOrder_84 0 rfl ?_
    refine G_get X (i0 := 0) (ci := 6) (j := 14) (C := RX6) (ref := RX6) (T := TX6) (N := 18) dX6_takesOrder_85 rfl rfl hiX6_takesOrder_X6 (by decide) flX6_takesOrder_229 rfl rfl ?_
    refine G_bipush X (v := 119) dX6_takesOrder_88 (by decide) ?_
    obtain ⟨j13, h14, h15⟩ := bnd h12
    have J16 : G p l e rmX6_takesOrder s m args below meth c D A 3 Q 0 0 111 [(0, .ref h)] [.int j13] [(h, .inr (6, [.ref h_s, .ref h_aside, .ref h_before, .ref h_past, .int i_h_known, .ref h_text, .int i_h_length, .ref h_lost, .int i_h_losts, .int i_h_bestOrder, .int i_h_bestMany, .int v10.1, .int i_h_spot, .int v10.2, .int v1, .ref h_tells, .int i_h_faultReason, .int i_h_faultCause])), (h_text, .inl (cI, 60, .inl f_h_text)), (h_tells, .inl (cI, 3, .inl f_h_tells))] := by
      refine G_istore_n X (lv' := [(1, .int j13), (0, .ref h)]) dX6_takesOrder_111 (by decide) rfl ?_
      refine G_iconst X (v := 0) dX6_takesOrder_112 (by decide) ?_
      refine G_istore_n X (lv' := [(2, .int 0), (1, .int j13), (0, .ref h)]) dX6_takesOrder_113 (by decide) rfl ?_
      obtain ⟨j18, h19, h20⟩ := bnd h15
      have J25 : G p l e rmX6_takesOrder s m args below meth c D A 3 Q 0 0 152 [(0, .ref h)] [] [(h, .inr (6, [.ref h_s, .ref h_aside, .ref h_before, .ref h_past, .int i_h_known, .ref h_text, .int i_h_length, .ref h_lost, .int i_h_losts, .int i_h_bestOrder, .int i_h_bestMany, .int j18.1, .int i_h_spot, .int j18.2.1, .int v1, .ref h_tells, .int i_h_faultReason, .int i_h_faultCause])), (h_text, .inl (cI, 60, .inl f_h_text)), (h_tells, .inl (cI, 3, .inl j18.2.2))] := by
        refine G_aload_n X dX6_takesOrder_152 0 rfl ?_
        refine G_aload_n X dX6_takesOrder_153 0 rfl ?_
        obtain ⟨v27, h28, h29⟩ := bnd h20
        refine G1_calli X (As := []) (rest := [.ref h]) (wr := [(h_tells, .inl (cI, 3, .inl j18.2.2))]) (ws' := [(h, .inr (6, [.ref h_s, .ref h_aside, .ref h_before, .ref h_past, .int i_h_known, .ref h_text, .int i_h_length, .ref h_lost, .int i_h_losts, .int i_h_bestOrder, .int i_h_bestMany, .int j18.1, .int i_h_spot, .int j18.2.1, .int v1, .ref h_tells, .int i_h_faultReason, .int i_h_faultCause])), (h_text, .inl (cI, 60, .inl f_h_text)), (h_tells, .inl (cI, 3, .inl j18.2.2))]) dX6_takesOrder_154 pkX6_here gX6_takesOrder_X6_here (kkX6_here l D cI cR h h_s h_aside h_before h_past h_text h_lost h_tells i_h_known i_h_length i_h_losts i_h_bestOrder i_h_bestMany j18.1 i_h_spot j18.2.1 v1 i_h_faultReason i_h_faultCause f_h_text v27 h28) ⟨rfl, rfl⟩ ⟨Nat.le_of_ble_eq_true rfl, Nat.le_of_ble_eq_true rfl⟩ rfl rfl (Nat.le_of_ble_eq_true rfl) 0 rfl rfl [0, 1] [2] rfl rfl ⟨rfl, rfl, by decide⟩ ⟨Nat.zero_le _, Nat.zero_le _⟩ [1, 2, 0] rfl rfl ?_
        refine G_bipush X (v := 59) dX6_takesOrder_157 (by decide) ?_
        obtain ⟨j30, h31, h32⟩ := bnd h29
        have J33 : G p l e rmX6_takesOrder s m args below meth c D A 3 Q 0 0 167 [] [.int j30, .ref h] [(h, .inr (6, [.ref h_s, .ref h_aside, .ref h_before, .ref h_past, .int i_h_known, .ref h_text, .int i_h_length, .ref h_lost, .int i_h_losts, .int i_h_bestOrder, .int i_h_bestMany, .int j18.1, .int i_h_spot, .int j18.2.1, .int v1, .ref h_tells, .int i_h_faultReason, .int i_h_faultCause])), (h_text, .inl (cI, 60, .inl f_h_text)), (h_tells, .inl (cI, 3, .inl j18.2.2))] := by
          obtain ⟨v34, h35, h36⟩ := bnd h32
          refine G1_callv X (As := [.int j30]) (rest := []) (wr := [(h_text, .inl (cI, 60, .inl f_h_text)), (h_tells, .inl (cI, 3, .inl j18.2.2))]) (ws' := [(h, .inr (6, [.ref h_s, .ref h_aside, .ref h_before, .ref h_past, .int i_h_known, .ref h_text, .int i_h_length, .ref h_lost, .int i_h_losts, .int i_h_bestOrder, .int i_h_bestMany, .int v34.1, .int i_h_spot, .int v34.2, .int v1, .ref h_tells, .int i_h_faultReason, .int i_h_faultCause])), (h_text, .inl (cI, 60, .inl f_h_text)), (h_tells, .inl (cI, 3, .inl j18.2.2))]) dX6_takesOrder_167 pkX6_takes gX6_takesOrder_X6_takes (kkX6_takes l D cI cR h h_s h_aside h_before h_past h_text h_lost h_tells i_h_known i_h_length i_h_losts i_h_bestOrder i_h_bestMany j18.1 i_h_spot j18.2.1 v1 i_h_faultReason i_h_faultCause j30 v34 h35) ⟨rfl, rfl⟩ ⟨Nat.le_of_ble_eq_true rfl, Nat.le_of_ble_eq_true rfl⟩ rfl rfl (Nat.le_of_ble_eq_true rfl) 0 rfl rfl [0] [1, 2] rfl rfl ⟨rfl, rfl, by decide⟩ ⟨Nat.zero_le _, Nat.zero_le _⟩ [2, 0, 1] rfl rfl ?_
          cases h36
          exact rt _ _ _ dX6_takesOrder_170 rfl
        refine G_icmp_ne X (tgt := 166) dX6_takesOrder_159 (by decide) (fun h37 => ?_) (fun h37 => ?_)
        · have h38 := ifp h37 h31
          refine G_iconst X (v := 1) dX6_takesOrder_162 (by decide) ?_
          refine G_goto X (tgt := 167) dX6_takesOrder_163 (by decide) ?_
          cases h38
          exact G_lv [] rfl (J33)
        · have h39 := ifn h37 h31
          refine G_iconst X (v := 0) dX6_takesOrder_166 (by decide) ?_
          cases h39
          exact G_lv [] rfl (J33)
      refine G_lv [2, 1, 0] rfl ?_
      refine itr_ind (P := fun s17 : (Int32 × Int32 × Int32 × (Nat → Int32)) => G p l e rmX6_takesOrder s m args below meth c D A 3 Q 0 0 114 [(0, .ref h), (1, .int j13), (2, .int s17.1)] [] [(h, .inr (6, [.ref h_s, .ref h_aside, .ref h_before, .ref h_past, .int i_h_known, .ref h_text, .int i_h_length, .ref h_lost, .int i_h_losts, .int i_h_bestOrder, .int i_h_bestMany, .int s17.2.1, .int i_h_spot, .int s17.2.2.1, .int v1, .ref h_tells, .int i_h_faultReason, .int i_h_faultCause])), (h_text, .inl (cI, 60, .inl f_h_text)), (h_tells, .inl (cI, 3, .inl s17.2.2.2))]) (fun s17 o24 h21 h22 h23 => ?_) FU _ h19
      unfold SX6_takesOrder_114 at h21
      refine G_iload_n X dX6_takesOrder_114 2 rfl ?_
      refine G_iload_n X dX6_takesOrder_115 1 rfl ?_
      refine G_icmp_ge X (tgt := 152) dX6_takesOrder_116 (by decide) (fun h40 => ?_) (fun h40 => ?_)
      · have h41 := ifp h40 h21
        cases h41
        have h42 := h23 _ rfl
        subst h42
        exact G_lv [0] rfl (J25)
      · have h43 := ifn h40 h21
        refine G_iload_n X dX6_takesOrder_119 2 rfl ?_
        refine G_if_le X (tgt := 141) dX6_takesOrder_120 (by decide) (fun h44 => ?_) (fun h44 => ?_)
        · have h45 := ifp h44 h43
          refine G_aload_n X dX6_takesOrder_141 0 rfl ?_
          refine G_iload_n X dX6_takesOrder_142 2 rfl ?_
          obtain ⟨v46, h47, h48⟩ := bnd h45
          refine G1_callv X (As := [.int s17.1]) (rest := []) (wr := []) (ws' := [(h, .inr (6, [.ref h_s, .ref h_aside, .ref h_before, .ref h_past, .int i_h_known, .ref h_text, .int i_h_length, .ref h_lost, .int i_h_losts, .int i_h_bestOrder, .int i_h_bestMany, .int v46.1, .int i_h_spot, .int v46.2.1, .int v1, .ref h_tells, .int i_h_faultReason, .int i_h_faultCause])), (h_text, .inl (cI, 60, .inl f_h_text)), (h_tells, .inl (cI, 3, .inl v46.2.2))]) dX6_takesOrder_143 pkX6_takesNumber gX6_takesOrder_X6_takesNumber (kkX6_takesNumber l D cI cR h h_s h_aside h_before h_past h_text h_lost h_tells i_h_known i_h_length i_h_losts i_h_bestOrder i_h_bestMany s17.2.1 i_h_spot s17.2.2.1 v1 i_h_faultReason i_h_faultCause f_h_text s17.2.2.2 s17.1 v46 h47) ⟨rfl, rfl⟩ ⟨Nat.le_of_ble_eq_true rfl, Nat.le_of_ble_eq_true rfl⟩ rfl rfl (Nat.le_of_ble_eq_true rfl) 0 rfl rfl [0, 1, 2] [] rfl rfl ⟨rfl, rfl, by decide⟩ ⟨Nat.zero_le _, Nat.zero_le _⟩ [0, 1, 2] rfl rfl ?_
          refine G_iinc X (v := (s17.1 + 1)) (lv' := [(2, .int (s17.1 + 1)), (0, .ref h), (1, .int j13)]) dX6_takesOrder_146 2 rfl rfl (by decide) rfl ?_
          refine G_goto X (tgt := 114) dX6_takesOrder_149 (by decide) ?_
          cases h48
          exact G_lv [1, 2, 0] rfl (h22 _ rfl)
        · have h49 := ifn h44 h43
          refine G_aload_n X dX6_takesOrder_123 0 rfl ?_
          refine G_aload_n X dX6_takesOrder_124 0 rfl ?_
          obtain ⟨v50, h51, h52⟩ := bnd h49
          refine G1_calli X (As := []) (rest := [.ref h]) (wr := [(h_tells, .inl (cI, 3, .inl s17.2.2.2))]) (ws' := [(h, .inr (6, [.ref h_s, .ref h_aside, .ref h_before, .ref h_past, .int i_h_known, .ref h_text, .int i_h_length, .ref h_lost, .int i_h_losts, .int i_h_bestOrder, .int i_h_bestMany, .int s17.2.1, .int i_h_spot, .int s17.2.2.1, .int v1, .ref h_tells, .int i_h_faultReason, .int i_h_faultCause])), (h_text, .inl (cI, 60, .inl f_h_text)), (h_tells, .inl (cI, 3, .inl s17.2.2.2))]) dX6_takesOrder_125 pkX6_here gX6_takesOrder_X6_here (kkX6_here l D cI cR h h_s h_aside h_before h_past h_text h_lost h_tells i_h_known i_h_length i_h_losts i_h_bestOrder i_h_bestMany s17.2.1 i_h_spot s17.2.2.1 v1 i_h_faultReason i_h_faultCause f_h_text v50 h51) ⟨rfl, rfl⟩ ⟨Nat.le_of_ble_eq_true rfl, Nat.le_of_ble_eq_true rfl⟩ rfl rfl (Nat.le_of_ble_eq_true rfl) 0 rfl rfl [0, 1] [2] rfl rfl ⟨rfl, rfl, by decide⟩ ⟨Nat.zero_le _, Nat.zero_le _⟩ [1, 2, 0] rfl rfl ?_
          refine G_bipush X (v := 44) dX6_takesOrder_128 (by decide) ?_
          refine G_icmp_ne X (tgt := 137) dX6_takesOrder_130 (by decide) (fun h53 => ?_) (fun h53 => ?_)
          · have h54 := ifp h53 h52
            refine G_iconst X (v := 1) dX6_takesOrder_133 (by decide) ?_
            refine G_goto X (tgt := 138) dX6_takesOrder_134 (by decide) ?_
            obtain ⟨v55, h56, h57⟩ := bnd h54
            refine G1_callv X (As := [.int 1]) (rest := []) (wr := [(h_text, .inl (cI, 60, .inl f_h_text)), (h_tells, .inl (cI, 3, .inl s17.2.2.2))]) (ws' := [(h, .inr (6, [.ref h_s, .ref h_aside, .ref h_before, .ref h_past, .int i_h_known, .ref h_text, .int i_h_length, .ref h_lost, .int i_h_losts, .int i_h_bestOrder, .int i_h_bestMany, .int v55.1, .int i_h_spot, .int v55.2, .int v1, .ref h_tells, .int i_h_faultReason, .int i_h_faultCause])), (h_text, .inl (cI, 60, .inl f_h_text)), (h_tells, .inl (cI, 3, .inl s17.2.2.2))]) dX6_takesOrder_138 pkX6_takes gX6_takesOrder_X6_takes (kkX6_takes l D cI cR h h_s h_aside h_before h_past h_text h_lost h_tells i_h_known i_h_length i_h_losts i_h_bestOrder i_h_bestMany s17.2.1 i_h_spot s17.2.2.1 v1 i_h_faultReason i_h_faultCause 1 v55 h56) ⟨rfl, rfl⟩ ⟨Nat.le_of_ble_eq_true rfl, Nat.le_of_ble_eq_true rfl⟩ rfl rfl (Nat.le_of_ble_eq_true rfl) 0 rfl rfl [0] [1, 2] rfl rfl ⟨rfl, rfl, by decide⟩ ⟨Nat.zero_le _, Nat.zero_le _⟩ [2, 0, 1] rfl rfl ?_
            refine G_aload_n X dX6_takesOrder_141 0 rfl ?_
            refine G_iload_n X dX6_takesOrder_142 2 rfl ?_
            obtain ⟨v58, h59, h60⟩ := bnd h57
            refine G1_callv X (As := [.int s17.1]) (rest := []) (wr := []) (ws' := [(h, .inr (6, [.ref h_s, .ref h_aside, .ref h_before, .ref h_past, .int i_h_known, .ref h_text, .int i_h_length, .ref h_lost, .int i_h_losts, .int i_h_bestOrder, .int i_h_bestMany, .int v58.1, .int i_h_spot, .int v58.2.1, .int v1, .ref h_tells, .int i_h_faultReason, .int i_h_faultCause])), (h_text, .inl (cI, 60, .inl f_h_text)), (h_tells, .inl (cI, 3, .inl v58.2.2))]) dX6_takesOrder_143 pkX6_takesNumber gX6_takesOrder_X6_takesNumber (kkX6_takesNumber l D cI cR h h_s h_aside h_before h_past h_text h_lost h_tells i_h_known i_h_length i_h_losts i_h_bestOrder i_h_bestMany v55.1 i_h_spot v55.2 v1 i_h_faultReason i_h_faultCause f_h_text s17.2.2.2 s17.1 v58 h59) ⟨rfl, rfl⟩ ⟨Nat.le_of_ble_eq_true rfl, Nat.le_of_ble_eq_true rfl⟩ rfl rfl (Nat.le_of_ble_eq_true rfl) 0 rfl rfl [0, 1, 2] [] rfl rfl ⟨rfl, rfl, by decide⟩ ⟨Nat.zero_le _, Nat.zero_le _⟩ [0, 1, 2] rfl rfl ?_
            refine G_iinc X (v := (s17.1 + 1)) (lv' := [(2, .int (s17.1 + 1)), (0, .ref h), (1, .int j13)]) dX6_takesOrder_146 2 rfl rfl (by decide) rfl ?_
            refine G_goto X (tgt := 114) dX6_takesOrder_149 (by decide) ?_
            cases h60
            exact G_lv [1, 2, 0] rfl (h22 _ rfl)
          · have h61 := ifn h53 h52
            refine G_iconst X (v := 0) dX6_takesOrder_137 (by decide) ?_
            obtain ⟨v62, h63, h64⟩ := bnd h61
            refine G1_callv X (As := [.int 0]) (rest := []) (wr := [(h_text, .inl (cI, 60, .inl f_h_text)), (h_tells, .inl (cI, 3, .inl s17.2.2.2))]) (ws' := [(h, .inr (6, [.ref h_s, .ref h_aside, .ref h_before, .ref h_past, .int i_h_known, .ref h_text, .int i_h_length, .ref h_lost, .int i_h_losts, .int i_h_bestOrder, .int i_h_bestMany, .int v62.1, .int i_h_spot, .int v62.2, .int v1, .ref h_tells, .int i_h_faultReason, .int i_h_faultCause])), (h_text, .inl (cI, 60, .inl f_h_text)), (h_tells, .inl (cI, 3, .inl s17.2.2.2))]) dX6_takesOrder_138 pkX6_takes gX6_takesOrder_X6_takes (kkX6_takes l D cI cR h h_s h_aside h_before h_past h_text h_lost h_tells i_h_known i_h_length i_h_losts i_h_bestOrder i_h_bestMany s17.2.1 i_h_spot s17.2.2.1 v1 i_h_faultReason i_h_faultCause 0 v62 h63) ⟨rfl, rfl⟩ ⟨Nat.le_of_ble_eq_true rfl, Nat.le_of_ble_eq_true rfl⟩ rfl rfl (Nat.le_of_ble_eq_true rfl) 0 rfl rfl [0] [1, 2] rfl rfl ⟨rfl, rfl, by decide⟩ ⟨Nat.zero_le _, Nat.zero_le _⟩ [2, 0, 1] rfl rfl ?_
            refine G_aload_n X dX6_takesOrder_141 0 rfl ?_
            refine G_iload_n X dX6_takesOrder_142 2 rfl ?_
            obtain ⟨v65, h66, h67⟩ := bnd h64
            refine G1_callv X (As := [.int s17.1]) (rest := []) (wr := []) (ws' := [(h, .inr (6, [.ref h_s, .ref h_aside, .ref h_before, .ref h_past, .int i_h_known, .ref h_text, .int i_h_length, .ref h_lost, .int i_h_losts, .int i_h_bestOrder, .int i_h_bestMany, .int v65.1, .int i_h_spot, .int v65.2.1, .int v1, .ref h_tells, .int i_h_faultReason, .int i_h_faultCause])), (h_text, .inl (cI, 60, .inl f_h_text)), (h_tells, .inl (cI, 3, .inl v65.2.2))]) dX6_takesOrder_143 pkX6_takesNumber gX6_takesOrder_X6_takesNumber (kkX6_takesNumber l D cI cR h h_s h_aside h_before h_past h_text h_lost h_tells i_h_known i_h_length i_h_losts i_h_bestOrder i_h_bestMany v62.1 i_h_spot v62.2 v1 i_h_faultReason i_h_faultCause f_h_text s17.2.2.2 s17.1 v65 h66) ⟨rfl, rfl⟩ ⟨Nat.le_of_ble_eq_true rfl, Nat.le_of_ble_eq_true rfl⟩ rfl rfl (Nat.le_of_ble_eq_true rfl) 0 rfl rfl [0, 1, 2] [] rfl rfl ⟨rfl, rfl, by decide⟩ ⟨Nat.zero_le _, Nat.zero_le _⟩ [0, 1, 2] rfl rfl ?_
            refine G_iinc X (v := (s17.1 + 1)) (lv' := [(2, .int (s17.1 + 1)), (0, .ref h), (1, .int j13)]) dX6_takesOrder_146 2 rfl rfl (by decide) rfl ?_
            refine G_goto X (tgt := 114) dX6_takesOrder_149 (by decide) ?_
            cases h67
            exact G_lv [1, 2, 0] rfl (h22 _ rfl)
    refine G_icmp_ne X (tgt := 97) dX6_takesOrder_90 (by decide) (fun h68 => ?_) (fun h68 => ?_)
    · have h69 := ifp h68 h14
      refine G_iconst X (v := 3) dX6_takesOrder_93 (by decide) ?_
      refine G_goto X (tgt := 111) dX6_takesOrder_94 (by decide) ?_
      cases h69
      exact J16
    · have h70 := ifn h68 h14
      refine G_aload_n X dX6_takesOrder_97 0 rfl ?_
      refine G_get X (i0 := 0) (ci := 6) (j := 14) (C := RX6) (ref := RX6) (T := TX6) (N := 18) dX6_takesOrder_98 rfl rfl hiX6_takesOrder_X6 (by decide) flX6_takesOrder_229 rfl rfl ?_
      refine G_bipush X (v := 115) dX6_takesOrder_101 (by decide) ?_
      refine G_icmp_ne X (tgt := 110) dX6_takesOrder_103 (by decide) (fun h71 => ?_) (fun h71 => ?_)
      · have h72 := ifp h71 h70
        refine G_iconst X (v := 2) dX6_takesOrder_106 (by decide) ?_
        refine G_goto X (tgt := 111) dX6_takesOrder_107 (by decide) ?_
        cases h72
        exact J16
      · have h73 := ifn h71 h70
        refine G_iconst X (v := 1) dX6_takesOrder_110 (by decide) ?_
        cases h73
        exact J16
  refine G_icmp_eq X (tgt := 76) dX6_takesOrder_28 (by decide) (fun h74 => ?_) (fun h74 => ?_)
  · have h75 := ifp h74 h6
    cases h75
    exact J8 _ rfl
  · have h76 := ifn h74 h6
    refine G_aload_n X dX6_takesOrder_31 0 rfl ?_
    refine G_get X (i0 := 0) (ci := 6) (j := 14) (C := RX6) (ref := RX6) (T := TX6) (N := 18) dX6_takesOrder_32 rfl rfl hiX6_takesOrder_X6 (by decide) flX6_takesOrder_229 rfl rfl ?_
    refine G_bipush X (v := 108) dX6_takesOrder_35 (by decide) ?_
    refine G_icmp_eq X (tgt := 76) dX6_takesOrder_37 (by decide) (fun h77 => ?_) (fun h77 => ?_)
    · have h78 := ifp h77 h76
      cases h78
      exact J8 _ rfl
    · have h79 := ifn h77 h76
      refine G_aload_n X dX6_takesOrder_40 0 rfl ?_
      refine G_get X (i0 := 0) (ci := 6) (j := 14) (C := RX6) (ref := RX6) (T := TX6) (N := 18) dX6_takesOrder_41 rfl rfl hiX6_takesOrder_X6 (by decide) flX6_takesOrder_229 rfl rfl ?_
      refine G_bipush X (v := 109) dX6_takesOrder_44 (by decide) ?_
      refine G_icmp_eq X (tgt := 76) dX6_takesOrder_46 (by decide) (fun h80 => ?_) (fun h80 => ?_)
      · have h81 := ifp h80 h79
        cases h81
        exact J8 _ rfl
      · have h82 := ifn h80 h79
        refine G_aload_n X dX6_takesOrder_49 0 rfl ?_
        refine G_get X (i0 := 0) (ci := 6) (j := 14) (C := RX6) (ref := RX6) (T := TX6) (N := 18) dX6_takesOrder_50 rfl rfl hiX6_takesOrder_X6 (by decide) flX6_takesOrder_229 rfl rfl ?_
        refine G_bipush X (v := 115) dX6_takesOrder_53 (by decide) ?_
        refine G_icmp_eq X (tgt := 76) dX6_takesOrder_55 (by decide) (fun h83 => ?_) (fun h83 => ?_)
        · have h84 := ifp h83 h82
          cases h84
          exact J8 _ rfl
        · have h85 := ifn h83 h82
          refine G_aload_n X dX6_takesOrder_58 0 rfl ?_
          refine G_get X (i0 := 0) (ci := 6) (j := 14) (C := RX6) (ref := RX6) (T := TX6) (N := 18) dX6_takesOrder_59 rfl rfl hiX6_takesOrder_X6 (by decide) flX6_takesOrder_229 rfl rfl ?_
          refine G_bipush X (v := 97) dX6_takesOrder_62 (by decide) ?_
          refine G_icmp_eq X (tgt := 76) dX6_takesOrder_64 (by decide) (fun h86 => ?_) (fun h86 => ?_)
          · have h87 := ifp h86 h85
            cases h87
            exact J8 _ rfl
          · have h88 := ifn h86 h85
            refine G_aload_n X dX6_takesOrder_67 0 rfl ?_
            refine G_get X (i0 := 0) (ci := 6) (j := 14) (C := RX6) (ref := RX6) (T := TX6) (N := 18) dX6_takesOrder_68 rfl rfl hiX6_takesOrder_X6 (by decide) flX6_takesOrder_229 rfl rfl ?_
            refine G_bipush X (v := 100) dX6_takesOrder_71 (by decide) ?_
            refine G_icmp_ne X (tgt := 80) dX6_takesOrder_73 (by decide) (fun h89 => ?_) (fun h89 => ?_)
            · have h90 := ifp h89 h88
              cases h90
              exact J8 _ rfl
            · have h91 := ifn h89 h88
              refine G_iconst X (v := 0) dX6_takesOrder_80 (by decide) ?_
              obtain ⟨v92, h93, h94⟩ := bnd h91
              refine G1_callv X (As := [.int 0]) (rest := []) (wr := [(h_text, .inl (cI, 60, .inl f_h_text)), (h_tells, .inl (cI, 3, .inl f_h_tells))]) (ws' := [(h, .inr (6, [.ref h_s, .ref h_aside, .ref h_before, .ref h_past, .int i_h_known, .ref h_text, .int i_h_length, .ref h_lost, .int i_h_losts, .int i_h_bestOrder, .int i_h_bestMany, .int v92.1, .int i_h_spot, .int v92.2, .int v1, .ref h_tells, .int i_h_faultReason, .int i_h_faultCause])), (h_text, .inl (cI, 60, .inl f_h_text)), (h_tells, .inl (cI, 3, .inl f_h_tells))]) dX6_takesOrder_81 pkX6_takes gX6_takesOrder_X6_takes (kkX6_takes l D cI cR h h_s h_aside h_before h_past h_text h_lost h_tells i_h_known i_h_length i_h_losts i_h_bestOrder i_h_bestMany i_h_spot i_h_spot 1 v1 i_h_faultReason i_h_faultCause 0 v92 h93) ⟨rfl, rfl⟩ ⟨Nat.le_of_ble_eq_true rfl, Nat.le_of_ble_eq_true rfl⟩ rfl rfl (Nat.le_of_ble_eq_true rfl) 0 rfl rfl [0] [1, 2] rfl rfl ⟨rfl, rfl, by decide⟩ ⟨Nat.zero_le _, Nat.zero_le _⟩ [2, 0, 1] rfl rfl ?_
              refine G_aload_n X dX6_takesOrder_84 0 rfl ?_
              refine G_get X (i0 := 0) (ci := 6) (j := 14) (C := RX6) (ref := RX6) (T := TX6) (N := 18) dX6_takesOrder_85 rfl rfl hiX6_takesOrder_X6 (by decide) flX6_takesOrder_229 rfl rfl ?_
              refine G_bipush X (v := 119) dX6_takesOrder_88 (by decide) ?_
              obtain ⟨j95, h96, h97⟩ := bnd h94
              have J98 : G p l e rmX6_takesOrder s m args below meth c D A 3 Q 0 0 111 [(0, .ref h)] [.int j95] [(h, .inr (6, [.ref h_s, .ref h_aside, .ref h_before, .ref h_past, .int i_h_known, .ref h_text, .int i_h_length, .ref h_lost, .int i_h_losts, .int i_h_bestOrder, .int i_h_bestMany, .int v92.1, .int i_h_spot, .int v92.2, .int v1, .ref h_tells, .int i_h_faultReason, .int i_h_faultCause])), (h_text, .inl (cI, 60, .inl f_h_text)), (h_tells, .inl (cI, 3, .inl f_h_tells))] := by
                refine G_istore_n X (lv' := [(1, .int j95), (0, .ref h)]) dX6_takesOrder_111 (by decide) rfl ?_
                refine G_iconst X (v := 0) dX6_takesOrder_112 (by decide) ?_
                refine G_istore_n X (lv' := [(2, .int 0), (1, .int j95), (0, .ref h)]) dX6_takesOrder_113 (by decide) rfl ?_
                obtain ⟨j100, h101, h102⟩ := bnd h97
                have J107 : G p l e rmX6_takesOrder s m args below meth c D A 3 Q 0 0 152 [(0, .ref h)] [] [(h, .inr (6, [.ref h_s, .ref h_aside, .ref h_before, .ref h_past, .int i_h_known, .ref h_text, .int i_h_length, .ref h_lost, .int i_h_losts, .int i_h_bestOrder, .int i_h_bestMany, .int j100.1, .int i_h_spot, .int j100.2.1, .int v1, .ref h_tells, .int i_h_faultReason, .int i_h_faultCause])), (h_text, .inl (cI, 60, .inl f_h_text)), (h_tells, .inl (cI, 3, .inl j100.2.2))] := by
                  refine G_aload_n X dX6_takesOrder_152 0 rfl ?_
                  refine G_aload_n X dX6_takesOrder_153 0 rfl ?_
                  obtain ⟨v109, h110, h111⟩ := bnd h102
                  refine G1_calli X (As := []) (rest := [.ref h]) (wr := [(h_tells, .inl (cI, 3, .inl j100.2.2))]) (ws' := [(h, .inr (6, [.ref h_s, .ref h_aside, .ref h_before, .ref h_past, .int i_h_known, .ref h_text, .int i_h_length, .ref h_lost, .int i_h_losts, .int i_h_bestOrder, .int i_h_bestMany, .int j100.1, .int i_h_spot, .int j100.2.1, .int v1, .ref h_tells, .int i_h_faultReason, .int i_h_faultCause])), (h_text, .inl (cI, 60, .inl f_h_text)), (h_tells, .inl (cI, 3, .inl j100.2.2))]) dX6_takesOrder_154 pkX6_here gX6_takesOrder_X6_here (kkX6_here l D cI cR h h_s h_aside h_before h_past h_text h_lost h_tells i_h_known i_h_length i_h_losts i_h_bestOrder i_h_bestMany j100.1 i_h_spot j100.2.1 v1 i_h_faultReason i_h_faultCause f_h_text v109 h110) ⟨rfl, rfl⟩ ⟨Nat.le_of_ble_eq_true rfl, Nat.le_of_ble_eq_true rfl⟩ rfl rfl (Nat.le_of_ble_eq_true rfl) 0 rfl rfl [0, 1] [2] rfl rfl ⟨rfl, rfl, by decide⟩ ⟨Nat.zero_le _, Nat.zero_le _⟩ [1, 2, 0] rfl rfl ?_
                  refine G_bipush X (v := 59) dX6_takesOrder_157 (by decide) ?_
                  obtain ⟨j112, h113, h114⟩ := bnd h111
                  have J115 : G p l e rmX6_takesOrder s m args below meth c D A 3 Q 0 0 167 [] [.int j112, .ref h] [(h, .inr (6, [.ref h_s, .ref h_aside, .ref h_before, .ref h_past, .int i_h_known, .ref h_text, .int i_h_length, .ref h_lost, .int i_h_losts, .int i_h_bestOrder, .int i_h_bestMany, .int j100.1, .int i_h_spot, .int j100.2.1, .int v1, .ref h_tells, .int i_h_faultReason, .int i_h_faultCause])), (h_text, .inl (cI, 60, .inl f_h_text)), (h_tells, .inl (cI, 3, .inl j100.2.2))] := by
                    obtain ⟨v116, h117, h118⟩ := bnd h114
                    refine G1_callv X (As := [.int j112]) (rest := []) (wr := [(h_text, .inl (cI, 60, .inl f_h_text)), (h_tells, .inl (cI, 3, .inl j100.2.2))]) (ws' := [(h, .inr (6, [.ref h_s, .ref h_aside, .ref h_before, .ref h_past, .int i_h_known, .ref h_text, .int i_h_length, .ref h_lost, .int i_h_losts, .int i_h_bestOrder, .int i_h_bestMany, .int v116.1, .int i_h_spot, .int v116.2, .int v1, .ref h_tells, .int i_h_faultReason, .int i_h_faultCause])), (h_text, .inl (cI, 60, .inl f_h_text)), (h_tells, .inl (cI, 3, .inl j100.2.2))]) dX6_takesOrder_167 pkX6_takes gX6_takesOrder_X6_takes (kkX6_takes l D cI cR h h_s h_aside h_before h_past h_text h_lost h_tells i_h_known i_h_length i_h_losts i_h_bestOrder i_h_bestMany j100.1 i_h_spot j100.2.1 v1 i_h_faultReason i_h_faultCause j112 v116 h117) ⟨rfl, rfl⟩ ⟨Nat.le_of_ble_eq_true rfl, Nat.le_of_ble_eq_true rfl⟩ rfl rfl (Nat.le_of_ble_eq_true rfl) 0 rfl rfl [0] [1, 2] rfl rfl ⟨rfl, rfl, by decide⟩ ⟨Nat.zero_le _, Nat.zero_le _⟩ [2, 0, 1] rfl rfl ?_
                    cases h118
                    have h119 := congrArg some (cnt_r h7)
                    cases h119
                    exact rt _ _ _ dX6_takesOrder_170 rfl
                  refine G_icmp_ne X (tgt := 166) dX6_takesOrder_159 (by decide) (fun h120 => ?_) (fun h120 => ?_)
                  · have h121 := ifp h120 h113
                    refine G_iconst X (v := 1) dX6_takesOrder_162 (by decide) ?_
                    refine G_goto X (tgt := 167) dX6_takesOrder_163 (by decide) ?_
                    cases h121
                    exact G_lv [] rfl (J115)
                  · have h122 := ifn h120 h113
                    refine G_iconst X (v := 0) dX6_takesOrder_166 (by decide) ?_
                    cases h122
                    exact G_lv [] rfl (J115)
                refine G_lv [2, 1, 0] rfl ?_
                refine itr_ind (P := fun s99 : (Int32 × Int32 × Int32 × (Nat → Int32)) => G p l e rmX6_takesOrder s m args below meth c D A 3 Q 0 0 114 [(0, .ref h), (1, .int j95), (2, .int s99.1)] [] [(h, .inr (6, [.ref h_s, .ref h_aside, .ref h_before, .ref h_past, .int i_h_known, .ref h_text, .int i_h_length, .ref h_lost, .int i_h_losts, .int i_h_bestOrder, .int i_h_bestMany, .int s99.2.1, .int i_h_spot, .int s99.2.2.1, .int v1, .ref h_tells, .int i_h_faultReason, .int i_h_faultCause])), (h_text, .inl (cI, 60, .inl f_h_text)), (h_tells, .inl (cI, 3, .inl s99.2.2.2))]) (fun s99 o106 h103 h104 h105 => ?_) FU _ h101
                unfold SX6_takesOrder_114a at h103
                refine G_iload_n X dX6_takesOrder_114 2 rfl ?_
                refine G_iload_n X dX6_takesOrder_115 1 rfl ?_
                refine G_icmp_ge X (tgt := 152) dX6_takesOrder_116 (by decide) (fun h123 => ?_) (fun h123 => ?_)
                · have h124 := ifp h123 h103
                  cases h124
                  have h125 := h105 _ rfl
                  subst h125
                  exact G_lv [0] rfl (J107)
                · have h126 := ifn h123 h103
                  refine G_iload_n X dX6_takesOrder_119 2 rfl ?_
                  refine G_if_le X (tgt := 141) dX6_takesOrder_120 (by decide) (fun h127 => ?_) (fun h127 => ?_)
                  · have h128 := ifp h127 h126
                    refine G_aload_n X dX6_takesOrder_141 0 rfl ?_
                    refine G_iload_n X dX6_takesOrder_142 2 rfl ?_
                    obtain ⟨v129, h130, h131⟩ := bnd h128
                    refine G1_callv X (As := [.int s99.1]) (rest := []) (wr := []) (ws' := [(h, .inr (6, [.ref h_s, .ref h_aside, .ref h_before, .ref h_past, .int i_h_known, .ref h_text, .int i_h_length, .ref h_lost, .int i_h_losts, .int i_h_bestOrder, .int i_h_bestMany, .int v129.1, .int i_h_spot, .int v129.2.1, .int v1, .ref h_tells, .int i_h_faultReason, .int i_h_faultCause])), (h_text, .inl (cI, 60, .inl f_h_text)), (h_tells, .inl (cI, 3, .inl v129.2.2))]) dX6_takesOrder_143 pkX6_takesNumber gX6_takesOrder_X6_takesNumber (kkX6_takesNumber l D cI cR h h_s h_aside h_before h_past h_text h_lost h_tells i_h_known i_h_length i_h_losts i_h_bestOrder i_h_bestMany s99.2.1 i_h_spot s99.2.2.1 v1 i_h_faultReason i_h_faultCause f_h_text s99.2.2.2 s99.1 v129 h130) ⟨rfl, rfl⟩ ⟨Nat.le_of_ble_eq_true rfl, Nat.le_of_ble_eq_true rfl⟩ rfl rfl (Nat.le_of_ble_eq_true rfl) 0 rfl rfl [0, 1, 2] [] rfl rfl ⟨rfl, rfl, by decide⟩ ⟨Nat.zero_le _, Nat.zero_le _⟩ [0, 1, 2] rfl rfl ?_
                    refine G_iinc X (v := (s99.1 + 1)) (lv' := [(2, .int (s99.1 + 1)), (0, .ref h), (1, .int j95)]) dX6_takesOrder_146 2 rfl rfl (by decide) rfl ?_
                    refine G_goto X (tgt := 114) dX6_takesOrder_149 (by decide) ?_
                    cases h131
                    exact G_lv [1, 2, 0] rfl (h104 _ rfl)
                  · have h132 := ifn h127 h126
                    refine G_aload_n X dX6_takesOrder_123 0 rfl ?_
                    refine G_aload_n X dX6_takesOrder_124 0 rfl ?_
                    obtain ⟨v133, h134, h135⟩ := bnd h132
                    refine G1_calli X (As := []) (rest := [.ref h]) (wr := [(h_tells, .inl (cI, 3, .inl s99.2.2.2))]) (ws' := [(h, .inr (6, [.ref h_s, .ref h_aside, .ref h_before, .ref h_past, .int i_h_known, .ref h_text, .int i_h_length, .ref h_lost, .int i_h_losts, .int i_h_bestOrder, .int i_h_bestMany, .int s99.2.1, .int i_h_spot, .int s99.2.2.1, .int v1, .ref h_tells, .int i_h_faultReason, .int i_h_faultCause])), (h_text, .inl (cI, 60, .inl f_h_text)), (h_tells, .inl (cI, 3, .inl s99.2.2.2))]) dX6_takesOrder_125 pkX6_here gX6_takesOrder_X6_here (kkX6_here l D cI cR h h_s h_aside h_before h_past h_text h_lost h_tells i_h_known i_h_length i_h_losts i_h_bestOrder i_h_bestMany s99.2.1 i_h_spot s99.2.2.1 v1 i_h_faultReason i_h_faultCause f_h_text v133 h134) ⟨rfl, rfl⟩ ⟨Nat.le_of_ble_eq_true rfl, Nat.le_of_ble_eq_true rfl⟩ rfl rfl (Nat.le_of_ble_eq_true rfl) 0 rfl rfl [0, 1] [2] rfl rfl ⟨rfl, rfl, by decide⟩ ⟨Nat.zero_le _, Nat.zero_le _⟩ [1, 2, 0] rfl rfl ?_
                    refine G_bipush X (v := 44) dX6_takesOrder_128 (by decide) ?_
                    refine G_icmp_ne X (tgt := 137) dX6_takesOrder_130 (by decide) (fun h136 => ?_) (fun h136 => ?_)
                    · have h137 := ifp h136 h135
                      refine G_iconst X (v := 1) dX6_takesOrder_133 (by decide) ?_
                      refine G_goto X (tgt := 138) dX6_takesOrder_134 (by decide) ?_
                      obtain ⟨v138, h139, h140⟩ := bnd h137
                      refine G1_callv X (As := [.int 1]) (rest := []) (wr := [(h_text, .inl (cI, 60, .inl f_h_text)), (h_tells, .inl (cI, 3, .inl s99.2.2.2))]) (ws' := [(h, .inr (6, [.ref h_s, .ref h_aside, .ref h_before, .ref h_past, .int i_h_known, .ref h_text, .int i_h_length, .ref h_lost, .int i_h_losts, .int i_h_bestOrder, .int i_h_bestMany, .int v138.1, .int i_h_spot, .int v138.2, .int v1, .ref h_tells, .int i_h_faultReason, .int i_h_faultCause])), (h_text, .inl (cI, 60, .inl f_h_text)), (h_tells, .inl (cI, 3, .inl s99.2.2.2))]) dX6_takesOrder_138 pkX6_takes gX6_takesOrder_X6_takes (kkX6_takes l D cI cR h h_s h_aside h_before h_past h_text h_lost h_tells i_h_known i_h_length i_h_losts i_h_bestOrder i_h_bestMany s99.2.1 i_h_spot s99.2.2.1 v1 i_h_faultReason i_h_faultCause 1 v138 h139) ⟨rfl, rfl⟩ ⟨Nat.le_of_ble_eq_true rfl, Nat.le_of_ble_eq_true rfl⟩ rfl rfl (Nat.le_of_ble_eq_true rfl) 0 rfl rfl [0] [1, 2] rfl rfl ⟨rfl, rfl, by decide⟩ ⟨Nat.zero_le _, Nat.zero_le _⟩ [2, 0, 1] rfl rfl ?_
                      refine G_aload_n X dX6_takesOrder_141 0 rfl ?_
                      refine G_iload_n X dX6_takesOrder_142 2 rfl ?_
                      obtain ⟨v141, h142, h143⟩ := bnd h140
                      refine G1_callv X (As := [.int s99.1]) (rest := []) (wr := []) (ws' := [(h, .inr (6, [.ref h_s, .ref h_aside, .ref h_before, .ref h_past, .int i_h_known, .ref h_text, .int i_h_length, .ref h_lost, .int i_h_losts, .int i_h_bestOrder, .int i_h_bestMany, .int v141.1, .int i_h_spot, .int v141.2.1, .int v1, .ref h_tells, .int i_h_faultReason, .int i_h_faultCause])), (h_text, .inl (cI, 60, .inl f_h_text)), (h_tells, .inl (cI, 3, .inl v141.2.2))]) dX6_takesOrder_143 pkX6_takesNumber gX6_takesOrder_X6_takesNumber (kkX6_takesNumber l D cI cR h h_s h_aside h_before h_past h_text h_lost h_tells i_h_known i_h_length i_h_losts i_h_bestOrder i_h_bestMany v138.1 i_h_spot v138.2 v1 i_h_faultReason i_h_faultCause f_h_text s99.2.2.2 s99.1 v141 h142) ⟨rfl, rfl⟩ ⟨Nat.le_of_ble_eq_true rfl, Nat.le_of_ble_eq_true rfl⟩ rfl rfl (Nat.le_of_ble_eq_true rfl) 0 rfl rfl [0, 1, 2] [] rfl rfl ⟨rfl, rfl, by decide⟩ ⟨Nat.zero_le _, Nat.zero_le _⟩ [0, 1, 2] rfl rfl ?_
                      refine G_iinc X (v := (s99.1 + 1)) (lv' := [(2, .int (s99.1 + 1)), (0, .ref h), (1, .int j95)]) dX6_takesOrder_146 2 rfl rfl (by decide) rfl ?_
                      refine G_goto X (tgt := 114) dX6_takesOrder_149 (by decide) ?_
                      cases h143
                      exact G_lv [1, 2, 0] rfl (h104 _ rfl)
                    · have h144 := ifn h136 h135
                      refine G_iconst X (v := 0) dX6_takesOrder_137 (by decide) ?_
                      obtain ⟨v145, h146, h147⟩ := bnd h144
                      refine G1_callv X (As := [.int 0]) (rest := []) (wr := [(h_text, .inl (cI, 60, .inl f_h_text)), (h_tells, .inl (cI, 3, .inl s99.2.2.2))]) (ws' := [(h, .inr (6, [.ref h_s, .ref h_aside, .ref h_before, .ref h_past, .int i_h_known, .ref h_text, .int i_h_length, .ref h_lost, .int i_h_losts, .int i_h_bestOrder, .int i_h_bestMany, .int v145.1, .int i_h_spot, .int v145.2, .int v1, .ref h_tells, .int i_h_faultReason, .int i_h_faultCause])), (h_text, .inl (cI, 60, .inl f_h_text)), (h_tells, .inl (cI, 3, .inl s99.2.2.2))]) dX6_takesOrder_138 pkX6_takes gX6_takesOrder_X6_takes (kkX6_takes l D cI cR h h_s h_aside h_before h_past h_text h_lost h_tells i_h_known i_h_length i_h_losts i_h_bestOrder i_h_bestMany s99.2.1 i_h_spot s99.2.2.1 v1 i_h_faultReason i_h_faultCause 0 v145 h146) ⟨rfl, rfl⟩ ⟨Nat.le_of_ble_eq_true rfl, Nat.le_of_ble_eq_true rfl⟩ rfl rfl (Nat.le_of_ble_eq_true rfl) 0 rfl rfl [0] [1, 2] rfl rfl ⟨rfl, rfl, by decide⟩ ⟨Nat.zero_le _, Nat.zero_le _⟩ [2, 0, 1] rfl rfl ?_
                      refine G_aload_n X dX6_takesOrder_141 0 rfl ?_
                      refine G_iload_n X dX6_takesOrder_142 2 rfl ?_
                      obtain ⟨v148, h149, h150⟩ := bnd h147
                      refine G1_callv X (As := [.int s99.1]) (rest := []) (wr := []) (ws' := [(h, .inr (6, [.ref h_s, .ref h_aside, .ref h_before, .ref h_past, .int i_h_known, .ref h_text, .int i_h_length, .ref h_lost, .int i_h_losts, .int i_h_bestOrder, .int i_h_bestMany, .int v148.1, .int i_h_spot, .int v148.2.1, .int v1, .ref h_tells, .int i_h_faultReason, .int i_h_faultCause])), (h_text, .inl (cI, 60, .inl f_h_text)), (h_tells, .inl (cI, 3, .inl v148.2.2))]) dX6_takesOrder_143 pkX6_takesNumber gX6_takesOrder_X6_takesNumber (kkX6_takesNumber l D cI cR h h_s h_aside h_before h_past h_text h_lost h_tells i_h_known i_h_length i_h_losts i_h_bestOrder i_h_bestMany v145.1 i_h_spot v145.2 v1 i_h_faultReason i_h_faultCause f_h_text s99.2.2.2 s99.1 v148 h149) ⟨rfl, rfl⟩ ⟨Nat.le_of_ble_eq_true rfl, Nat.le_of_ble_eq_true rfl⟩ rfl rfl (Nat.le_of_ble_eq_true rfl) 0 rfl rfl [0, 1, 2] [] rfl rfl ⟨rfl, rfl, by decide⟩ ⟨Nat.zero_le _, Nat.zero_le _⟩ [0, 1, 2] rfl rfl ?_
                      refine G_iinc X (v := (s99.1 + 1)) (lv' := [(2, .int (s99.1 + 1)), (0, .ref h), (1, .int j95)]) dX6_takesOrder_146 2 rfl rfl (by decide) rfl ?_
                      refine G_goto X (tgt := 114) dX6_takesOrder_149 (by decide) ?_
                      cases h150
                      exact G_lv [1, 2, 0] rfl (h104 _ rfl)
              refine G_icmp_ne X (tgt := 97) dX6_takesOrder_90 (by decide) (fun h151 => ?_) (fun h151 => ?_)
              · have h152 := ifp h151 h96
                refine G_iconst X (v := 3) dX6_takesOrder_93 (by decide) ?_
                refine G_goto X (tgt := 111) dX6_takesOrder_94 (by decide) ?_
                cases h152
                exact J98
              · have h153 := ifn h151 h96
                refine G_aload_n X dX6_takesOrder_97 0 rfl ?_
                refine G_get X (i0 := 0) (ci := 6) (j := 14) (C := RX6) (ref := RX6) (T := TX6) (N := 18) dX6_takesOrder_98 rfl rfl hiX6_takesOrder_X6 (by decide) flX6_takesOrder_229 rfl rfl ?_
                refine G_bipush X (v := 115) dX6_takesOrder_101 (by decide) ?_
                refine G_icmp_ne X (tgt := 110) dX6_takesOrder_103 (by decide) (fun h154 => ?_) (fun h154 => ?_)
                · have h155 := ifp h154 h153
                  refine G_iconst X (v := 2) dX6_takesOrder_106 (by decide) ?_
                  refine G_goto X (tgt := 111) dX6_takesOrder_107 (by decide) ?_
                  cases h155
                  exact J98
                · have h156 := ifn h154 h153
                  refine G_iconst X (v := 1) dX6_takesOrder_110 (by decide) ?_
                  cases h156
                  exact J98
def rmX6_errorOfOrder : Room := { frames := 3, cells := 0, slots := 0, locals := 66 }
theorem pkX6_errorOfOrder : cK yX6_errorOfOrder wsX6_errorOfOrder cX6_errorOfOrder 1 (some .int) 0 RX6 := ⟨⟨_, rfl⟩, by decide +kernel⟩
theorem hiX6_errorOfOrder_X6 : ∀ w ∈ wsX60, w ∈ wsX6_errorOfOrder := by decide +kernel
theorem flX6_errorOfOrder_229 : Cond.fieldLink RX6 229 "EchoMarginsModel" "letter" "I" ∈ wsX6_errorOfOrder := by decide +kernel
theorem flX6_errorOfOrder_28 : Cond.fieldLink RX6 28 "EchoMarginsModel" "tells" "[I" ∈ wsX6_errorOfOrder := by decide +kernel
set_option maxHeartbeats 4000000 in
set_option maxRecDepth 100000 in
theorem kkX6_errorOfOrder (l : Launch) (D : va_G) (cI cR : ClassId) (h h_s h_aside h_before h_past h_text h_lost h_tells : Nat) (i_h_known : Int32) (i_h_length : Int32) (i_h_losts : Int32) (i_h_bestOrder : Int32) (i_h_bestMany : Int32) (i_h_spot : Int32) (i_h_begin : Int32) (i_h_isForm : Int32) (i_h_letter : Int32) (i_h_faultReason : Int32) (i_h_faultCause : Int32) (f_h_s : Nat → Int32) (f_h_tells : Nat → Int32) (z : Int32) (hz : MX6_errorOfOrder i_h_letter f_h_s f_h_tells = some z) : cI1 l yX6_errorOfOrder wsX6_errorOfOrder rmX6_errorOfOrder D cI cR [.ref h] [(h, .inr (6, [.ref h_s, .ref h_aside, .ref h_before, .ref h_past, .int i_h_known, .ref h_text, .int i_h_length, .ref h_lost, .int i_h_losts, .int i_h_bestOrder, .int i_h_bestMany, .int i_h_spot, .int i_h_begin, .int i_h_isForm, .int i_h_letter, .ref h_tells, .int i_h_faultReason, .int i_h_faultCause])), (h_s, .inl (cI, 703, .inl f_h_s)), (h_tells, .inl (cI, 3, .inl f_h_tells))] z [(h, .inr (6, [.ref h_s, .ref h_aside, .ref h_before, .ref h_past, .int i_h_known, .ref h_text, .int i_h_length, .ref h_lost, .int i_h_losts, .int i_h_bestOrder, .int i_h_bestMany, .int i_h_spot, .int i_h_begin, .int i_h_isForm, .int i_h_letter, .ref h_tells, .int i_h_faultReason, .int i_h_faultCause])), (h_s, .inl (cI, 703, .inl f_h_s)), (h_tells, .inl (cI, 3, .inl f_h_tells))] := by
  unfold MX6_errorOfOrder at hz
  refine kI_of (cc := cX6_errorOfOrder) (maxL := 1) (own := RX6) (by decide +kernel) rfl rfl (Nat.le_of_ble_eq_true rfl) (lv0 := [(0, .ref h)]) rfl (fun p e s m args below meth c A Q X rt => ?_)
  refine G_aload_n X dX6_errorOfOrder_0 0 rfl ?_
  refine G_get X (i0 := 0) (ci := 6) (j := 14) (C := RX6) (ref := RX6) (T := TX6) (N := 18) dX6_errorOfOrder_1 rfl rfl hiX6_errorOfOrder_X6 (by decide) flX6_errorOfOrder_229 rfl rfl ?_
  by_cases h1 : i_h_letter = 100
  · have h2 := ifp h1 hz
    refine G_lookup X (off := 76) (tgt := 80) dX6_errorOfOrder_4 (by decide) (by rw [h1]; decide) (by decide) ?_
    refine G_aload_n X dX6_errorOfOrder_80 0 rfl ?_
    refine G_aload_n X dX6_errorOfOrder_81 0 rfl ?_
    refine G_get X (i0 := 0) (ci := 6) (j := 15) (C := RX6) (ref := RX6) (T := TX6) (N := 18) dX6_errorOfOrder_82 rfl rfl hiX6_errorOfOrder_X6 (by decide) flX6_errorOfOrder_28 rfl rfl ?_
    refine G_iconst X (v := 0) dX6_errorOfOrder_85 (by decide) ?_
    obtain ⟨v4, h5, h6⟩ := bnd h2
    refine G_iald X (i0 := 2) dX6_errorOfOrder_86 rfl h5 ?_
    obtain ⟨v7, h8, h9⟩ := bnd h6
    refine G1_calli X (As := [.int v4]) (rest := []) (wr := [(h_tells, .inl (cI, 3, .inl f_h_tells))]) (ws' := [(h, .inr (6, [.ref h_s, .ref h_aside, .ref h_before, .ref h_past, .int i_h_known, .ref h_text, .int i_h_length, .ref h_lost, .int i_h_losts, .int i_h_bestOrder, .int i_h_bestMany, .int i_h_spot, .int i_h_begin, .int i_h_isForm, .int i_h_letter, .ref h_tells, .int i_h_faultReason, .int i_h_faultCause])), (h_s, .inl (cI, 703, .inl f_h_s)), (h_tells, .inl (cI, 3, .inl f_h_tells))]) dX6_errorOfOrder_87 pkX6_errorDays gX6_errorOfOrder_X6_errorDays (kkX6_errorDays l D cI cR h h_s h_aside h_before h_past h_text h_lost h_tells i_h_known i_h_length i_h_losts i_h_bestOrder i_h_bestMany i_h_spot i_h_begin i_h_isForm i_h_letter i_h_faultReason i_h_faultCause f_h_s v4 v7 h8) ⟨rfl, rfl⟩ ⟨Nat.le_of_ble_eq_true rfl, Nat.le_of_ble_eq_true rfl⟩ rfl rfl (Nat.le_of_ble_eq_true rfl) 0 rfl rfl [0, 1] [2] rfl rfl ⟨rfl, rfl, by decide⟩ ⟨Nat.zero_le _, Nat.zero_le _⟩ [1, 2, 0] rfl rfl ?_
    cases h9
    exact rt _ _ _ _ dX6_errorOfOrder_90 ⟨rfl, rfl⟩
  · have h3 := ifn h1 hz
    by_cases h10 : i_h_letter = 115
    · have h11 := ifp h10 h3
      refine G_lookup X (off := 59) (tgt := 63) dX6_errorOfOrder_4 (by decide) (by rw [h10]; decide) (by decide) ?_
      refine G_aload_n X dX6_errorOfOrder_63 0 rfl ?_
      refine G_aload_n X dX6_errorOfOrder_64 0 rfl ?_
      refine G_get X (i0 := 0) (ci := 6) (j := 15) (C := RX6) (ref := RX6) (T := TX6) (N := 18) dX6_errorOfOrder_65 rfl rfl hiX6_errorOfOrder_X6 (by decide) flX6_errorOfOrder_28 rfl rfl ?_
      refine G_iconst X (v := 0) dX6_errorOfOrder_68 (by decide) ?_
      obtain ⟨v13, h14, h15⟩ := bnd h11
      refine G_iald X (i0 := 2) dX6_errorOfOrder_69 rfl h14 ?_
      refine G_aload_n X dX6_errorOfOrder_70 0 rfl ?_
      refine G_get X (i0 := 0) (ci := 6) (j := 15) (C := RX6) (ref := RX6) (T := TX6) (N := 18) dX6_errorOfOrder_71 rfl rfl hiX6_errorOfOrder_X6 (by decide) flX6_errorOfOrder_28 rfl rfl ?_
      refine G_iconst X (v := 1) dX6_errorOfOrder_74 (by decide) ?_
      obtain ⟨v16, h17, h18⟩ := bnd h15
      refine G_iald X (i0 := 2) dX6_errorOfOrder_75 rfl h17 ?_
      obtain ⟨v19, h20, h21⟩ := bnd h18
      refine G1_calli X (As := [.int v13, .int v16]) (rest := []) (wr := [(h_tells, .inl (cI, 3, .inl f_h_tells))]) (ws' := [(h, .inr (6, [.ref h_s, .ref h_aside, .ref h_before, .ref h_past, .int i_h_known, .ref h_text, .int i_h_length, .ref h_lost, .int i_h_losts, .int i_h_bestOrder, .int i_h_bestMany, .int i_h_spot, .int i_h_begin, .int i_h_isForm, .int i_h_letter, .ref h_tells, .int i_h_faultReason, .int i_h_faultCause])), (h_s, .inl (cI, 703, .inl f_h_s)), (h_tells, .inl (cI, 3, .inl f_h_tells))]) dX6_errorOfOrder_76 pkX6_errorSwap gX6_errorOfOrder_X6_errorSwap (kkX6_errorSwap l D cI cR h h_s h_aside h_before h_past h_text h_lost h_tells i_h_known i_h_length i_h_losts i_h_bestOrder i_h_bestMany i_h_spot i_h_begin i_h_isForm i_h_letter i_h_faultReason i_h_faultCause f_h_s v13 v16 v19 h20) ⟨rfl, rfl⟩ ⟨Nat.le_of_ble_eq_true rfl, Nat.le_of_ble_eq_true rfl⟩ rfl rfl (Nat.le_of_ble_eq_true rfl) 0 rfl rfl [0, 1] [2] rfl rfl ⟨rfl, rfl, by decide⟩ ⟨Nat.zero_le _, Nat.zero_le _⟩ [1, 2, 0] rfl rfl ?_
      cases h21
      exact rt _ _ _ _ dX6_errorOfOrder_79 ⟨rfl, rfl⟩
    · have h12 := ifn h10 h3
      by_cases h22 : i_h_letter = 119
      · have h23 := ifp h22 h12
        refine G_lookup X (off := 36) (tgt := 40) dX6_errorOfOrder_4 (by decide) (by rw [h22]; decide) (by decide) ?_
        refine G_aload_n X dX6_errorOfOrder_40 0 rfl ?_
        refine G_aload_n X dX6_errorOfOrder_41 0 rfl ?_
        refine G_get X (i0 := 0) (ci := 6) (j := 15) (C := RX6) (ref := RX6) (T := TX6) (N := 18) dX6_errorOfOrder_42 rfl rfl hiX6_errorOfOrder_X6 (by decide) flX6_errorOfOrder_28 rfl rfl ?_
        refine G_iconst X (v := 0) dX6_errorOfOrder_45 (by decide) ?_
        obtain ⟨v25, h26, h27⟩ := bnd h23
        refine G_iald X (i0 := 2) dX6_errorOfOrder_46 rfl h26 ?_
        refine G_aload_n X dX6_errorOfOrder_47 0 rfl ?_
        refine G_get X (i0 := 0) (ci := 6) (j := 15) (C := RX6) (ref := RX6) (T := TX6) (N := 18) dX6_errorOfOrder_48 rfl rfl hiX6_errorOfOrder_X6 (by decide) flX6_errorOfOrder_28 rfl rfl ?_
        refine G_iconst X (v := 1) dX6_errorOfOrder_51 (by decide) ?_
        obtain ⟨v28, h29, h30⟩ := bnd h27
        refine G_iald X (i0 := 2) dX6_errorOfOrder_52 rfl h29 ?_
        refine G_aload_n X dX6_errorOfOrder_53 0 rfl ?_
        refine G_get X (i0 := 0) (ci := 6) (j := 15) (C := RX6) (ref := RX6) (T := TX6) (N := 18) dX6_errorOfOrder_54 rfl rfl hiX6_errorOfOrder_X6 (by decide) flX6_errorOfOrder_28 rfl rfl ?_
        refine G_iconst X (v := 2) dX6_errorOfOrder_57 (by decide) ?_
        obtain ⟨v31, h32, h33⟩ := bnd h30
        refine G_iald X (i0 := 2) dX6_errorOfOrder_58 rfl h32 ?_
        obtain ⟨v34, h35, h36⟩ := bnd h33
        refine G1_calli X (As := [.int v25, .int v28, .int v31]) (rest := []) (wr := [(h_tells, .inl (cI, 3, .inl f_h_tells))]) (ws' := [(h, .inr (6, [.ref h_s, .ref h_aside, .ref h_before, .ref h_past, .int i_h_known, .ref h_text, .int i_h_length, .ref h_lost, .int i_h_losts, .int i_h_bestOrder, .int i_h_bestMany, .int i_h_spot, .int i_h_begin, .int i_h_isForm, .int i_h_letter, .ref h_tells, .int i_h_faultReason, .int i_h_faultCause])), (h_s, .inl (cI, 703, .inl f_h_s)), (h_tells, .inl (cI, 3, .inl f_h_tells))]) dX6_errorOfOrder_59 pkX6_errorWrite gX6_errorOfOrder_X6_errorWrite (kkX6_errorWrite l D cI cR h h_s h_aside h_before h_past h_text h_lost h_tells i_h_known i_h_length i_h_losts i_h_bestOrder i_h_bestMany i_h_spot i_h_begin i_h_isForm i_h_letter i_h_faultReason i_h_faultCause f_h_s v25 v28 v31 v34 h35) ⟨rfl, rfl⟩ ⟨Nat.le_of_ble_eq_true rfl, Nat.le_of_ble_eq_true rfl⟩ rfl rfl (Nat.le_of_ble_eq_true rfl) 0 rfl rfl [0, 1] [2] rfl rfl ⟨rfl, rfl, by decide⟩ ⟨Nat.zero_le _, Nat.zero_le _⟩ [1, 2, 0] rfl rfl ?_
        cases h36
        exact rt _ _ _ _ dX6_errorOfOrder_62 ⟨rfl, rfl⟩
      · have h24 := ifn h22 h12
        refine G_lookup X (off := 87) (tgt := 91) dX6_errorOfOrder_4 (by decide) (lk_cons (fun q => h1 (Int32.toInt_inj.mp (q.trans (by decide)))) (lk_cons (fun q => h10 (Int32.toInt_inj.mp (q.trans (by decide)))) (lk_cons (fun q => h22 (Int32.toInt_inj.mp (q.trans (by decide)))) lk_nil))) (by decide) ?_
        refine G_aload_n X dX6_errorOfOrder_91 0 rfl ?_
        refine G_aload_n X dX6_errorOfOrder_92 0 rfl ?_
        refine G_get X (i0 := 0) (ci := 6) (j := 15) (C := RX6) (ref := RX6) (T := TX6) (N := 18) dX6_errorOfOrder_93 rfl rfl hiX6_errorOfOrder_X6 (by decide) flX6_errorOfOrder_28 rfl rfl ?_
        refine G_iconst X (v := 0) dX6_errorOfOrder_96 (by decide) ?_
        obtain ⟨v37, h38, h39⟩ := bnd h24
        refine G_iald X (i0 := 2) dX6_errorOfOrder_97 rfl h38 ?_
        refine G_aload_n X dX6_errorOfOrder_98 0 rfl ?_
        refine G_get X (i0 := 0) (ci := 6) (j := 14) (C := RX6) (ref := RX6) (T := TX6) (N := 18) dX6_errorOfOrder_99 rfl rfl hiX6_errorOfOrder_X6 (by decide) flX6_errorOfOrder_229 rfl rfl ?_
        refine G_bipush X (v := 109) dX6_errorOfOrder_102 (by decide) ?_
        obtain ⟨j40, h41, h42⟩ := bnd h39
        have J43 : G p l e rmX6_errorOfOrder s m args below meth c D A 1 Q 0 0 112 [] [.int j40, .int v37, .ref h] [(h, .inr (6, [.ref h_s, .ref h_aside, .ref h_before, .ref h_past, .int i_h_known, .ref h_text, .int i_h_length, .ref h_lost, .int i_h_losts, .int i_h_bestOrder, .int i_h_bestMany, .int i_h_spot, .int i_h_begin, .int i_h_isForm, .int i_h_letter, .ref h_tells, .int i_h_faultReason, .int i_h_faultCause])), (h_s, .inl (cI, 703, .inl f_h_s)), (h_tells, .inl (cI, 3, .inl f_h_tells))] := by
          obtain ⟨v44, h45, h46⟩ := bnd h42
          refine G1_calli X (As := [.int v37, .int j40]) (rest := []) (wr := [(h_tells, .inl (cI, 3, .inl f_h_tells))]) (ws' := [(h, .inr (6, [.ref h_s, .ref h_aside, .ref h_before, .ref h_past, .int i_h_known, .ref h_text, .int i_h_length, .ref h_lost, .int i_h_losts, .int i_h_bestOrder, .int i_h_bestMany, .int i_h_spot, .int i_h_begin, .int i_h_isForm, .int i_h_letter, .ref h_tells, .int i_h_faultReason, .int i_h_faultCause])), (h_s, .inl (cI, 703, .inl f_h_s)), (h_tells, .inl (cI, 3, .inl f_h_tells))]) dX6_errorOfOrder_112 pkX6_errorOf gX6_errorOfOrder_X6_errorOf (kkX6_errorOf l D cI cR h h_s h_aside h_before h_past h_text h_lost h_tells i_h_known i_h_length i_h_losts i_h_bestOrder i_h_bestMany i_h_spot i_h_begin i_h_isForm i_h_letter i_h_faultReason i_h_faultCause f_h_s v37 j40 v44 h45) ⟨rfl, rfl⟩ ⟨Nat.le_of_ble_eq_true rfl, Nat.le_of_ble_eq_true rfl⟩ rfl rfl (Nat.le_of_ble_eq_true rfl) 0 rfl rfl [0, 1] [2] rfl rfl ⟨rfl, rfl, by decide⟩ ⟨Nat.zero_le _, Nat.zero_le _⟩ [1, 2, 0] rfl rfl ?_
          cases h46
          exact rt _ _ _ _ dX6_errorOfOrder_115 ⟨rfl, rfl⟩
        refine G_icmp_eq X (tgt := 111) dX6_errorOfOrder_104 (by decide) (fun h47 => ?_) (fun h47 => ?_)
        · have h48 := ifp h47 h41
          refine G_iconst X (v := 0) dX6_errorOfOrder_111 (by decide) ?_
          cases h48
          exact G_lv [] rfl (J43)
        · have h49 := ifn h47 h41
          refine G_iconst X (v := 1) dX6_errorOfOrder_107 (by decide) ?_
          refine G_goto X (tgt := 112) dX6_errorOfOrder_108 (by decide) ?_
          cases h49
          exact G_lv [] rfl (J43)
def rmX6_doesOrder : Room := { frames := 8, cells := 0, slots := 0, locals := 184 }
theorem pkX6_doesOrder : cK yX6_doesOrder wsX6_doesOrder cX6_doesOrder 2 none 0 RX6 := ⟨⟨_, rfl⟩, by decide +kernel⟩
theorem hiX6_doesOrder_X6 : ∀ w ∈ wsX60, w ∈ wsX6_doesOrder := by decide +kernel
theorem flX6_doesOrder_229 : Cond.fieldLink RX6 229 "EchoMarginsModel" "letter" "I" ∈ wsX6_doesOrder := by decide +kernel
theorem flX6_doesOrder_7 : Cond.fieldLink RX6 7 "EchoMarginsModel" "s" "[I" ∈ wsX6_doesOrder := by decide +kernel
theorem flX6_doesOrder_28 : Cond.fieldLink RX6 28 "EchoMarginsModel" "tells" "[I" ∈ wsX6_doesOrder := by decide +kernel
set_option maxHeartbeats 4000000 in
set_option maxRecDepth 100000 in
theorem kkX6_doesOrder (l : Launch) (D : va_G) (cI cR : ClassId) (h h_s h_aside h_before h_past h_text h_lost h_tells : Nat) (i_h_known : Int32) (i_h_length : Int32) (i_h_losts : Int32) (i_h_bestOrder : Int32) (i_h_bestMany : Int32) (i_h_spot : Int32) (i_h_begin : Int32) (i_h_isForm : Int32) (i_h_letter : Int32) (i_h_faultReason : Int32) (i_h_faultCause : Int32) (f_h_s : Nat → Int32) (f_h_tells : Nat → Int32) (z : (Nat → Int32)) (hz : MX6_doesOrder i_h_letter f_h_s f_h_tells = some z) : cV1 l yX6_doesOrder wsX6_doesOrder rmX6_doesOrder D cI cR [.ref h] [(h, .inr (6, [.ref h_s, .ref h_aside, .ref h_before, .ref h_past, .int i_h_known, .ref h_text, .int i_h_length, .ref h_lost, .int i_h_losts, .int i_h_bestOrder, .int i_h_bestMany, .int i_h_spot, .int i_h_begin, .int i_h_isForm, .int i_h_letter, .ref h_tells, .int i_h_faultReason, .int i_h_faultCause])), (h_s, .inl (cI, 703, .inl f_h_s)), (h_tells, .inl (cI, 3, .inl f_h_tells))] [(h, .inr (6, [.ref h_s, .ref h_aside, .ref h_before, .ref h_past, .int i_h_known, .ref h_text, .int i_h_length, .ref h_lost, .int i_h_losts, .int i_h_bestOrder, .int i_h_bestMany, .int i_h_spot, .int i_h_begin, .int i_h_isForm, .int i_h_letter, .ref h_tells, .int i_h_faultReason, .int i_h_faultCause])), (h_s, .inl (cI, 703, .inl z)), (h_tells, .inl (cI, 3, .inl f_h_tells))] := by
  unfold MX6_doesOrder at hz
  refine kV_of (cc := cX6_doesOrder) (maxL := 2) (own := RX6) (by decide +kernel) rfl rfl (Nat.le_of_ble_eq_true rfl) (lv0 := [(0, .ref h)]) rfl (fun p e s m args below meth c A Q X rt => ?_)
  refine G_iconst X (v := 0) dX6_doesOrder_0 (by decide) ?_
  refine G_istore_n X (lv' := [(1, .int 0), (0, .ref h)]) dX6_doesOrder_1 (by decide) rfl ?_
  refine G_aload_n X dX6_doesOrder_2 1 rfl ?_
  refine G_get X (i0 := 0) (ci := 6) (j := 14) (C := RX6) (ref := RX6) (T := TX6) (N := 18) dX6_doesOrder_3 rfl rfl hiX6_doesOrder_X6 (by decide) flX6_doesOrder_229 rfl rfl ?_
  by_cases h1 : i_h_letter = 100
  · have h2 := ifp h1 hz
    refine G_lookup X (off := 96) (tgt := 102) dX6_doesOrder_6 (by decide) (by rw [h1]; decide) (by decide) ?_
    refine G_aload_n X dX6_doesOrder_102 1 rfl ?_
    refine G_get X (i0 := 0) (ci := 6) (j := 0) (C := RX6) (ref := RX6) (T := TX6) (N := 18) dX6_doesOrder_103 rfl rfl hiX6_doesOrder_X6 (by decide) flX6_doesOrder_7 rfl rfl ?_
    refine G_iconst X (v := 1) dX6_doesOrder_106 (by decide) ?_
    refine G_dup2 X dX6_doesOrder_107 rfl rfl ?_
    obtain ⟨v4, h5, h6⟩ := bnd h2
    refine G_iald X (i0 := 1) dX6_doesOrder_108 rfl h5 ?_
    refine G_aload_n X dX6_doesOrder_109 1 rfl ?_
    refine G_get X (i0 := 0) (ci := 6) (j := 15) (C := RX6) (ref := RX6) (T := TX6) (N := 18) dX6_doesOrder_110 rfl rfl hiX6_doesOrder_X6 (by decide) flX6_doesOrder_28 rfl rfl ?_
    refine G_iconst X (v := 0) dX6_doesOrder_113 (by decide) ?_
    obtain ⟨v7, h8, h9⟩ := bnd h6
    refine G_iald X (i0 := 2) dX6_doesOrder_114 rfl h8 ?_
    refine G_iadd X dX6_doesOrder_115 ?_
    obtain ⟨g10, h11, h12⟩ := bnd h9
    refine G_iast X (i0 := 1) (ws' := [(h, .inr (6, [.ref h_s, .ref h_aside, .ref h_before, .ref h_past, .int i_h_known, .ref h_text, .int i_h_length, .ref h_lost, .int i_h_losts, .int i_h_bestOrder, .int i_h_bestMany, .int i_h_spot, .int i_h_begin, .int i_h_isForm, .int i_h_letter, .ref h_tells, .int i_h_faultReason, .int i_h_faultCause])), (h_s, .inl (cI, 703, .inl g10)), (h_tells, .inl (cI, 3, .inl f_h_tells))]) dX6_doesOrder_116 rfl h11 rfl ?_
    refine G_goto X (tgt := 159) dX6_doesOrder_117 (by decide) ?_
    cases h12
    exact rt _ _ _ dX6_doesOrder_159 rfl
  · have h3 := ifn h1 hz
    by_cases h13 : i_h_letter = 108
    · have h14 := ifp h13 h3
      refine G_lookup X (off := 114) (tgt := 120) dX6_doesOrder_6 (by decide) (by rw [h13]; decide) (by decide) ?_
      refine G_aload_n X dX6_doesOrder_120 1 rfl ?_
      refine G_aload_n X dX6_doesOrder_121 1 rfl ?_
      refine G_get X (i0 := 0) (ci := 6) (j := 15) (C := RX6) (ref := RX6) (T := TX6) (N := 18) dX6_doesOrder_122 rfl rfl hiX6_doesOrder_X6 (by decide) flX6_doesOrder_28 rfl rfl ?_
      refine G_iconst X (v := 0) dX6_doesOrder_125 (by decide) ?_
      obtain ⟨v16, h17, h18⟩ := bnd h14
      refine G_iald X (i0 := 2) dX6_doesOrder_126 rfl h17 ?_
      obtain ⟨v19, h20, h21⟩ := bnd h18
      refine G1_calli X (As := [.int v16]) (rest := []) (wr := [(h_tells, .inl (cI, 3, .inl f_h_tells))]) (ws' := [(h, .inr (6, [.ref h_s, .ref h_aside, .ref h_before, .ref h_past, .int i_h_known, .ref h_text, .int i_h_length, .ref h_lost, .int i_h_losts, .int i_h_bestOrder, .int i_h_bestMany, .int i_h_spot, .int i_h_begin, .int i_h_isForm, .int i_h_letter, .ref h_tells, .int i_h_faultReason, .int i_h_faultCause])), (h_s, .inl (cI, 703, .inl v19.2)), (h_tells, .inl (cI, 3, .inl f_h_tells))]) dX6_doesOrder_127 pkX6_goLose gX6_doesOrder_X6_goLose (kkX6_goLose l D cI cR h h_s h_aside h_before h_past h_text h_lost h_tells i_h_known i_h_length i_h_losts i_h_bestOrder i_h_bestMany i_h_spot i_h_begin i_h_isForm i_h_letter i_h_faultReason i_h_faultCause f_h_s v16 v19 h20) ⟨rfl, rfl⟩ ⟨Nat.le_of_ble_eq_true rfl, Nat.le_of_ble_eq_true rfl⟩ rfl rfl (Nat.le_of_ble_eq_true rfl) 0 rfl rfl [0, 1] [2] rfl rfl ⟨rfl, rfl, by decide⟩ ⟨Nat.zero_le _, Nat.zero_le _⟩ [1, 2, 0] rfl rfl ?_
      refine G_istore_n X (lv' := [(1, .int v19.1), (0, .ref h)]) dX6_doesOrder_130 (by decide) rfl ?_
      refine G_goto X (tgt := 159) dX6_doesOrder_131 (by decide) ?_
      cases h21
      exact rt _ _ _ dX6_doesOrder_159 rfl
    · have h15 := ifn h13 h3
      by_cases h22 : i_h_letter = 109
      · have h23 := ifp h22 h15
        refine G_lookup X (off := 128) (tgt := 134) dX6_doesOrder_6 (by decide) (by rw [h22]; decide) (by decide) ?_
        refine G_aload_n X dX6_doesOrder_134 1 rfl ?_
        refine G_aload_n X dX6_doesOrder_135 1 rfl ?_
        refine G_get X (i0 := 0) (ci := 6) (j := 15) (C := RX6) (ref := RX6) (T := TX6) (N := 18) dX6_doesOrder_136 rfl rfl hiX6_doesOrder_X6 (by decide) flX6_doesOrder_28 rfl rfl ?_
        refine G_iconst X (v := 0) dX6_doesOrder_139 (by decide) ?_
        obtain ⟨v25, h26, h27⟩ := bnd h23
        refine G_iald X (i0 := 2) dX6_doesOrder_140 rfl h26 ?_
        obtain ⟨v28, h29, h30⟩ := bnd h27
        refine G1_calli X (As := [.int v25]) (rest := []) (wr := [(h_tells, .inl (cI, 3, .inl f_h_tells))]) (ws' := [(h, .inr (6, [.ref h_s, .ref h_aside, .ref h_before, .ref h_past, .int i_h_known, .ref h_text, .int i_h_length, .ref h_lost, .int i_h_losts, .int i_h_bestOrder, .int i_h_bestMany, .int i_h_spot, .int i_h_begin, .int i_h_isForm, .int i_h_letter, .ref h_tells, .int i_h_faultReason, .int i_h_faultCause])), (h_s, .inl (cI, 703, .inl v28.2)), (h_tells, .inl (cI, 3, .inl f_h_tells))]) dX6_doesOrder_141 pkX6_goMend gX6_doesOrder_X6_goMend (kkX6_goMend l D cI cR h h_s h_aside h_before h_past h_text h_lost h_tells i_h_known i_h_length i_h_losts i_h_bestOrder i_h_bestMany i_h_spot i_h_begin i_h_isForm i_h_letter i_h_faultReason i_h_faultCause f_h_s v25 v28 h29) ⟨rfl, rfl⟩ ⟨Nat.le_of_ble_eq_true rfl, Nat.le_of_ble_eq_true rfl⟩ rfl rfl (Nat.le_of_ble_eq_true rfl) 0 rfl rfl [0, 1] [2] rfl rfl ⟨rfl, rfl, by decide⟩ ⟨Nat.zero_le _, Nat.zero_le _⟩ [1, 2, 0] rfl rfl ?_
        refine G_istore_n X (lv' := [(1, .int v28.1), (0, .ref h)]) dX6_doesOrder_144 (by decide) rfl ?_
        refine G_goto X (tgt := 159) dX6_doesOrder_145 (by decide) ?_
        cases h30
        exact rt _ _ _ dX6_doesOrder_159 rfl
      · have h24 := ifn h22 h15
        by_cases h31 : i_h_letter = 115
        · have h32 := ifp h31 h24
          refine G_lookup X (off := 76) (tgt := 82) dX6_doesOrder_6 (by decide) (by rw [h31]; decide) (by decide) ?_
          refine G_aload_n X dX6_doesOrder_82 1 rfl ?_
          refine G_aload_n X dX6_doesOrder_83 1 rfl ?_
          refine G_get X (i0 := 0) (ci := 6) (j := 15) (C := RX6) (ref := RX6) (T := TX6) (N := 18) dX6_doesOrder_84 rfl rfl hiX6_doesOrder_X6 (by decide) flX6_doesOrder_28 rfl rfl ?_
          refine G_iconst X (v := 0) dX6_doesOrder_87 (by decide) ?_
          obtain ⟨v34, h35, h36⟩ := bnd h32
          refine G_iald X (i0 := 2) dX6_doesOrder_88 rfl h35 ?_
          refine G_aload_n X dX6_doesOrder_89 1 rfl ?_
          refine G_get X (i0 := 0) (ci := 6) (j := 15) (C := RX6) (ref := RX6) (T := TX6) (N := 18) dX6_doesOrder_90 rfl rfl hiX6_doesOrder_X6 (by decide) flX6_doesOrder_28 rfl rfl ?_
          refine G_iconst X (v := 1) dX6_doesOrder_93 (by decide) ?_
          obtain ⟨v37, h38, h39⟩ := bnd h36
          refine G_iald X (i0 := 2) dX6_doesOrder_94 rfl h38 ?_
          obtain ⟨v40, h41, h42⟩ := bnd h39
          refine G1_calli X (As := [.int v34, .int v37]) (rest := []) (wr := [(h_tells, .inl (cI, 3, .inl f_h_tells))]) (ws' := [(h, .inr (6, [.ref h_s, .ref h_aside, .ref h_before, .ref h_past, .int i_h_known, .ref h_text, .int i_h_length, .ref h_lost, .int i_h_losts, .int i_h_bestOrder, .int i_h_bestMany, .int i_h_spot, .int i_h_begin, .int i_h_isForm, .int i_h_letter, .ref h_tells, .int i_h_faultReason, .int i_h_faultCause])), (h_s, .inl (cI, 703, .inl v40.2)), (h_tells, .inl (cI, 3, .inl f_h_tells))]) dX6_doesOrder_95 pkX6_goSwap gX6_doesOrder_X6_goSwap (kkX6_goSwap l D cI cR h h_s h_aside h_before h_past h_text h_lost h_tells i_h_known i_h_length i_h_losts i_h_bestOrder i_h_bestMany i_h_spot i_h_begin i_h_isForm i_h_letter i_h_faultReason i_h_faultCause f_h_s v34 v37 v40 h41) ⟨rfl, rfl⟩ ⟨Nat.le_of_ble_eq_true rfl, Nat.le_of_ble_eq_true rfl⟩ rfl rfl (Nat.le_of_ble_eq_true rfl) 0 rfl rfl [0, 1] [2] rfl rfl ⟨rfl, rfl, by decide⟩ ⟨Nat.zero_le _, Nat.zero_le _⟩ [1, 2, 0] rfl rfl ?_
          refine G_istore_n X (lv' := [(1, .int v40.1), (0, .ref h)]) dX6_doesOrder_98 (by decide) rfl ?_
          refine G_goto X (tgt := 159) dX6_doesOrder_99 (by decide) ?_
          cases h42
          exact rt _ _ _ dX6_doesOrder_159 rfl
        · have h33 := ifn h31 h24
          by_cases h43 : i_h_letter = 119
          · have h44 := ifp h43 h33
            refine G_lookup X (off := 50) (tgt := 56) dX6_doesOrder_6 (by decide) (by rw [h43]; decide) (by decide) ?_
            refine G_aload_n X dX6_doesOrder_56 1 rfl ?_
            refine G_aload_n X dX6_doesOrder_57 1 rfl ?_
            refine G_get X (i0 := 0) (ci := 6) (j := 15) (C := RX6) (ref := RX6) (T := TX6) (N := 18) dX6_doesOrder_58 rfl rfl hiX6_doesOrder_X6 (by decide) flX6_doesOrder_28 rfl rfl ?_
            refine G_iconst X (v := 0) dX6_doesOrder_61 (by decide) ?_
            obtain ⟨v46, h47, h48⟩ := bnd h44
            refine G_iald X (i0 := 2) dX6_doesOrder_62 rfl h47 ?_
            refine G_aload_n X dX6_doesOrder_63 1 rfl ?_
            refine G_get X (i0 := 0) (ci := 6) (j := 15) (C := RX6) (ref := RX6) (T := TX6) (N := 18) dX6_doesOrder_64 rfl rfl hiX6_doesOrder_X6 (by decide) flX6_doesOrder_28 rfl rfl ?_
            refine G_iconst X (v := 1) dX6_doesOrder_67 (by decide) ?_
            obtain ⟨v49, h50, h51⟩ := bnd h48
            refine G_iald X (i0 := 2) dX6_doesOrder_68 rfl h50 ?_
            refine G_aload_n X dX6_doesOrder_69 1 rfl ?_
            refine G_get X (i0 := 0) (ci := 6) (j := 15) (C := RX6) (ref := RX6) (T := TX6) (N := 18) dX6_doesOrder_70 rfl rfl hiX6_doesOrder_X6 (by decide) flX6_doesOrder_28 rfl rfl ?_
            refine G_iconst X (v := 2) dX6_doesOrder_73 (by decide) ?_
            obtain ⟨v52, h53, h54⟩ := bnd h51
            refine G_iald X (i0 := 2) dX6_doesOrder_74 rfl h53 ?_
            obtain ⟨v55, h56, h57⟩ := bnd h54
            refine G1_calli X (As := [.int v46, .int v49, .int v52]) (rest := []) (wr := [(h_tells, .inl (cI, 3, .inl f_h_tells))]) (ws' := [(h, .inr (6, [.ref h_s, .ref h_aside, .ref h_before, .ref h_past, .int i_h_known, .ref h_text, .int i_h_length, .ref h_lost, .int i_h_losts, .int i_h_bestOrder, .int i_h_bestMany, .int i_h_spot, .int i_h_begin, .int i_h_isForm, .int i_h_letter, .ref h_tells, .int i_h_faultReason, .int i_h_faultCause])), (h_s, .inl (cI, 703, .inl v55.2)), (h_tells, .inl (cI, 3, .inl f_h_tells))]) dX6_doesOrder_75 pkX6_goWrite gX6_doesOrder_X6_goWrite (kkX6_goWrite l D cI cR h h_s h_aside h_before h_past h_text h_lost h_tells i_h_known i_h_length i_h_losts i_h_bestOrder i_h_bestMany i_h_spot i_h_begin i_h_isForm i_h_letter i_h_faultReason i_h_faultCause f_h_s v46 v49 v52 v55 h56) ⟨rfl, rfl⟩ ⟨Nat.le_of_ble_eq_true rfl, Nat.le_of_ble_eq_true rfl⟩ rfl rfl (Nat.le_of_ble_eq_true rfl) 0 rfl rfl [0, 1] [2] rfl rfl ⟨rfl, rfl, by decide⟩ ⟨Nat.zero_le _, Nat.zero_le _⟩ [1, 2, 0] rfl rfl ?_
            refine G_istore_n X (lv' := [(1, .int v55.1), (0, .ref h)]) dX6_doesOrder_78 (by decide) rfl ?_
            refine G_goto X (tgt := 159) dX6_doesOrder_79 (by decide) ?_
            cases h57
            exact rt _ _ _ dX6_doesOrder_159 rfl
          · have h45 := ifn h43 h33
            refine G_lookup X (off := 142) (tgt := 148) dX6_doesOrder_6 (by decide) (lk_cons (fun q => h1 (Int32.toInt_inj.mp (q.trans (by decide)))) (lk_cons (fun q => h13 (Int32.toInt_inj.mp (q.trans (by decide)))) (lk_cons (fun q => h22 (Int32.toInt_inj.mp (q.trans (by decide)))) (lk_cons (fun q => h31 (Int32.toInt_inj.mp (q.trans (by decide)))) (lk_cons (fun q => h43 (Int32.toInt_inj.mp (q.trans (by decide)))) lk_nil))))) (by decide) ?_
            refine G_aload_n X dX6_doesOrder_148 1 rfl ?_
            refine G_aload_n X dX6_doesOrder_149 1 rfl ?_
            refine G_get X (i0 := 0) (ci := 6) (j := 15) (C := RX6) (ref := RX6) (T := TX6) (N := 18) dX6_doesOrder_150 rfl rfl hiX6_doesOrder_X6 (by decide) flX6_doesOrder_28 rfl rfl ?_
            refine G_iconst X (v := 0) dX6_doesOrder_153 (by decide) ?_
            obtain ⟨v58, h59, h60⟩ := bnd h45
            refine G_iald X (i0 := 2) dX6_doesOrder_154 rfl h59 ?_
            obtain ⟨v61, h62, h63⟩ := bnd h60
            refine G1_calli X (As := [.int v58]) (rest := []) (wr := [(h_tells, .inl (cI, 3, .inl f_h_tells))]) (ws' := [(h, .inr (6, [.ref h_s, .ref h_aside, .ref h_before, .ref h_past, .int i_h_known, .ref h_text, .int i_h_length, .ref h_lost, .int i_h_losts, .int i_h_bestOrder, .int i_h_bestMany, .int i_h_spot, .int i_h_begin, .int i_h_isForm, .int i_h_letter, .ref h_tells, .int i_h_faultReason, .int i_h_faultCause])), (h_s, .inl (cI, 703, .inl v61.2)), (h_tells, .inl (cI, 3, .inl f_h_tells))]) dX6_doesOrder_155 pkX6_laysRow gX6_doesOrder_X6_laysRow (kkX6_laysRow l D cI cR h h_s h_aside h_before h_past h_text h_lost h_tells i_h_known i_h_length i_h_losts i_h_bestOrder i_h_bestMany i_h_spot i_h_begin i_h_isForm i_h_letter i_h_faultReason i_h_faultCause f_h_s v58 v61 h62) ⟨rfl, rfl⟩ ⟨Nat.le_of_ble_eq_true rfl, Nat.le_of_ble_eq_true rfl⟩ rfl rfl (Nat.le_of_ble_eq_true rfl) 0 rfl rfl [0, 1] [2] rfl rfl ⟨rfl, rfl, by decide⟩ ⟨Nat.zero_le _, Nat.zero_le _⟩ [1, 2, 0] rfl rfl ?_
            refine G_istore_n X (lv' := [(1, .int v61.1), (0, .ref h)]) dX6_doesOrder_158 (by decide) rfl ?_
            cases h63
            exact rt _ _ _ dX6_doesOrder_159 rfl
def rmX6_doesAll : Room := { frames := 9, cells := 0, slots := 0, locals := 205 }
theorem pkX6_doesAll : cK yX6_doesAll wsX6_doesAll cX6_doesAll 3 (some .int) 0 RX6 := ⟨⟨_, rfl⟩, by decide +kernel⟩
theorem hiX6_doesAll_X6 : ∀ w ∈ wsX60, w ∈ wsX6_doesAll := by decide +kernel
theorem flX6_doesAll_240 : Cond.fieldLink RX6 240 "EchoMarginsModel" "faultReason" "I" ∈ wsX6_doesAll := by decide +kernel
theorem flX6_doesAll_216 : Cond.fieldLink RX6 216 "EchoMarginsModel" "spot" "I" ∈ wsX6_doesAll := by decide +kernel
theorem flX6_doesAll_213 : Cond.fieldLink RX6 213 "EchoMarginsModel" "length" "I" ∈ wsX6_doesAll := by decide +kernel
theorem flX6_doesAll_219 : Cond.fieldLink RX6 219 "EchoMarginsModel" "isForm" "Z" ∈ wsX6_doesAll := by decide +kernel
theorem flX6_doesAll_226 : Cond.fieldLink RX6 226 "EchoMarginsModel" "begin" "I" ∈ wsX6_doesAll := by decide +kernel
theorem flX6_doesAll_249 : Cond.fieldLink RX6 249 "EchoMarginsModel" "faultCause" "I" ∈ wsX6_doesAll := by decide +kernel
set_option maxHeartbeats 4000000 in
set_option maxRecDepth 100000 in
theorem kkX6_doesAll (l : Launch) (D : va_G) (cI cR : ClassId) (h h_s h_aside h_before h_past h_text h_lost h_tells : Nat) (i_h_known : Int32) (i_h_length : Int32) (i_h_losts : Int32) (i_h_bestOrder : Int32) (i_h_bestMany : Int32) (i_h_spot : Int32) (i_h_begin : Int32) (i_h_isForm : Int32) (i_h_letter : Int32) (i_h_faultReason : Int32) (i_h_faultCause : Int32) (f_h_s : Nat → Int32) (f_h_text : Nat → Int32) (f_h_tells : Nat → Int32) (z : (Int32 × Int32 × Int32 × Int32 × Int32 × Int32 × Int32 × (Nat → Int32) × (Nat → Int32))) (hz : MX6_doesAll i_h_length i_h_spot i_h_begin i_h_isForm i_h_letter i_h_faultReason i_h_faultCause f_h_s f_h_text f_h_tells = some z) : cI1 l yX6_doesAll wsX6_doesAll rmX6_doesAll D cI cR [.ref h] [(h, .inr (6, [.ref h_s, .ref h_aside, .ref h_before, .ref h_past, .int i_h_known, .ref h_text, .int i_h_length, .ref h_lost, .int i_h_losts, .int i_h_bestOrder, .int i_h_bestMany, .int i_h_spot, .int i_h_begin, .int i_h_isForm, .int i_h_letter, .ref h_tells, .int i_h_faultReason, .int i_h_faultCause])), (h_s, .inl (cI, 703, .inl f_h_s)), (h_text, .inl (cI, 60, .inl f_h_text)), (h_tells, .inl (cI, 3, .inl f_h_tells))] z.1 [(h, .inr (6, [.ref h_s, .ref h_aside, .ref h_before, .ref h_past, .int i_h_known, .ref h_text, .int i_h_length, .ref h_lost, .int i_h_losts, .int i_h_bestOrder, .int i_h_bestMany, .int z.2.1, .int z.2.2.1, .int z.2.2.2.1, .int z.2.2.2.2.1, .ref h_tells, .int z.2.2.2.2.2.1, .int z.2.2.2.2.2.2.1])), (h_s, .inl (cI, 703, .inl z.2.2.2.2.2.2.2.1)), (h_text, .inl (cI, 60, .inl f_h_text)), (h_tells, .inl (cI, 3, .inl z.2.2.2.2.2.2.2.2))] := by
  unfold MX6_doesAll at hz
  refine kI_of (cc := cX6_doesAll) (maxL := 3) (own := RX6) (by decide +kernel) rfl rfl (Nat.le_of_ble_eq_true rfl) (lv0 := [(0, .ref h)]) rfl (fun p e s m args below meth c A Q X rt => ?_)
  refine G_iconst X (v := 0) dX6_doesAll_0 (by decide) ?_
  refine G_istore_n X (lv' := [(1, .int 0), (0, .ref h)]) dX6_doesAll_1 (by decide) rfl ?_
  refine G_aload_n X dX6_doesAll_2 1 rfl ?_
  refine G_iconst X (v := 0) dX6_doesAll_3 (by decide) ?_
  refine G_put X (i0 := 0) (ci := 6) (j := 16) (C := RX6) (ref := RX6) (T := TX6) (N := 18) (ty := .int) (ws' := [(h, .inr (6, [.ref h_s, .ref h_aside, .ref h_before, .ref h_past, .int i_h_known, .ref h_text, .int i_h_length, .ref h_lost, .int i_h_losts, .int i_h_bestOrder, .int i_h_bestMany, .int i_h_spot, .int i_h_begin, .int i_h_isForm, .int i_h_letter, .ref h_tells, .int 0, .int i_h_faultCause])), (h_s, .inl (cI, 703, .inl f_h_s)), (h_text, .inl (cI, 60, .inl f_h_text)), (h_tells, .inl (cI, 3, .inl f_h_tells))]) tyX6 dX6_doesAll_4 rfl rfl hiX6_doesAll_X6 tyX6_ok nmX6 (by decide) flX6_doesAll_240 rfl rfl rfl rfl rfl (Nat.le_of_ble_eq_true rfl) rfl ?_
  refine G_aload_n X dX6_doesAll_7 1 rfl ?_
  refine G_iconst X (v := 0) dX6_doesAll_8 (by decide) ?_
  refine G_put X (i0 := 0) (ci := 6) (j := 11) (C := RX6) (ref := RX6) (T := TX6) (N := 18) (ty := .int) (ws' := [(h, .inr (6, [.ref h_s, .ref h_aside, .ref h_before, .ref h_past, .int i_h_known, .ref h_text, .int i_h_length, .ref h_lost, .int i_h_losts, .int i_h_bestOrder, .int i_h_bestMany, .int 0, .int i_h_begin, .int i_h_isForm, .int i_h_letter, .ref h_tells, .int 0, .int i_h_faultCause])), (h_s, .inl (cI, 703, .inl f_h_s)), (h_text, .inl (cI, 60, .inl f_h_text)), (h_tells, .inl (cI, 3, .inl f_h_tells))]) tyX6 dX6_doesAll_9 rfl rfl hiX6_doesAll_X6 tyX6_ok nmX6 (by decide) flX6_doesAll_216 rfl rfl rfl rfl rfl (Nat.le_of_ble_eq_true rfl) rfl ?_
  obtain ⟨j2, h3, h4⟩ := bnd hz
  have J9 : G p l e rmX6_doesAll s m args below meth c D A 3 Q 0 0 114 [(1, .int j2.1)] [] [(h, .inr (6, [.ref h_s, .ref h_aside, .ref h_before, .ref h_past, .int i_h_known, .ref h_text, .int i_h_length, .ref h_lost, .int i_h_losts, .int i_h_bestOrder, .int i_h_bestMany, .int j2.2.1, .int j2.2.2.1, .int j2.2.2.2.1, .int j2.2.2.2.2.1, .ref h_tells, .int j2.2.2.2.2.2.1, .int j2.2.2.2.2.2.2.1])), (h_s, .inl (cI, 703, .inl j2.2.2.2.2.2.2.2.1)), (h_text, .inl (cI, 60, .inl f_h_text)), (h_tells, .inl (cI, 3, .inl j2.2.2.2.2.2.2.2.2))] := by
    refine G_iload_n X dX6_doesAll_114 0 rfl ?_
    cases h4
    exact rt _ _ _ _ dX6_doesAll_115 ⟨rfl, rfl⟩
  refine G_lv [1, 0] rfl ?_
  refine itr_ind (P := fun s1 : (Int32 × Int32 × Int32 × Int32 × Int32 × Int32 × Int32 × (Nat → Int32) × (Nat → Int32)) => G p l e rmX6_doesAll s m args below meth c D A 3 Q 0 0 12 [(0, .ref h), (1, .int s1.1)] [] [(h, .inr (6, [.ref h_s, .ref h_aside, .ref h_before, .ref h_past, .int i_h_known, .ref h_text, .int i_h_length, .ref h_lost, .int i_h_losts, .int i_h_bestOrder, .int i_h_bestMany, .int s1.2.1, .int s1.2.2.1, .int s1.2.2.2.1, .int s1.2.2.2.2.1, .ref h_tells, .int s1.2.2.2.2.2.1, .int s1.2.2.2.2.2.2.1])), (h_s, .inl (cI, 703, .inl s1.2.2.2.2.2.2.2.1)), (h_text, .inl (cI, 60, .inl f_h_text)), (h_tells, .inl (cI, 3, .inl s1.2.2.2.2.2.2.2.2))]) (fun s1 o8 h5 h6 h7 => ?_) FU _ h3
  unfold SX6_doesAll_12 at h5
  refine G_aload_n X dX6_doesAll_12 0 rfl ?_
  refine G_get X (i0 := 0) (ci := 6) (j := 16) (C := RX6) (ref := RX6) (T := TX6) (N := 18) dX6_doesAll_13 rfl rfl hiX6_doesAll_X6 (by decide) flX6_doesAll_240 rfl rfl ?_
  refine G_if_ne X (tgt := 114) dX6_doesAll_16 (by decide) (fun h11 => ?_) (fun h11 => ?_)
  · have h12 := ifp h11 h5
    refine G_aload_n X dX6_doesAll_19 0 rfl ?_
    refine G_get X (i0 := 0) (ci := 6) (j := 11) (C := RX6) (ref := RX6) (T := TX6) (N := 18) dX6_doesAll_20 rfl rfl hiX6_doesAll_X6 (by decide) flX6_doesAll_216 rfl rfl ?_
    refine G_aload_n X dX6_doesAll_23 0 rfl ?_
    refine G_get X (i0 := 0) (ci := 6) (j := 6) (C := RX6) (ref := RX6) (T := TX6) (N := 18) dX6_doesAll_24 rfl rfl hiX6_doesAll_X6 (by decide) flX6_doesAll_213 rfl rfl ?_
    refine G_icmp_ge X (tgt := 114) dX6_doesAll_27 (by decide) (fun h13 => ?_) (fun h13 => ?_)
    · have h14 := ifp h13 h12
      cases h14
      have h15 := h7 _ rfl
      subst h15
      exact G_lv [1] rfl (J9)
    · have h16 := ifn h13 h12
      refine G_aload_n X dX6_doesAll_30 0 rfl ?_
      obtain ⟨v17, h18, h19⟩ := bnd h16
      refine G1_callv X (As := []) (rest := []) (wr := [(h_s, .inl (cI, 703, .inl s1.2.2.2.2.2.2.2.1))]) (ws' := [(h, .inr (6, [.ref h_s, .ref h_aside, .ref h_before, .ref h_past, .int i_h_known, .ref h_text, .int i_h_length, .ref h_lost, .int i_h_losts, .int i_h_bestOrder, .int i_h_bestMany, .int v17.1, .int v17.2.1, .int v17.2.2.1, .int v17.2.2.2.1, .ref h_tells, .int s1.2.2.2.2.2.1, .int s1.2.2.2.2.2.2.1])), (h_s, .inl (cI, 703, .inl s1.2.2.2.2.2.2.2.1)), (h_text, .inl (cI, 60, .inl f_h_text)), (h_tells, .inl (cI, 3, .inl v17.2.2.2.2))]) dX6_doesAll_31 pkX6_takesOrder gX6_doesAll_X6_takesOrder (kkX6_takesOrder l D cI cR h h_s h_aside h_before h_past h_text h_lost h_tells i_h_known i_h_length i_h_losts i_h_bestOrder i_h_bestMany s1.2.1 s1.2.2.1 s1.2.2.2.1 s1.2.2.2.2.1 s1.2.2.2.2.2.1 s1.2.2.2.2.2.2.1 f_h_text s1.2.2.2.2.2.2.2.2 v17 h18) ⟨rfl, rfl⟩ ⟨Nat.le_of_ble_eq_true rfl, Nat.le_of_ble_eq_true rfl⟩ rfl rfl (Nat.le_of_ble_eq_true rfl) 0 rfl rfl [0, 2, 3] [1] rfl rfl ⟨rfl, rfl, by decide⟩ ⟨Nat.zero_le _, Nat.zero_le _⟩ [1, 0, 2, 3] rfl rfl ?_
      refine G_aload_n X dX6_doesAll_34 0 rfl ?_
      refine G_get X (i0 := 0) (ci := 6) (j := 13) (C := RX6) (ref := RX6) (T := TX6) (N := 18) dX6_doesAll_35 rfl rfl hiX6_doesAll_X6 (by decide) flX6_doesAll_219 rfl rfl ?_
      refine G_if_eq X (tgt := 48) dX6_doesAll_38 (by decide) (fun h20 => ?_) (fun h20 => ?_)
      · have h21 := ifp h20 h19
        refine G_iconst X (v := 0) dX6_doesAll_48 (by decide) ?_
        refine G_istore_n X (lv' := [(2, .int 0), (0, .ref h), (1, .int s1.1)]) dX6_doesAll_49 (by decide) rfl ?_
        refine G_aload_n X dX6_doesAll_50 1 rfl ?_
        refine G_get X (i0 := 0) (ci := 6) (j := 13) (C := RX6) (ref := RX6) (T := TX6) (N := 18) dX6_doesAll_51 rfl rfl hiX6_doesAll_X6 (by decide) flX6_doesAll_219 rfl rfl ?_
        refine G_if_eq X (tgt := 61) dX6_doesAll_54 (by decide) (fun h22 => ?_) (fun h22 => ?_)
        · have h23 := ifp h22 h21
          refine G_aload_n X dX6_doesAll_61 1 rfl ?_
          refine G_aload_n X dX6_doesAll_62 1 rfl ?_
          refine G_get X (i0 := 0) (ci := 6) (j := 13) (C := RX6) (ref := RX6) (T := TX6) (N := 18) dX6_doesAll_63 rfl rfl hiX6_doesAll_X6 (by decide) flX6_doesAll_219 rfl rfl ?_
          refine G_if_eq X (tgt := 73) dX6_doesAll_66 (by decide) (fun h24 => ?_) (fun h24 => ?_)
          · have h25 := ifp h24 h23
            refine G_iconst X (v := 1) dX6_doesAll_73 (by decide) ?_
            refine G_put X (i0 := 0) (ci := 6) (j := 16) (C := RX6) (ref := RX6) (T := TX6) (N := 18) (ty := .int) (ws' := [(h, .inr (6, [.ref h_s, .ref h_aside, .ref h_before, .ref h_past, .int i_h_known, .ref h_text, .int i_h_length, .ref h_lost, .int i_h_losts, .int i_h_bestOrder, .int i_h_bestMany, .int v17.1, .int v17.2.1, .int v17.2.2.1, .int v17.2.2.2.1, .ref h_tells, .int 1, .int s1.2.2.2.2.2.2.1])), (h_s, .inl (cI, 703, .inl s1.2.2.2.2.2.2.2.1)), (h_text, .inl (cI, 60, .inl f_h_text)), (h_tells, .inl (cI, 3, .inl v17.2.2.2.2))]) tyX6 dX6_doesAll_74 rfl rfl hiX6_doesAll_X6 tyX6_ok nmX6 (by decide) flX6_doesAll_240 rfl rfl rfl rfl rfl (Nat.le_of_ble_eq_true rfl) rfl ?_
            refine G_aload_n X dX6_doesAll_77 1 rfl ?_
            refine G_aload_n X dX6_doesAll_78 1 rfl ?_
            refine G_get X (i0 := 0) (ci := 6) (j := 13) (C := RX6) (ref := RX6) (T := TX6) (N := 18) dX6_doesAll_79 rfl rfl hiX6_doesAll_X6 (by decide) flX6_doesAll_219 rfl rfl ?_
            refine G_if_eq X (tgt := 89) dX6_doesAll_82 (by decide) (fun h26 => ?_) (fun h26 => ?_)
            · have h27 := ifp h26 h25
              refine G_aload_n X dX6_doesAll_89 1 rfl ?_
              refine G_get X (i0 := 0) (ci := 6) (j := 11) (C := RX6) (ref := RX6) (T := TX6) (N := 18) dX6_doesAll_90 rfl rfl hiX6_doesAll_X6 (by decide) flX6_doesAll_216 rfl rfl ?_
              refine G_aload_n X dX6_doesAll_93 1 rfl ?_
              refine G_get X (i0 := 0) (ci := 6) (j := 12) (C := RX6) (ref := RX6) (T := TX6) (N := 18) dX6_doesAll_94 rfl rfl hiX6_doesAll_X6 (by decide) flX6_doesAll_226 rfl rfl ?_
              refine G_isub X dX6_doesAll_97 ?_
              refine G_put X (i0 := 0) (ci := 6) (j := 17) (C := RX6) (ref := RX6) (T := TX6) (N := 18) (ty := .int) (ws' := [(h, .inr (6, [.ref h_s, .ref h_aside, .ref h_before, .ref h_past, .int i_h_known, .ref h_text, .int i_h_length, .ref h_lost, .int i_h_losts, .int i_h_bestOrder, .int i_h_bestMany, .int v17.1, .int v17.2.1, .int v17.2.2.1, .int v17.2.2.2.1, .ref h_tells, .int 1, .int (v17.1 - v17.2.1)])), (h_s, .inl (cI, 703, .inl s1.2.2.2.2.2.2.2.1)), (h_text, .inl (cI, 60, .inl f_h_text)), (h_tells, .inl (cI, 3, .inl v17.2.2.2.2))]) tyX6 dX6_doesAll_98 rfl rfl hiX6_doesAll_X6 tyX6_ok nmX6 (by decide) flX6_doesAll_249 rfl rfl rfl rfl rfl (Nat.le_of_ble_eq_true rfl) rfl ?_
              refine G_goto X (tgt := 111) dX6_doesAll_101 (by decide) ?_
              refine G_goto X (tgt := 12) dX6_doesAll_111 (by decide) ?_
              cases h27
              exact G_lv [1, 2] rfl (h6 _ rfl)
            · have h28 := ifn h26 h25
              refine G_iload_n X dX6_doesAll_85 0 rfl ?_
              refine G_goto X (tgt := 98) dX6_doesAll_86 (by decide) ?_
              refine G_put X (i0 := 0) (ci := 6) (j := 17) (C := RX6) (ref := RX6) (T := TX6) (N := 18) (ty := .int) (ws' := [(h, .inr (6, [.ref h_s, .ref h_aside, .ref h_before, .ref h_past, .int i_h_known, .ref h_text, .int i_h_length, .ref h_lost, .int i_h_losts, .int i_h_bestOrder, .int i_h_bestMany, .int v17.1, .int v17.2.1, .int v17.2.2.1, .int v17.2.2.2.1, .ref h_tells, .int 1, .int 0])), (h_s, .inl (cI, 703, .inl s1.2.2.2.2.2.2.2.1)), (h_text, .inl (cI, 60, .inl f_h_text)), (h_tells, .inl (cI, 3, .inl v17.2.2.2.2))]) tyX6 dX6_doesAll_98 rfl rfl hiX6_doesAll_X6 tyX6_ok nmX6 (by decide) flX6_doesAll_249 rfl rfl rfl rfl rfl (Nat.le_of_ble_eq_true rfl) rfl ?_
              refine G_goto X (tgt := 111) dX6_doesAll_101 (by decide) ?_
              refine G_goto X (tgt := 12) dX6_doesAll_111 (by decide) ?_
              cases h28
              exact G_lv [1, 2] rfl (h6 _ rfl)
          · have h29 := ifn h24 h23
            refine G_iconst X (v := 2) dX6_doesAll_69 (by decide) ?_
            refine G_goto X (tgt := 74) dX6_doesAll_70 (by decide) ?_
            refine G_put X (i0 := 0) (ci := 6) (j := 16) (C := RX6) (ref := RX6) (T := TX6) (N := 18) (ty := .int) (ws' := [(h, .inr (6, [.ref h_s, .ref h_aside, .ref h_before, .ref h_past, .int i_h_known, .ref h_text, .int i_h_length, .ref h_lost, .int i_h_losts, .int i_h_bestOrder, .int i_h_bestMany, .int v17.1, .int v17.2.1, .int v17.2.2.1, .int v17.2.2.2.1, .ref h_tells, .int 2, .int s1.2.2.2.2.2.2.1])), (h_s, .inl (cI, 703, .inl s1.2.2.2.2.2.2.2.1)), (h_text, .inl (cI, 60, .inl f_h_text)), (h_tells, .inl (cI, 3, .inl v17.2.2.2.2))]) tyX6 dX6_doesAll_74 rfl rfl hiX6_doesAll_X6 tyX6_ok nmX6 (by decide) flX6_doesAll_240 rfl rfl rfl rfl rfl (Nat.le_of_ble_eq_true rfl) rfl ?_
            refine G_aload_n X dX6_doesAll_77 1 rfl ?_
            refine G_aload_n X dX6_doesAll_78 1 rfl ?_
            refine G_get X (i0 := 0) (ci := 6) (j := 13) (C := RX6) (ref := RX6) (T := TX6) (N := 18) dX6_doesAll_79 rfl rfl hiX6_doesAll_X6 (by decide) flX6_doesAll_219 rfl rfl ?_
            refine G_if_eq X (tgt := 89) dX6_doesAll_82 (by decide) (fun h30 => ?_) (fun h30 => ?_)
            · have h31 := ifp h30 h29
              refine G_aload_n X dX6_doesAll_89 1 rfl ?_
              refine G_get X (i0 := 0) (ci := 6) (j := 11) (C := RX6) (ref := RX6) (T := TX6) (N := 18) dX6_doesAll_90 rfl rfl hiX6_doesAll_X6 (by decide) flX6_doesAll_216 rfl rfl ?_
              refine G_aload_n X dX6_doesAll_93 1 rfl ?_
              refine G_get X (i0 := 0) (ci := 6) (j := 12) (C := RX6) (ref := RX6) (T := TX6) (N := 18) dX6_doesAll_94 rfl rfl hiX6_doesAll_X6 (by decide) flX6_doesAll_226 rfl rfl ?_
              refine G_isub X dX6_doesAll_97 ?_
              refine G_put X (i0 := 0) (ci := 6) (j := 17) (C := RX6) (ref := RX6) (T := TX6) (N := 18) (ty := .int) (ws' := [(h, .inr (6, [.ref h_s, .ref h_aside, .ref h_before, .ref h_past, .int i_h_known, .ref h_text, .int i_h_length, .ref h_lost, .int i_h_losts, .int i_h_bestOrder, .int i_h_bestMany, .int v17.1, .int v17.2.1, .int v17.2.2.1, .int v17.2.2.2.1, .ref h_tells, .int 2, .int (v17.1 - v17.2.1)])), (h_s, .inl (cI, 703, .inl s1.2.2.2.2.2.2.2.1)), (h_text, .inl (cI, 60, .inl f_h_text)), (h_tells, .inl (cI, 3, .inl v17.2.2.2.2))]) tyX6 dX6_doesAll_98 rfl rfl hiX6_doesAll_X6 tyX6_ok nmX6 (by decide) flX6_doesAll_249 rfl rfl rfl rfl rfl (Nat.le_of_ble_eq_true rfl) rfl ?_
              refine G_goto X (tgt := 111) dX6_doesAll_101 (by decide) ?_
              refine G_goto X (tgt := 12) dX6_doesAll_111 (by decide) ?_
              cases h31
              exact G_lv [1, 2] rfl (h6 _ rfl)
            · have h32 := ifn h30 h29
              refine G_iload_n X dX6_doesAll_85 0 rfl ?_
              refine G_goto X (tgt := 98) dX6_doesAll_86 (by decide) ?_
              refine G_put X (i0 := 0) (ci := 6) (j := 17) (C := RX6) (ref := RX6) (T := TX6) (N := 18) (ty := .int) (ws' := [(h, .inr (6, [.ref h_s, .ref h_aside, .ref h_before, .ref h_past, .int i_h_known, .ref h_text, .int i_h_length, .ref h_lost, .int i_h_losts, .int i_h_bestOrder, .int i_h_bestMany, .int v17.1, .int v17.2.1, .int v17.2.2.1, .int v17.2.2.2.1, .ref h_tells, .int 2, .int 0])), (h_s, .inl (cI, 703, .inl s1.2.2.2.2.2.2.2.1)), (h_text, .inl (cI, 60, .inl f_h_text)), (h_tells, .inl (cI, 3, .inl v17.2.2.2.2))]) tyX6 dX6_doesAll_98 rfl rfl hiX6_doesAll_X6 tyX6_ok nmX6 (by decide) flX6_doesAll_249 rfl rfl rfl rfl rfl (Nat.le_of_ble_eq_true rfl) rfl ?_
              refine G_goto X (tgt := 111) dX6_doesAll_101 (by decide) ?_
              refine G_goto X (tgt := 12) dX6_doesAll_111 (by decide) ?_
              cases h32
              exact G_lv [1, 2] rfl (h6 _ rfl)
        · have h33 := ifn h22 h21
          refine G_iload_n X dX6_doesAll_57 0 rfl ?_
          refine G_if_ge X (tgt := 104) dX6_doesAll_58 (by decide) (fun _ => ?_) (fun q => absurd (by decide) q)
          refine G_aload_n X dX6_doesAll_104 1 rfl ?_
          obtain ⟨v34, h35, h36⟩ := bnd h33
          refine G1_callv X (As := []) (rest := []) (wr := [(h_text, .inl (cI, 60, .inl f_h_text))]) (ws' := [(h, .inr (6, [.ref h_s, .ref h_aside, .ref h_before, .ref h_past, .int i_h_known, .ref h_text, .int i_h_length, .ref h_lost, .int i_h_losts, .int i_h_bestOrder, .int i_h_bestMany, .int v17.1, .int v17.2.1, .int v17.2.2.1, .int v17.2.2.2.1, .ref h_tells, .int s1.2.2.2.2.2.1, .int s1.2.2.2.2.2.2.1])), (h_s, .inl (cI, 703, .inl v34)), (h_text, .inl (cI, 60, .inl f_h_text)), (h_tells, .inl (cI, 3, .inl v17.2.2.2.2))]) dX6_doesAll_105 pkX6_doesOrder gX6_doesAll_X6_doesOrder (kkX6_doesOrder l D cI cR h h_s h_aside h_before h_past h_text h_lost h_tells i_h_known i_h_length i_h_losts i_h_bestOrder i_h_bestMany v17.1 v17.2.1 v17.2.2.1 v17.2.2.2.1 s1.2.2.2.2.2.1 s1.2.2.2.2.2.2.1 s1.2.2.2.2.2.2.2.1 v17.2.2.2.2 v34 h35) ⟨rfl, rfl⟩ ⟨Nat.le_of_ble_eq_true rfl, Nat.le_of_ble_eq_true rfl⟩ rfl rfl (Nat.le_of_ble_eq_true rfl) 0 rfl rfl [0, 1, 3] [2] rfl rfl ⟨rfl, rfl, by decide⟩ ⟨Nat.zero_le _, Nat.zero_le _⟩ [1, 2, 0, 3] rfl rfl ?_
          refine G_iinc X (v := (s1.1 + 1)) (lv' := [(1, .int (s1.1 + 1)), (2, .int 0), (0, .ref h)]) dX6_doesAll_108 2 rfl rfl (by decide) rfl ?_
          refine G_goto X (tgt := 12) dX6_doesAll_111 (by decide) ?_
          cases h36
          exact G_lv [2, 0] rfl (h6 _ rfl)
      · have h37 := ifn h20 h19
        refine G_aload_n X dX6_doesAll_41 0 rfl ?_
        obtain ⟨v38, h39, h40⟩ := bnd h37
        refine G1_calli X (As := []) (rest := []) (wr := [(h_text, .inl (cI, 60, .inl f_h_text))]) (ws' := [(h, .inr (6, [.ref h_s, .ref h_aside, .ref h_before, .ref h_past, .int i_h_known, .ref h_text, .int i_h_length, .ref h_lost, .int i_h_losts, .int i_h_bestOrder, .int i_h_bestMany, .int v17.1, .int v17.2.1, .int v17.2.2.1, .int v17.2.2.2.1, .ref h_tells, .int s1.2.2.2.2.2.1, .int s1.2.2.2.2.2.2.1])), (h_s, .inl (cI, 703, .inl s1.2.2.2.2.2.2.2.1)), (h_text, .inl (cI, 60, .inl f_h_text)), (h_tells, .inl (cI, 3, .inl v17.2.2.2.2))]) dX6_doesAll_42 pkX6_errorOfOrder gX6_doesAll_X6_errorOfOrder (kkX6_errorOfOrder l D cI cR h h_s h_aside h_before h_past h_text h_lost h_tells i_h_known i_h_length i_h_losts i_h_bestOrder i_h_bestMany v17.1 v17.2.1 v17.2.2.1 v17.2.2.2.1 s1.2.2.2.2.2.1 s1.2.2.2.2.2.2.1 s1.2.2.2.2.2.2.2.1 v17.2.2.2.2 v38 h39) ⟨rfl, rfl⟩ ⟨Nat.le_of_ble_eq_true rfl, Nat.le_of_ble_eq_true rfl⟩ rfl rfl (Nat.le_of_ble_eq_true rfl) 0 rfl rfl [0, 1, 3] [2] rfl rfl ⟨rfl, rfl, by decide⟩ ⟨Nat.zero_le _, Nat.zero_le _⟩ [1, 2, 0, 3] rfl rfl ?_
        refine G_goto X (tgt := 49) dX6_doesAll_45 (by decide) ?_
        refine G_istore_n X (lv' := [(2, .int v38), (0, .ref h), (1, .int s1.1)]) dX6_doesAll_49 (by decide) rfl ?_
        refine G_aload_n X dX6_doesAll_50 1 rfl ?_
        refine G_get X (i0 := 0) (ci := 6) (j := 13) (C := RX6) (ref := RX6) (T := TX6) (N := 18) dX6_doesAll_51 rfl rfl hiX6_doesAll_X6 (by decide) flX6_doesAll_219 rfl rfl ?_
        refine G_if_eq X (tgt := 61) dX6_doesAll_54 (by decide) (fun h41 => ?_) (fun h41 => ?_)
        · have h42 := ifp h41 h40
          refine G_aload_n X dX6_doesAll_61 1 rfl ?_
          refine G_aload_n X dX6_doesAll_62 1 rfl ?_
          refine G_get X (i0 := 0) (ci := 6) (j := 13) (C := RX6) (ref := RX6) (T := TX6) (N := 18) dX6_doesAll_63 rfl rfl hiX6_doesAll_X6 (by decide) flX6_doesAll_219 rfl rfl ?_
          refine G_if_eq X (tgt := 73) dX6_doesAll_66 (by decide) (fun h43 => ?_) (fun h43 => ?_)
          · have h44 := ifp h43 h42
            refine G_iconst X (v := 1) dX6_doesAll_73 (by decide) ?_
            refine G_put X (i0 := 0) (ci := 6) (j := 16) (C := RX6) (ref := RX6) (T := TX6) (N := 18) (ty := .int) (ws' := [(h, .inr (6, [.ref h_s, .ref h_aside, .ref h_before, .ref h_past, .int i_h_known, .ref h_text, .int i_h_length, .ref h_lost, .int i_h_losts, .int i_h_bestOrder, .int i_h_bestMany, .int v17.1, .int v17.2.1, .int v17.2.2.1, .int v17.2.2.2.1, .ref h_tells, .int 1, .int s1.2.2.2.2.2.2.1])), (h_s, .inl (cI, 703, .inl s1.2.2.2.2.2.2.2.1)), (h_text, .inl (cI, 60, .inl f_h_text)), (h_tells, .inl (cI, 3, .inl v17.2.2.2.2))]) tyX6 dX6_doesAll_74 rfl rfl hiX6_doesAll_X6 tyX6_ok nmX6 (by decide) flX6_doesAll_240 rfl rfl rfl rfl rfl (Nat.le_of_ble_eq_true rfl) rfl ?_
            refine G_aload_n X dX6_doesAll_77 1 rfl ?_
            refine G_aload_n X dX6_doesAll_78 1 rfl ?_
            refine G_get X (i0 := 0) (ci := 6) (j := 13) (C := RX6) (ref := RX6) (T := TX6) (N := 18) dX6_doesAll_79 rfl rfl hiX6_doesAll_X6 (by decide) flX6_doesAll_219 rfl rfl ?_
            refine G_if_eq X (tgt := 89) dX6_doesAll_82 (by decide) (fun h45 => ?_) (fun h45 => ?_)
            · have h46 := ifp h45 h44
              refine G_aload_n X dX6_doesAll_89 1 rfl ?_
              refine G_get X (i0 := 0) (ci := 6) (j := 11) (C := RX6) (ref := RX6) (T := TX6) (N := 18) dX6_doesAll_90 rfl rfl hiX6_doesAll_X6 (by decide) flX6_doesAll_216 rfl rfl ?_
              refine G_aload_n X dX6_doesAll_93 1 rfl ?_
              refine G_get X (i0 := 0) (ci := 6) (j := 12) (C := RX6) (ref := RX6) (T := TX6) (N := 18) dX6_doesAll_94 rfl rfl hiX6_doesAll_X6 (by decide) flX6_doesAll_226 rfl rfl ?_
              refine G_isub X dX6_doesAll_97 ?_
              refine G_put X (i0 := 0) (ci := 6) (j := 17) (C := RX6) (ref := RX6) (T := TX6) (N := 18) (ty := .int) (ws' := [(h, .inr (6, [.ref h_s, .ref h_aside, .ref h_before, .ref h_past, .int i_h_known, .ref h_text, .int i_h_length, .ref h_lost, .int i_h_losts, .int i_h_bestOrder, .int i_h_bestMany, .int v17.1, .int v17.2.1, .int v17.2.2.1, .int v17.2.2.2.1, .ref h_tells, .int 1, .int (v17.1 - v17.2.1)])), (h_s, .inl (cI, 703, .inl s1.2.2.2.2.2.2.2.1)), (h_text, .inl (cI, 60, .inl f_h_text)), (h_tells, .inl (cI, 3, .inl v17.2.2.2.2))]) tyX6 dX6_doesAll_98 rfl rfl hiX6_doesAll_X6 tyX6_ok nmX6 (by decide) flX6_doesAll_249 rfl rfl rfl rfl rfl (Nat.le_of_ble_eq_true rfl) rfl ?_
              refine G_goto X (tgt := 111) dX6_doesAll_101 (by decide) ?_
              refine G_goto X (tgt := 12) dX6_doesAll_111 (by decide) ?_
              cases h46
              exact G_lv [1, 2] rfl (h6 _ rfl)
            · have h47 := ifn h45 h44
              refine G_iload_n X dX6_doesAll_85 0 rfl ?_
              refine G_goto X (tgt := 98) dX6_doesAll_86 (by decide) ?_
              refine G_put X (i0 := 0) (ci := 6) (j := 17) (C := RX6) (ref := RX6) (T := TX6) (N := 18) (ty := .int) (ws' := [(h, .inr (6, [.ref h_s, .ref h_aside, .ref h_before, .ref h_past, .int i_h_known, .ref h_text, .int i_h_length, .ref h_lost, .int i_h_losts, .int i_h_bestOrder, .int i_h_bestMany, .int v17.1, .int v17.2.1, .int v17.2.2.1, .int v17.2.2.2.1, .ref h_tells, .int 1, .int v38])), (h_s, .inl (cI, 703, .inl s1.2.2.2.2.2.2.2.1)), (h_text, .inl (cI, 60, .inl f_h_text)), (h_tells, .inl (cI, 3, .inl v17.2.2.2.2))]) tyX6 dX6_doesAll_98 rfl rfl hiX6_doesAll_X6 tyX6_ok nmX6 (by decide) flX6_doesAll_249 rfl rfl rfl rfl rfl (Nat.le_of_ble_eq_true rfl) rfl ?_
              refine G_goto X (tgt := 111) dX6_doesAll_101 (by decide) ?_
              refine G_goto X (tgt := 12) dX6_doesAll_111 (by decide) ?_
              cases h47
              exact G_lv [1, 2] rfl (h6 _ rfl)
          · have h48 := ifn h43 h42
            refine G_iconst X (v := 2) dX6_doesAll_69 (by decide) ?_
            refine G_goto X (tgt := 74) dX6_doesAll_70 (by decide) ?_
            refine G_put X (i0 := 0) (ci := 6) (j := 16) (C := RX6) (ref := RX6) (T := TX6) (N := 18) (ty := .int) (ws' := [(h, .inr (6, [.ref h_s, .ref h_aside, .ref h_before, .ref h_past, .int i_h_known, .ref h_text, .int i_h_length, .ref h_lost, .int i_h_losts, .int i_h_bestOrder, .int i_h_bestMany, .int v17.1, .int v17.2.1, .int v17.2.2.1, .int v17.2.2.2.1, .ref h_tells, .int 2, .int s1.2.2.2.2.2.2.1])), (h_s, .inl (cI, 703, .inl s1.2.2.2.2.2.2.2.1)), (h_text, .inl (cI, 60, .inl f_h_text)), (h_tells, .inl (cI, 3, .inl v17.2.2.2.2))]) tyX6 dX6_doesAll_74 rfl rfl hiX6_doesAll_X6 tyX6_ok nmX6 (by decide) flX6_doesAll_240 rfl rfl rfl rfl rfl (Nat.le_of_ble_eq_true rfl) rfl ?_
            refine G_aload_n X dX6_doesAll_77 1 rfl ?_
            refine G_aload_n X dX6_doesAll_78 1 rfl ?_
            refine G_get X (i0 := 0) (ci := 6) (j := 13) (C := RX6) (ref := RX6) (T := TX6) (N := 18) dX6_doesAll_79 rfl rfl hiX6_doesAll_X6 (by decide) flX6_doesAll_219 rfl rfl ?_
            refine G_if_eq X (tgt := 89) dX6_doesAll_82 (by decide) (fun h49 => ?_) (fun h49 => ?_)
            · have h50 := ifp h49 h48
              refine G_aload_n X dX6_doesAll_89 1 rfl ?_
              refine G_get X (i0 := 0) (ci := 6) (j := 11) (C := RX6) (ref := RX6) (T := TX6) (N := 18) dX6_doesAll_90 rfl rfl hiX6_doesAll_X6 (by decide) flX6_doesAll_216 rfl rfl ?_
              refine G_aload_n X dX6_doesAll_93 1 rfl ?_
              refine G_get X (i0 := 0) (ci := 6) (j := 12) (C := RX6) (ref := RX6) (T := TX6) (N := 18) dX6_doesAll_94 rfl rfl hiX6_doesAll_X6 (by decide) flX6_doesAll_226 rfl rfl ?_
              refine G_isub X dX6_doesAll_97 ?_
              refine G_put X (i0 := 0) (ci := 6) (j := 17) (C := RX6) (ref := RX6) (T := TX6) (N := 18) (ty := .int) (ws' := [(h, .inr (6, [.ref h_s, .ref h_aside, .ref h_before, .ref h_past, .int i_h_known, .ref h_text, .int i_h_length, .ref h_lost, .int i_h_losts, .int i_h_bestOrder, .int i_h_bestMany, .int v17.1, .int v17.2.1, .int v17.2.2.1, .int v17.2.2.2.1, .ref h_tells, .int 2, .int (v17.1 - v17.2.1)])), (h_s, .inl (cI, 703, .inl s1.2.2.2.2.2.2.2.1)), (h_text, .inl (cI, 60, .inl f_h_text)), (h_tells, .inl (cI, 3, .inl v17.2.2.2.2))]) tyX6 dX6_doesAll_98 rfl rfl hiX6_doesAll_X6 tyX6_ok nmX6 (by decide) flX6_doesAll_249 rfl rfl rfl rfl rfl (Nat.le_of_ble_eq_true rfl) rfl ?_
              refine G_goto X (tgt := 111) dX6_doesAll_101 (by decide) ?_
              refine G_goto X (tgt := 12) dX6_doesAll_111 (by decide) ?_
              cases h50
              exact G_lv [1, 2] rfl (h6 _ rfl)
            · have h51 := ifn h49 h48
              refine G_iload_n X dX6_doesAll_85 0 rfl ?_
              refine G_goto X (tgt := 98) dX6_doesAll_86 (by decide) ?_
              refine G_put X (i0 := 0) (ci := 6) (j := 17) (C := RX6) (ref := RX6) (T := TX6) (N := 18) (ty := .int) (ws' := [(h, .inr (6, [.ref h_s, .ref h_aside, .ref h_before, .ref h_past, .int i_h_known, .ref h_text, .int i_h_length, .ref h_lost, .int i_h_losts, .int i_h_bestOrder, .int i_h_bestMany, .int v17.1, .int v17.2.1, .int v17.2.2.1, .int v17.2.2.2.1, .ref h_tells, .int 2, .int v38])), (h_s, .inl (cI, 703, .inl s1.2.2.2.2.2.2.2.1)), (h_text, .inl (cI, 60, .inl f_h_text)), (h_tells, .inl (cI, 3, .inl v17.2.2.2.2))]) tyX6 dX6_doesAll_98 rfl rfl hiX6_doesAll_X6 tyX6_ok nmX6 (by decide) flX6_doesAll_249 rfl rfl rfl rfl rfl (Nat.le_of_ble_eq_true rfl) rfl ?_
              refine G_goto X (tgt := 111) dX6_doesAll_101 (by decide) ?_
              refine G_goto X (tgt := 12) dX6_doesAll_111 (by decide) ?_
              cases h51
              exact G_lv [1, 2] rfl (h6 _ rfl)
        · have h52 := ifn h41 h40
          refine G_iload_n X dX6_doesAll_57 0 rfl ?_
          refine G_if_ge X (tgt := 104) dX6_doesAll_58 (by decide) (fun h53 => ?_) (fun h53 => ?_)
          · have h54 := ifp h53 h52
            refine G_aload_n X dX6_doesAll_104 1 rfl ?_
            obtain ⟨v55, h56, h57⟩ := bnd h54
            refine G1_callv X (As := []) (rest := []) (wr := [(h_text, .inl (cI, 60, .inl f_h_text))]) (ws' := [(h, .inr (6, [.ref h_s, .ref h_aside, .ref h_before, .ref h_past, .int i_h_known, .ref h_text, .int i_h_length, .ref h_lost, .int i_h_losts, .int i_h_bestOrder, .int i_h_bestMany, .int v17.1, .int v17.2.1, .int v17.2.2.1, .int v17.2.2.2.1, .ref h_tells, .int s1.2.2.2.2.2.1, .int s1.2.2.2.2.2.2.1])), (h_s, .inl (cI, 703, .inl v55)), (h_text, .inl (cI, 60, .inl f_h_text)), (h_tells, .inl (cI, 3, .inl v17.2.2.2.2))]) dX6_doesAll_105 pkX6_doesOrder gX6_doesAll_X6_doesOrder (kkX6_doesOrder l D cI cR h h_s h_aside h_before h_past h_text h_lost h_tells i_h_known i_h_length i_h_losts i_h_bestOrder i_h_bestMany v17.1 v17.2.1 v17.2.2.1 v17.2.2.2.1 s1.2.2.2.2.2.1 s1.2.2.2.2.2.2.1 s1.2.2.2.2.2.2.2.1 v17.2.2.2.2 v55 h56) ⟨rfl, rfl⟩ ⟨Nat.le_of_ble_eq_true rfl, Nat.le_of_ble_eq_true rfl⟩ rfl rfl (Nat.le_of_ble_eq_true rfl) 0 rfl rfl [0, 1, 3] [2] rfl rfl ⟨rfl, rfl, by decide⟩ ⟨Nat.zero_le _, Nat.zero_le _⟩ [1, 2, 0, 3] rfl rfl ?_
            refine G_iinc X (v := (s1.1 + 1)) (lv' := [(1, .int (s1.1 + 1)), (2, .int v38), (0, .ref h)]) dX6_doesAll_108 2 rfl rfl (by decide) rfl ?_
            refine G_goto X (tgt := 12) dX6_doesAll_111 (by decide) ?_
            cases h57
            exact G_lv [2, 0] rfl (h6 _ rfl)
          · have h58 := ifn h53 h52
            refine G_aload_n X dX6_doesAll_61 1 rfl ?_
            refine G_aload_n X dX6_doesAll_62 1 rfl ?_
            refine G_get X (i0 := 0) (ci := 6) (j := 13) (C := RX6) (ref := RX6) (T := TX6) (N := 18) dX6_doesAll_63 rfl rfl hiX6_doesAll_X6 (by decide) flX6_doesAll_219 rfl rfl ?_
            refine G_if_eq X (tgt := 73) dX6_doesAll_66 (by decide) (fun h59 => ?_) (fun h59 => ?_)
            · have h60 := ifp h59 h58
              refine G_iconst X (v := 1) dX6_doesAll_73 (by decide) ?_
              refine G_put X (i0 := 0) (ci := 6) (j := 16) (C := RX6) (ref := RX6) (T := TX6) (N := 18) (ty := .int) (ws' := [(h, .inr (6, [.ref h_s, .ref h_aside, .ref h_before, .ref h_past, .int i_h_known, .ref h_text, .int i_h_length, .ref h_lost, .int i_h_losts, .int i_h_bestOrder, .int i_h_bestMany, .int v17.1, .int v17.2.1, .int v17.2.2.1, .int v17.2.2.2.1, .ref h_tells, .int 1, .int s1.2.2.2.2.2.2.1])), (h_s, .inl (cI, 703, .inl s1.2.2.2.2.2.2.2.1)), (h_text, .inl (cI, 60, .inl f_h_text)), (h_tells, .inl (cI, 3, .inl v17.2.2.2.2))]) tyX6 dX6_doesAll_74 rfl rfl hiX6_doesAll_X6 tyX6_ok nmX6 (by decide) flX6_doesAll_240 rfl rfl rfl rfl rfl (Nat.le_of_ble_eq_true rfl) rfl ?_
              refine G_aload_n X dX6_doesAll_77 1 rfl ?_
              refine G_aload_n X dX6_doesAll_78 1 rfl ?_
              refine G_get X (i0 := 0) (ci := 6) (j := 13) (C := RX6) (ref := RX6) (T := TX6) (N := 18) dX6_doesAll_79 rfl rfl hiX6_doesAll_X6 (by decide) flX6_doesAll_219 rfl rfl ?_
              refine G_if_eq X (tgt := 89) dX6_doesAll_82 (by decide) (fun h61 => ?_) (fun h61 => ?_)
              · have h62 := ifp h61 h60
                refine G_aload_n X dX6_doesAll_89 1 rfl ?_
                refine G_get X (i0 := 0) (ci := 6) (j := 11) (C := RX6) (ref := RX6) (T := TX6) (N := 18) dX6_doesAll_90 rfl rfl hiX6_doesAll_X6 (by decide) flX6_doesAll_216 rfl rfl ?_
                refine G_aload_n X dX6_doesAll_93 1 rfl ?_
                refine G_get X (i0 := 0) (ci := 6) (j := 12) (C := RX6) (ref := RX6) (T := TX6) (N := 18) dX6_doesAll_94 rfl rfl hiX6_doesAll_X6 (by decide) flX6_doesAll_226 rfl rfl ?_
                refine G_isub X dX6_doesAll_97 ?_
                refine G_put X (i0 := 0) (ci := 6) (j := 17) (C := RX6) (ref := RX6) (T := TX6) (N := 18) (ty := .int) (ws' := [(h, .inr (6, [.ref h_s, .ref h_aside, .ref h_before, .ref h_past, .int i_h_known, .ref h_text, .int i_h_length, .ref h_lost, .int i_h_losts, .int i_h_bestOrder, .int i_h_bestMany, .int v17.1, .int v17.2.1, .int v17.2.2.1, .int v17.2.2.2.1, .ref h_tells, .int 1, .int (v17.1 - v17.2.1)])), (h_s, .inl (cI, 703, .inl s1.2.2.2.2.2.2.2.1)), (h_text, .inl (cI, 60, .inl f_h_text)), (h_tells, .inl (cI, 3, .inl v17.2.2.2.2))]) tyX6 dX6_doesAll_98 rfl rfl hiX6_doesAll_X6 tyX6_ok nmX6 (by decide) flX6_doesAll_249 rfl rfl rfl rfl rfl (Nat.le_of_ble_eq_true rfl) rfl ?_
                refine G_goto X (tgt := 111) dX6_doesAll_101 (by decide) ?_
                refine G_goto X (tgt := 12) dX6_doesAll_111 (by decide) ?_
                cases h62
                exact G_lv [1, 2] rfl (h6 _ rfl)
              · have h63 := ifn h61 h60
                refine G_iload_n X dX6_doesAll_85 0 rfl ?_
                refine G_goto X (tgt := 98) dX6_doesAll_86 (by decide) ?_
                refine G_put X (i0 := 0) (ci := 6) (j := 17) (C := RX6) (ref := RX6) (T := TX6) (N := 18) (ty := .int) (ws' := [(h, .inr (6, [.ref h_s, .ref h_aside, .ref h_before, .ref h_past, .int i_h_known, .ref h_text, .int i_h_length, .ref h_lost, .int i_h_losts, .int i_h_bestOrder, .int i_h_bestMany, .int v17.1, .int v17.2.1, .int v17.2.2.1, .int v17.2.2.2.1, .ref h_tells, .int 1, .int v38])), (h_s, .inl (cI, 703, .inl s1.2.2.2.2.2.2.2.1)), (h_text, .inl (cI, 60, .inl f_h_text)), (h_tells, .inl (cI, 3, .inl v17.2.2.2.2))]) tyX6 dX6_doesAll_98 rfl rfl hiX6_doesAll_X6 tyX6_ok nmX6 (by decide) flX6_doesAll_249 rfl rfl rfl rfl rfl (Nat.le_of_ble_eq_true rfl) rfl ?_
                refine G_goto X (tgt := 111) dX6_doesAll_101 (by decide) ?_
                refine G_goto X (tgt := 12) dX6_doesAll_111 (by decide) ?_
                cases h63
                exact G_lv [1, 2] rfl (h6 _ rfl)
            · have h64 := ifn h59 h58
              refine G_iconst X (v := 2) dX6_doesAll_69 (by decide) ?_
              refine G_goto X (tgt := 74) dX6_doesAll_70 (by decide) ?_
              refine G_put X (i0 := 0) (ci := 6) (j := 16) (C := RX6) (ref := RX6) (T := TX6) (N := 18) (ty := .int) (ws' := [(h, .inr (6, [.ref h_s, .ref h_aside, .ref h_before, .ref h_past, .int i_h_known, .ref h_text, .int i_h_length, .ref h_lost, .int i_h_losts, .int i_h_bestOrder, .int i_h_bestMany, .int v17.1, .int v17.2.1, .int v17.2.2.1, .int v17.2.2.2.1, .ref h_tells, .int 2, .int s1.2.2.2.2.2.2.1])), (h_s, .inl (cI, 703, .inl s1.2.2.2.2.2.2.2.1)), (h_text, .inl (cI, 60, .inl f_h_text)), (h_tells, .inl (cI, 3, .inl v17.2.2.2.2))]) tyX6 dX6_doesAll_74 rfl rfl hiX6_doesAll_X6 tyX6_ok nmX6 (by decide) flX6_doesAll_240 rfl rfl rfl rfl rfl (Nat.le_of_ble_eq_true rfl) rfl ?_
              refine G_aload_n X dX6_doesAll_77 1 rfl ?_
              refine G_aload_n X dX6_doesAll_78 1 rfl ?_
              refine G_get X (i0 := 0) (ci := 6) (j := 13) (C := RX6) (ref := RX6) (T := TX6) (N := 18) dX6_doesAll_79 rfl rfl hiX6_doesAll_X6 (by decide) flX6_doesAll_219 rfl rfl ?_
              refine G_if_eq X (tgt := 89) dX6_doesAll_82 (by decide) (fun h65 => ?_) (fun h65 => ?_)
              · have h66 := ifp h65 h64
                refine G_aload_n X dX6_doesAll_89 1 rfl ?_
                refine G_get X (i0 := 0) (ci := 6) (j := 11) (C := RX6) (ref := RX6) (T := TX6) (N := 18) dX6_doesAll_90 rfl rfl hiX6_doesAll_X6 (by decide) flX6_doesAll_216 rfl rfl ?_
                refine G_aload_n X dX6_doesAll_93 1 rfl ?_
                refine G_get X (i0 := 0) (ci := 6) (j := 12) (C := RX6) (ref := RX6) (T := TX6) (N := 18) dX6_doesAll_94 rfl rfl hiX6_doesAll_X6 (by decide) flX6_doesAll_226 rfl rfl ?_
                refine G_isub X dX6_doesAll_97 ?_
                refine G_put X (i0 := 0) (ci := 6) (j := 17) (C := RX6) (ref := RX6) (T := TX6) (N := 18) (ty := .int) (ws' := [(h, .inr (6, [.ref h_s, .ref h_aside, .ref h_before, .ref h_past, .int i_h_known, .ref h_text, .int i_h_length, .ref h_lost, .int i_h_losts, .int i_h_bestOrder, .int i_h_bestMany, .int v17.1, .int v17.2.1, .int v17.2.2.1, .int v17.2.2.2.1, .ref h_tells, .int 2, .int (v17.1 - v17.2.1)])), (h_s, .inl (cI, 703, .inl s1.2.2.2.2.2.2.2.1)), (h_text, .inl (cI, 60, .inl f_h_text)), (h_tells, .inl (cI, 3, .inl v17.2.2.2.2))]) tyX6 dX6_doesAll_98 rfl rfl hiX6_doesAll_X6 tyX6_ok nmX6 (by decide) flX6_doesAll_249 rfl rfl rfl rfl rfl (Nat.le_of_ble_eq_true rfl) rfl ?_
                refine G_goto X (tgt := 111) dX6_doesAll_101 (by decide) ?_
                refine G_goto X (tgt := 12) dX6_doesAll_111 (by decide) ?_
                cases h66
                exact G_lv [1, 2] rfl (h6 _ rfl)
              · have h67 := ifn h65 h64
                refine G_iload_n X dX6_doesAll_85 0 rfl ?_
                refine G_goto X (tgt := 98) dX6_doesAll_86 (by decide) ?_
                refine G_put X (i0 := 0) (ci := 6) (j := 17) (C := RX6) (ref := RX6) (T := TX6) (N := 18) (ty := .int) (ws' := [(h, .inr (6, [.ref h_s, .ref h_aside, .ref h_before, .ref h_past, .int i_h_known, .ref h_text, .int i_h_length, .ref h_lost, .int i_h_losts, .int i_h_bestOrder, .int i_h_bestMany, .int v17.1, .int v17.2.1, .int v17.2.2.1, .int v17.2.2.2.1, .ref h_tells, .int 2, .int v38])), (h_s, .inl (cI, 703, .inl s1.2.2.2.2.2.2.2.1)), (h_text, .inl (cI, 60, .inl f_h_text)), (h_tells, .inl (cI, 3, .inl v17.2.2.2.2))]) tyX6 dX6_doesAll_98 rfl rfl hiX6_doesAll_X6 tyX6_ok nmX6 (by decide) flX6_doesAll_249 rfl rfl rfl rfl rfl (Nat.le_of_ble_eq_true rfl) rfl ?_
                refine G_goto X (tgt := 111) dX6_doesAll_101 (by decide) ?_
                refine G_goto X (tgt := 12) dX6_doesAll_111 (by decide) ?_
                cases h67
                exact G_lv [1, 2] rfl (h6 _ rfl)
  · have h68 := ifn h11 h5
    cases h68
    have h69 := h7 _ rfl
    subst h69
    exact G_lv [1] rfl (J9)
def rmX6_fault : Room := { frames := 10, cells := 0, slots := 0, locals := 227 }
theorem pkX6_fault : cK yX6_fault wsX6_fault cX6_fault 3 (some .int) 1 RX6 := ⟨⟨_, rfl⟩, by decide +kernel⟩
theorem hiX6_fault_X6 : ∀ w ∈ wsX60, w ∈ wsX6_fault := by decide +kernel
theorem flX6_fault_114 : Cond.constant RX6 114 (-1000001) ∈ wsX6_fault := by decide +kernel
theorem flX6_fault_7 : Cond.fieldLink RX6 7 "EchoMarginsModel" "s" "[I" ∈ wsX6_fault := by decide +kernel
theorem flX6_fault_16 : Cond.fieldLink RX6 16 "EchoMarginsModel" "before" "[I" ∈ wsX6_fault := by decide +kernel
theorem flX6_fault_240 : Cond.fieldLink RX6 240 "EchoMarginsModel" "faultReason" "I" ∈ wsX6_fault := by decide +kernel
theorem flX6_fault_51 : Cond.constant RX6 51 (-1000004) ∈ wsX6_fault := by decide +kernel
theorem flX6_fault_226 : Cond.fieldLink RX6 226 "EchoMarginsModel" "begin" "I" ∈ wsX6_fault := by decide +kernel
theorem flX6_fault_249 : Cond.fieldLink RX6 249 "EchoMarginsModel" "faultCause" "I" ∈ wsX6_fault := by decide +kernel
set_option maxHeartbeats 4000000 in
set_option maxRecDepth 100000 in
theorem kkX6_fault (l : Launch) (D : va_G) (cI cR : ClassId) (h h_s h_aside h_before h_past h_text h_lost h_tells : Nat) (i_h_known : Int32) (i_h_length : Int32) (i_h_losts : Int32) (i_h_bestOrder : Int32) (i_h_bestMany : Int32) (i_h_spot : Int32) (i_h_begin : Int32) (i_h_isForm : Int32) (i_h_letter : Int32) (i_h_faultReason : Int32) (i_h_faultCause : Int32) (f_h_s : Nat → Int32) (f_h_before : Nat → Int32) (f_h_text : Nat → Int32) (f_h_tells : Nat → Int32) (x0 : Int32) (z : (Int32 × Int32 × Int32 × Int32 × Int32 × Int32 × Int32 × (Nat → Int32) × (Nat → Int32) × (Nat → Int32))) (hz : MX6_fault i_h_length i_h_spot i_h_begin i_h_isForm i_h_letter i_h_faultReason i_h_faultCause f_h_s f_h_before f_h_text f_h_tells x0 = some z) : cI1 l yX6_fault wsX6_fault rmX6_fault D cI cR [.ref h, .int x0] [(h, .inr (6, [.ref h_s, .ref h_aside, .ref h_before, .ref h_past, .int i_h_known, .ref h_text, .int i_h_length, .ref h_lost, .int i_h_losts, .int i_h_bestOrder, .int i_h_bestMany, .int i_h_spot, .int i_h_begin, .int i_h_isForm, .int i_h_letter, .ref h_tells, .int i_h_faultReason, .int i_h_faultCause])), (h_s, .inl (cI, 703, .inl f_h_s)), (h_before, .inl (cI, 703, .inl f_h_before)), (h_text, .inl (cI, 60, .inl f_h_text)), (h_tells, .inl (cI, 3, .inl f_h_tells))] z.1 [(h, .inr (6, [.ref h_s, .ref h_aside, .ref h_before, .ref h_past, .int i_h_known, .ref h_text, .int i_h_length, .ref h_lost, .int i_h_losts, .int i_h_bestOrder, .int i_h_bestMany, .int z.2.1, .int z.2.2.1, .int z.2.2.2.1, .int z.2.2.2.2.1, .ref h_tells, .int z.2.2.2.2.2.1, .int z.2.2.2.2.2.2.1])), (h_s, .inl (cI, 703, .inl z.2.2.2.2.2.2.2.1)), (h_before, .inl (cI, 703, .inl z.2.2.2.2.2.2.2.2.1)), (h_text, .inl (cI, 60, .inl f_h_text)), (h_tells, .inl (cI, 3, .inl z.2.2.2.2.2.2.2.2.2))] := by
  unfold MX6_fault at hz
  refine kI_of (cc := cX6_fault) (maxL := 3) (own := RX6) (by decide +kernel) rfl rfl (Nat.le_of_ble_eq_true rfl) (lv0 := [(0, .ref h), (1, .int x0)]) rfl (fun p e s m args below meth c A Q X rt => ?_)
  refine G_iload_n X dX6_fault_0 1 rfl ?_
  refine G_iconst X (v := 0) dX6_fault_1 (by decide) ?_
  refine G_iconst X (v := 2) dX6_fault_2 (by decide) ?_
  obtain ⟨v1, h2, h3⟩ := bnd hz
  refine G1_callsi X (As := [.int x0, .int 0, .int 2]) (rest := []) (wr := [(h, .inr (6, [.ref h_s, .ref h_aside, .ref h_before, .ref h_past, .int i_h_known, .ref h_text, .int i_h_length, .ref h_lost, .int i_h_losts, .int i_h_bestOrder, .int i_h_bestMany, .int i_h_spot, .int i_h_begin, .int i_h_isForm, .int i_h_letter, .ref h_tells, .int i_h_faultReason, .int i_h_faultCause])), (h_s, .inl (cI, 703, .inl f_h_s)), (h_before, .inl (cI, 703, .inl f_h_before)), (h_text, .inl (cI, 60, .inl f_h_text)), (h_tells, .inl (cI, 3, .inl f_h_tells))]) (ws' := [(h, .inr (6, [.ref h_s, .ref h_aside, .ref h_before, .ref h_past, .int i_h_known, .ref h_text, .int i_h_length, .ref h_lost, .int i_h_losts, .int i_h_bestOrder, .int i_h_bestMany, .int i_h_spot, .int i_h_begin, .int i_h_isForm, .int i_h_letter, .ref h_tells, .int i_h_faultReason, .int i_h_faultCause])), (h_s, .inl (cI, 703, .inl f_h_s)), (h_before, .inl (cI, 703, .inl f_h_before)), (h_text, .inl (cI, 60, .inl f_h_text)), (h_tells, .inl (cI, 3, .inl f_h_tells))]) dX6_fault_3 pkX6_in gX6_fault_X6_in (kkX6_in l D cI cR x0 0 2 v1 h2) ⟨rfl, rfl⟩ ⟨Nat.le_of_ble_eq_true rfl, Nat.le_of_ble_eq_true rfl⟩ rfl rfl (Nat.le_of_ble_eq_true rfl) [] [0, 1, 2, 3, 4] rfl rfl ⟨rfl, rfl, by decide⟩ ⟨Nat.zero_le _, Nat.zero_le _⟩ [0, 1, 2, 3, 4] rfl rfl ?_
  refine G_if_ne X (tgt := 12) dX6_fault_6 (by decide) (fun h4 => ?_) (fun h4 => ?_)
  · have h5 := ifp h4 h3
    refine G_ldc X dX6_fault_9 flX6_fault_114 ?_
    cases h5
    exact rt _ _ _ _ dX6_fault_11 ⟨rfl, rfl⟩
  · have h6 := ifn h4 h3
    refine G_aload_n X dX6_fault_12 0 rfl ?_
    refine G_get X (i0 := 0) (ci := 6) (j := 0) (C := RX6) (ref := RX6) (T := TX6) (N := 18) dX6_fault_13 rfl rfl hiX6_fault_X6 (by decide) flX6_fault_7 rfl rfl ?_
    refine G_iconst X (v := 0) dX6_fault_16 (by decide) ?_
    refine G_aload_n X dX6_fault_17 0 rfl ?_
    refine G_get X (i0 := 0) (ci := 6) (j := 2) (C := RX6) (ref := RX6) (T := TX6) (N := 18) dX6_fault_18 rfl rfl hiX6_fault_X6 (by decide) flX6_fault_16 rfl rfl ?_
    refine G_iconst X (v := 0) dX6_fault_21 (by decide) ?_
    obtain ⟨v7, h8, h9⟩ := bnd h6
    refine G1_callsv X (As := [.ref h_s, .int 0, .ref h_before, .int 0]) (rest := []) (wr := [(h, .inr (6, [.ref h_s, .ref h_aside, .ref h_before, .ref h_past, .int i_h_known, .ref h_text, .int i_h_length, .ref h_lost, .int i_h_losts, .int i_h_bestOrder, .int i_h_bestMany, .int i_h_spot, .int i_h_begin, .int i_h_isForm, .int i_h_letter, .ref h_tells, .int i_h_faultReason, .int i_h_faultCause])), (h_text, .inl (cI, 60, .inl f_h_text)), (h_tells, .inl (cI, 3, .inl f_h_tells))]) (ws' := [(h, .inr (6, [.ref h_s, .ref h_aside, .ref h_before, .ref h_past, .int i_h_known, .ref h_text, .int i_h_length, .ref h_lost, .int i_h_losts, .int i_h_bestOrder, .int i_h_bestMany, .int i_h_spot, .int i_h_begin, .int i_h_isForm, .int i_h_letter, .ref h_tells, .int i_h_faultReason, .int i_h_faultCause])), (h_s, .inl (cI, 703, .inl f_h_s)), (h_before, .inl (cI, 703, .inl v7)), (h_text, .inl (cI, 60, .inl f_h_text)), (h_tells, .inl (cI, 3, .inl f_h_tells))]) dX6_fault_22 pkX6_copies gX6_fault_X6_copies (kkX6_copies l D cI cR h_s h_before 703 703 f_h_s f_h_before 0 0 v7 h8) ⟨rfl, rfl⟩ ⟨Nat.le_of_ble_eq_true rfl, Nat.le_of_ble_eq_true rfl⟩ rfl rfl (Nat.le_of_ble_eq_true rfl) [1, 2] [0, 3, 4] rfl rfl ⟨rfl, rfl, by decide⟩ ⟨Nat.zero_le _, Nat.zero_le _⟩ [0, 3, 4, 1, 2] rfl rfl ?_
    refine G_aload_n X dX6_fault_25 0 rfl ?_
    obtain ⟨v10, h11, h12⟩ := bnd h9
    refine G1_calli X (As := []) (rest := []) (wr := [(h_before, .inl (cI, 703, .inl v7))]) (ws' := [(h, .inr (6, [.ref h_s, .ref h_aside, .ref h_before, .ref h_past, .int i_h_known, .ref h_text, .int i_h_length, .ref h_lost, .int i_h_losts, .int i_h_bestOrder, .int i_h_bestMany, .int v10.2.1, .int v10.2.2.1, .int v10.2.2.2.1, .int v10.2.2.2.2.1, .ref h_tells, .int v10.2.2.2.2.2.1, .int v10.2.2.2.2.2.2.1])), (h_s, .inl (cI, 703, .inl v10.2.2.2.2.2.2.2.1)), (h_before, .inl (cI, 703, .inl v7)), (h_text, .inl (cI, 60, .inl f_h_text)), (h_tells, .inl (cI, 3, .inl v10.2.2.2.2.2.2.2.2))]) dX6_fault_26 pkX6_doesAll gX6_fault_X6_doesAll (kkX6_doesAll l D cI cR h h_s h_aside h_before h_past h_text h_lost h_tells i_h_known i_h_length i_h_losts i_h_bestOrder i_h_bestMany i_h_spot i_h_begin i_h_isForm i_h_letter i_h_faultReason i_h_faultCause f_h_s f_h_text f_h_tells v10 h11) ⟨rfl, rfl⟩ ⟨Nat.le_of_ble_eq_true rfl, Nat.le_of_ble_eq_true rfl⟩ rfl rfl (Nat.le_of_ble_eq_true rfl) 0 rfl rfl [0, 1, 3, 4] [2] rfl rfl ⟨rfl, rfl, by decide⟩ ⟨Nat.zero_le _, Nat.zero_le _⟩ [1, 2, 0, 3, 4] rfl rfl ?_
    refine G_istore_n X (lv' := [(2, .int v10.1), (0, .ref h), (1, .int x0)]) dX6_fault_29 (by decide) rfl ?_
    refine G_aload_n X dX6_fault_30 1 rfl ?_
    refine G_get X (i0 := 0) (ci := 6) (j := 2) (C := RX6) (ref := RX6) (T := TX6) (N := 18) dX6_fault_31 rfl rfl hiX6_fault_X6 (by decide) flX6_fault_16 rfl rfl ?_
    refine G_iconst X (v := 0) dX6_fault_34 (by decide) ?_
    refine G_aload_n X dX6_fault_35 1 rfl ?_
    refine G_get X (i0 := 0) (ci := 6) (j := 0) (C := RX6) (ref := RX6) (T := TX6) (N := 18) dX6_fault_36 rfl rfl hiX6_fault_X6 (by decide) flX6_fault_7 rfl rfl ?_
    refine G_iconst X (v := 0) dX6_fault_39 (by decide) ?_
    obtain ⟨v13, h14, h15⟩ := bnd h12
    refine G1_callsv X (As := [.ref h_before, .int 0, .ref h_s, .int 0]) (rest := []) (wr := [(h, .inr (6, [.ref h_s, .ref h_aside, .ref h_before, .ref h_past, .int i_h_known, .ref h_text, .int i_h_length, .ref h_lost, .int i_h_losts, .int i_h_bestOrder, .int i_h_bestMany, .int v10.2.1, .int v10.2.2.1, .int v10.2.2.2.1, .int v10.2.2.2.2.1, .ref h_tells, .int v10.2.2.2.2.2.1, .int v10.2.2.2.2.2.2.1])), (h_text, .inl (cI, 60, .inl f_h_text)), (h_tells, .inl (cI, 3, .inl v10.2.2.2.2.2.2.2.2))]) (ws' := [(h, .inr (6, [.ref h_s, .ref h_aside, .ref h_before, .ref h_past, .int i_h_known, .ref h_text, .int i_h_length, .ref h_lost, .int i_h_losts, .int i_h_bestOrder, .int i_h_bestMany, .int v10.2.1, .int v10.2.2.1, .int v10.2.2.2.1, .int v10.2.2.2.2.1, .ref h_tells, .int v10.2.2.2.2.2.1, .int v10.2.2.2.2.2.2.1])), (h_s, .inl (cI, 703, .inl v13)), (h_before, .inl (cI, 703, .inl v7)), (h_text, .inl (cI, 60, .inl f_h_text)), (h_tells, .inl (cI, 3, .inl v10.2.2.2.2.2.2.2.2))]) dX6_fault_40 pkX6_copies gX6_fault_X6_copies (kkX6_copies l D cI cR h_before h_s 703 703 v7 v10.2.2.2.2.2.2.2.1 0 0 v13 h14) ⟨rfl, rfl⟩ ⟨Nat.le_of_ble_eq_true rfl, Nat.le_of_ble_eq_true rfl⟩ rfl rfl (Nat.le_of_ble_eq_true rfl) [2, 1] [0, 3, 4] rfl rfl ⟨rfl, rfl, by decide⟩ ⟨Nat.zero_le _, Nat.zero_le _⟩ [0, 4, 3, 1, 2] rfl rfl ?_
    refine G_aload_n X dX6_fault_43 1 rfl ?_
    refine G_get X (i0 := 0) (ci := 6) (j := 16) (C := RX6) (ref := RX6) (T := TX6) (N := 18) dX6_fault_44 rfl rfl hiX6_fault_X6 (by decide) flX6_fault_240 rfl rfl ?_
    refine G_if_ne X (tgt := 55) dX6_fault_47 (by decide) (fun h16 => ?_) (fun h16 => ?_)
    · have h17 := ifp h16 h15
      refine G_ldc X dX6_fault_50 flX6_fault_51 ?_
      refine G_goto X (tgt := 82) dX6_fault_52 (by decide) ?_
      cases h17
      exact rt _ _ _ _ dX6_fault_82 ⟨rfl, rfl⟩
    · have h18 := ifn h16 h15
      refine G_iload_n X dX6_fault_55 2 rfl ?_
      refine G_if_ne X (tgt := 66) dX6_fault_56 (by decide) (fun h19 => ?_) (fun h19 => ?_)
      · have h20 := ifp h19 h18
        refine G_aload_n X dX6_fault_59 1 rfl ?_
        refine G_get X (i0 := 0) (ci := 6) (j := 12) (C := RX6) (ref := RX6) (T := TX6) (N := 18) dX6_fault_60 rfl rfl hiX6_fault_X6 (by decide) flX6_fault_226 rfl rfl ?_
        refine G_goto X (tgt := 82) dX6_fault_63 (by decide) ?_
        cases h20
        exact rt _ _ _ _ dX6_fault_82 ⟨rfl, rfl⟩
      · have h21 := ifn h19 h18
        refine G_iload_n X dX6_fault_66 2 rfl ?_
        refine G_iconst X (v := 1) dX6_fault_67 (by decide) ?_
        refine G_icmp_ne X (tgt := 78) dX6_fault_68 (by decide) (fun h22 => ?_) (fun h22 => ?_)
        · have h23 := ifp h22 h21
          refine G_aload_n X dX6_fault_71 1 rfl ?_
          refine G_get X (i0 := 0) (ci := 6) (j := 16) (C := RX6) (ref := RX6) (T := TX6) (N := 18) dX6_fault_72 rfl rfl hiX6_fault_X6 (by decide) flX6_fault_240 rfl rfl ?_
          refine G_goto X (tgt := 82) dX6_fault_75 (by decide) ?_
          cases h23
          exact rt _ _ _ _ dX6_fault_82 ⟨rfl, rfl⟩
        · have h24 := ifn h22 h21
          refine G_aload_n X dX6_fault_78 1 rfl ?_
          refine G_get X (i0 := 0) (ci := 6) (j := 17) (C := RX6) (ref := RX6) (T := TX6) (N := 18) dX6_fault_79 rfl rfl hiX6_fault_X6 (by decide) flX6_fault_249 rfl rfl ?_
          cases h24
          exact rt _ _ _ _ dX6_fault_82 ⟨rfl, rfl⟩
def rmX6_play : Room := { frames := 10, cells := 0, slots := 0, locals := 227 }
theorem pkX6_play : cK yX6_play wsX6_play cX6_play 2 (some .int) 0 RX6 := ⟨⟨_, rfl⟩, by decide +kernel⟩
theorem hiX6_play_X6 : ∀ w ∈ wsX60, w ∈ wsX6_play := by decide +kernel
theorem flX6_play_7 : Cond.fieldLink RX6 7 "EchoMarginsModel" "s" "[I" ∈ wsX6_play := by decide +kernel
theorem flX6_play_16 : Cond.fieldLink RX6 16 "EchoMarginsModel" "before" "[I" ∈ wsX6_play := by decide +kernel
theorem flX6_play_240 : Cond.fieldLink RX6 240 "EchoMarginsModel" "faultReason" "I" ∈ wsX6_play := by decide +kernel
theorem flX6_play_115 : Cond.constant RX6 115 (-1000002) ∈ wsX6_play := by decide +kernel
set_option maxHeartbeats 4000000 in
set_option maxRecDepth 100000 in
theorem kkX6_play (l : Launch) (D : va_G) (cI cR : ClassId) (h h_s h_aside h_before h_past h_text h_lost h_tells : Nat) (i_h_known : Int32) (i_h_length : Int32) (i_h_losts : Int32) (i_h_bestOrder : Int32) (i_h_bestMany : Int32) (i_h_spot : Int32) (i_h_begin : Int32) (i_h_isForm : Int32) (i_h_letter : Int32) (i_h_faultReason : Int32) (i_h_faultCause : Int32) (f_h_s : Nat → Int32) (f_h_before : Nat → Int32) (f_h_past : Nat → Int32) (f_h_text : Nat → Int32) (f_h_tells : Nat → Int32) (z : (Int32 × Int32 × Int32 × Int32 × Int32 × Int32 × Int32 × Int32 × (Nat → Int32) × (Nat → Int32) × (Nat → Int32) × (Nat → Int32))) (hz : MX6_play i_h_known i_h_length i_h_spot i_h_begin i_h_isForm i_h_letter i_h_faultReason i_h_faultCause f_h_s f_h_before f_h_past f_h_text f_h_tells = some z) : cI1 l yX6_play wsX6_play rmX6_play D cI cR [.ref h] [(h, .inr (6, [.ref h_s, .ref h_aside, .ref h_before, .ref h_past, .int i_h_known, .ref h_text, .int i_h_length, .ref h_lost, .int i_h_losts, .int i_h_bestOrder, .int i_h_bestMany, .int i_h_spot, .int i_h_begin, .int i_h_isForm, .int i_h_letter, .ref h_tells, .int i_h_faultReason, .int i_h_faultCause])), (h_s, .inl (cI, 703, .inl f_h_s)), (h_before, .inl (cI, 703, .inl f_h_before)), (h_past, .inl (cI, 2812, .inl f_h_past)), (h_text, .inl (cI, 60, .inl f_h_text)), (h_tells, .inl (cI, 3, .inl f_h_tells))] z.1 [(h, .inr (6, [.ref h_s, .ref h_aside, .ref h_before, .ref h_past, .int z.2.1, .ref h_text, .int i_h_length, .ref h_lost, .int i_h_losts, .int i_h_bestOrder, .int i_h_bestMany, .int z.2.2.1, .int z.2.2.2.1, .int z.2.2.2.2.1, .int z.2.2.2.2.2.1, .ref h_tells, .int z.2.2.2.2.2.2.1, .int z.2.2.2.2.2.2.2.1])), (h_s, .inl (cI, 703, .inl z.2.2.2.2.2.2.2.2.1)), (h_before, .inl (cI, 703, .inl z.2.2.2.2.2.2.2.2.2.1)), (h_past, .inl (cI, 2812, .inl z.2.2.2.2.2.2.2.2.2.2.1)), (h_text, .inl (cI, 60, .inl f_h_text)), (h_tells, .inl (cI, 3, .inl z.2.2.2.2.2.2.2.2.2.2.2))] := by
  unfold MX6_play at hz
  refine kI_of (cc := cX6_play) (maxL := 2) (own := RX6) (by decide +kernel) rfl rfl (Nat.le_of_ble_eq_true rfl) (lv0 := [(0, .ref h)]) rfl (fun p e s m args below meth c A Q X rt => ?_)
  refine G_aload_n X dX6_play_0 0 rfl ?_
  refine G_get X (i0 := 0) (ci := 6) (j := 0) (C := RX6) (ref := RX6) (T := TX6) (N := 18) dX6_play_1 rfl rfl hiX6_play_X6 (by decide) flX6_play_7 rfl rfl ?_
  refine G_iconst X (v := 0) dX6_play_4 (by decide) ?_
  refine G_aload_n X dX6_play_5 0 rfl ?_
  refine G_get X (i0 := 0) (ci := 6) (j := 2) (C := RX6) (ref := RX6) (T := TX6) (N := 18) dX6_play_6 rfl rfl hiX6_play_X6 (by decide) flX6_play_16 rfl rfl ?_
  refine G_iconst X (v := 0) dX6_play_9 (by decide) ?_
  obtain ⟨v1, h2, h3⟩ := bnd hz
  refine G1_callsv X (As := [.ref h_s, .int 0, .ref h_before, .int 0]) (rest := []) (wr := [(h, .inr (6, [.ref h_s, .ref h_aside, .ref h_before, .ref h_past, .int i_h_known, .ref h_text, .int i_h_length, .ref h_lost, .int i_h_losts, .int i_h_bestOrder, .int i_h_bestMany, .int i_h_spot, .int i_h_begin, .int i_h_isForm, .int i_h_letter, .ref h_tells, .int i_h_faultReason, .int i_h_faultCause])), (h_past, .inl (cI, 2812, .inl f_h_past)), (h_text, .inl (cI, 60, .inl f_h_text)), (h_tells, .inl (cI, 3, .inl f_h_tells))]) (ws' := [(h, .inr (6, [.ref h_s, .ref h_aside, .ref h_before, .ref h_past, .int i_h_known, .ref h_text, .int i_h_length, .ref h_lost, .int i_h_losts, .int i_h_bestOrder, .int i_h_bestMany, .int i_h_spot, .int i_h_begin, .int i_h_isForm, .int i_h_letter, .ref h_tells, .int i_h_faultReason, .int i_h_faultCause])), (h_s, .inl (cI, 703, .inl f_h_s)), (h_before, .inl (cI, 703, .inl v1)), (h_past, .inl (cI, 2812, .inl f_h_past)), (h_text, .inl (cI, 60, .inl f_h_text)), (h_tells, .inl (cI, 3, .inl f_h_tells))]) dX6_play_10 pkX6_copies gX6_play_X6_copies (kkX6_copies l D cI cR h_s h_before 703 703 f_h_s f_h_before 0 0 v1 h2) ⟨rfl, rfl⟩ ⟨Nat.le_of_ble_eq_true rfl, Nat.le_of_ble_eq_true rfl⟩ rfl rfl (Nat.le_of_ble_eq_true rfl) [1, 2] [0, 3, 4, 5] rfl rfl ⟨rfl, rfl, by decide⟩ ⟨Nat.zero_le _, Nat.zero_le _⟩ [0, 4, 5, 1, 2, 3] rfl rfl ?_
  refine G_aload_n X dX6_play_13 0 rfl ?_
  obtain ⟨v4, h5, h6⟩ := bnd h3
  refine G1_calli X (As := []) (rest := []) (wr := [(h_before, .inl (cI, 703, .inl v1)), (h_past, .inl (cI, 2812, .inl f_h_past))]) (ws' := [(h, .inr (6, [.ref h_s, .ref h_aside, .ref h_before, .ref h_past, .int i_h_known, .ref h_text, .int i_h_length, .ref h_lost, .int i_h_losts, .int i_h_bestOrder, .int i_h_bestMany, .int v4.2.1, .int v4.2.2.1, .int v4.2.2.2.1, .int v4.2.2.2.2.1, .ref h_tells, .int v4.2.2.2.2.2.1, .int v4.2.2.2.2.2.2.1])), (h_s, .inl (cI, 703, .inl v4.2.2.2.2.2.2.2.1)), (h_before, .inl (cI, 703, .inl v1)), (h_past, .inl (cI, 2812, .inl f_h_past)), (h_text, .inl (cI, 60, .inl f_h_text)), (h_tells, .inl (cI, 3, .inl v4.2.2.2.2.2.2.2.2))]) dX6_play_14 pkX6_doesAll gX6_play_X6_doesAll (kkX6_doesAll l D cI cR h h_s h_aside h_before h_past h_text h_lost h_tells i_h_known i_h_length i_h_losts i_h_bestOrder i_h_bestMany i_h_spot i_h_begin i_h_isForm i_h_letter i_h_faultReason i_h_faultCause f_h_s f_h_text f_h_tells v4 h5) ⟨rfl, rfl⟩ ⟨Nat.le_of_ble_eq_true rfl, Nat.le_of_ble_eq_true rfl⟩ rfl rfl (Nat.le_of_ble_eq_true rfl) 0 rfl rfl [0, 1, 4, 5] [2, 3] rfl rfl ⟨rfl, rfl, by decide⟩ ⟨Nat.zero_le _, Nat.zero_le _⟩ [2, 3, 0, 1, 4, 5] rfl rfl ?_
  refine G_istore_n X (lv' := [(1, .int v4.1), (0, .ref h)]) dX6_play_17 (by decide) rfl ?_
  refine G_aload_n X dX6_play_18 1 rfl ?_
  refine G_get X (i0 := 0) (ci := 6) (j := 2) (C := RX6) (ref := RX6) (T := TX6) (N := 18) dX6_play_19 rfl rfl hiX6_play_X6 (by decide) flX6_play_16 rfl rfl ?_
  refine G_iconst X (v := 0) dX6_play_22 (by decide) ?_
  refine G_aload_n X dX6_play_23 1 rfl ?_
  refine G_get X (i0 := 0) (ci := 6) (j := 0) (C := RX6) (ref := RX6) (T := TX6) (N := 18) dX6_play_24 rfl rfl hiX6_play_X6 (by decide) flX6_play_7 rfl rfl ?_
  refine G_iconst X (v := 0) dX6_play_27 (by decide) ?_
  obtain ⟨v7, h8, h9⟩ := bnd h6
  refine G1_callsv X (As := [.ref h_before, .int 0, .ref h_s, .int 0]) (rest := []) (wr := [(h, .inr (6, [.ref h_s, .ref h_aside, .ref h_before, .ref h_past, .int i_h_known, .ref h_text, .int i_h_length, .ref h_lost, .int i_h_losts, .int i_h_bestOrder, .int i_h_bestMany, .int v4.2.1, .int v4.2.2.1, .int v4.2.2.2.1, .int v4.2.2.2.2.1, .ref h_tells, .int v4.2.2.2.2.2.1, .int v4.2.2.2.2.2.2.1])), (h_past, .inl (cI, 2812, .inl f_h_past)), (h_text, .inl (cI, 60, .inl f_h_text)), (h_tells, .inl (cI, 3, .inl v4.2.2.2.2.2.2.2.2))]) (ws' := [(h, .inr (6, [.ref h_s, .ref h_aside, .ref h_before, .ref h_past, .int i_h_known, .ref h_text, .int i_h_length, .ref h_lost, .int i_h_losts, .int i_h_bestOrder, .int i_h_bestMany, .int v4.2.1, .int v4.2.2.1, .int v4.2.2.2.1, .int v4.2.2.2.2.1, .ref h_tells, .int v4.2.2.2.2.2.1, .int v4.2.2.2.2.2.2.1])), (h_s, .inl (cI, 703, .inl v7)), (h_before, .inl (cI, 703, .inl v1)), (h_past, .inl (cI, 2812, .inl f_h_past)), (h_text, .inl (cI, 60, .inl f_h_text)), (h_tells, .inl (cI, 3, .inl v4.2.2.2.2.2.2.2.2))]) dX6_play_28 pkX6_copies gX6_play_X6_copies (kkX6_copies l D cI cR h_before h_s 703 703 v1 v4.2.2.2.2.2.2.2.1 0 0 v7 h8) ⟨rfl, rfl⟩ ⟨Nat.le_of_ble_eq_true rfl, Nat.le_of_ble_eq_true rfl⟩ rfl rfl (Nat.le_of_ble_eq_true rfl) [2, 1] [0, 3, 4, 5] rfl rfl ⟨rfl, rfl, by decide⟩ ⟨Nat.zero_le _, Nat.zero_le _⟩ [0, 5, 4, 1, 2, 3] rfl rfl ?_
  refine G_aload_n X dX6_play_31 1 rfl ?_
  refine G_get X (i0 := 0) (ci := 6) (j := 16) (C := RX6) (ref := RX6) (T := TX6) (N := 18) dX6_play_32 rfl rfl hiX6_play_X6 (by decide) flX6_play_240 rfl rfl ?_
  refine G_if_le X (tgt := 41) dX6_play_35 (by decide) (fun h10 => ?_) (fun h10 => ?_)
  · have h11 := ifp h10 h9
    refine G_aload_n X dX6_play_41 1 rfl ?_
    obtain ⟨v12, h13, h14⟩ := bnd h11
    refine G1_callv X (As := []) (rest := []) (wr := [(h_before, .inl (cI, 703, .inl v1)), (h_text, .inl (cI, 60, .inl f_h_text)), (h_tells, .inl (cI, 3, .inl v4.2.2.2.2.2.2.2.2))]) (ws' := [(h, .inr (6, [.ref h_s, .ref h_aside, .ref h_before, .ref h_past, .int v12.1, .ref h_text, .int i_h_length, .ref h_lost, .int i_h_losts, .int i_h_bestOrder, .int i_h_bestMany, .int v4.2.1, .int v4.2.2.1, .int v4.2.2.2.1, .int v4.2.2.2.2.1, .ref h_tells, .int v4.2.2.2.2.2.1, .int v4.2.2.2.2.2.2.1])), (h_s, .inl (cI, 703, .inl v7)), (h_before, .inl (cI, 703, .inl v1)), (h_past, .inl (cI, 2812, .inl v12.2)), (h_text, .inl (cI, 60, .inl f_h_text)), (h_tells, .inl (cI, 3, .inl v4.2.2.2.2.2.2.2.2))]) dX6_play_42 pkX6_records gX6_play_X6_records (kkX6_records l D cI cR h h_s h_aside h_before h_past h_text h_lost h_tells i_h_known i_h_length i_h_losts i_h_bestOrder i_h_bestMany v4.2.1 v4.2.2.1 v4.2.2.2.1 v4.2.2.2.2.1 v4.2.2.2.2.2.1 v4.2.2.2.2.2.2.1 v7 f_h_past v12 h13) ⟨rfl, rfl⟩ ⟨Nat.le_of_ble_eq_true rfl, Nat.le_of_ble_eq_true rfl⟩ rfl rfl (Nat.le_of_ble_eq_true rfl) 0 rfl rfl [0, 1, 3] [2, 4, 5] rfl rfl ⟨rfl, rfl, by decide⟩ ⟨Nat.zero_le _, Nat.zero_le _⟩ [3, 4, 0, 5, 1, 2] rfl rfl ?_
    refine G_aload_n X dX6_play_45 1 rfl ?_
    obtain ⟨v15, h16, h17⟩ := bnd h14
    refine G1_calli X (As := []) (rest := []) (wr := [(h_before, .inl (cI, 703, .inl v1)), (h_past, .inl (cI, 2812, .inl v12.2))]) (ws' := [(h, .inr (6, [.ref h_s, .ref h_aside, .ref h_before, .ref h_past, .int v12.1, .ref h_text, .int i_h_length, .ref h_lost, .int i_h_losts, .int i_h_bestOrder, .int i_h_bestMany, .int v15.2.1, .int v15.2.2.1, .int v15.2.2.2.1, .int v15.2.2.2.2.1, .ref h_tells, .int v15.2.2.2.2.2.1, .int v15.2.2.2.2.2.2.1])), (h_s, .inl (cI, 703, .inl v15.2.2.2.2.2.2.2.1)), (h_before, .inl (cI, 703, .inl v1)), (h_past, .inl (cI, 2812, .inl v12.2)), (h_text, .inl (cI, 60, .inl f_h_text)), (h_tells, .inl (cI, 3, .inl v15.2.2.2.2.2.2.2.2))]) dX6_play_46 pkX6_doesAll gX6_play_X6_doesAll (kkX6_doesAll l D cI cR h h_s h_aside h_before h_past h_text h_lost h_tells v12.1 i_h_length i_h_losts i_h_bestOrder i_h_bestMany v4.2.1 v4.2.2.1 v4.2.2.2.1 v4.2.2.2.2.1 v4.2.2.2.2.2.1 v4.2.2.2.2.2.2.1 v7 f_h_text v4.2.2.2.2.2.2.2.2 v15 h16) ⟨rfl, rfl⟩ ⟨Nat.le_of_ble_eq_true rfl, Nat.le_of_ble_eq_true rfl⟩ rfl rfl (Nat.le_of_ble_eq_true rfl) 0 rfl rfl [0, 1, 4, 5] [2, 3] rfl rfl ⟨rfl, rfl, by decide⟩ ⟨Nat.zero_le _, Nat.zero_le _⟩ [2, 3, 0, 1, 4, 5] rfl rfl ?_
    refine G_istore_n X (lv' := [(1, .int v15.1), (0, .ref h)]) dX6_play_49 (by decide) rfl ?_
    refine G_iload_n X dX6_play_50 0 rfl ?_
    cases h17
    exact rt _ _ _ _ dX6_play_51 ⟨rfl, rfl⟩
  · have h18 := ifn h10 h9
    refine G_ldc X dX6_play_38 flX6_play_115 ?_
    cases h18
    exact rt _ _ _ _ dX6_play_40 ⟨rfl, rfl⟩
