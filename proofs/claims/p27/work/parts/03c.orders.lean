def rmX2_length : Room := { frames := 0, cells := 0, slots := 0, locals := 0 }
theorem pkX2_length : cK yX2_length wsX2_length cX2_length 1 (some .int) 0 RX2 := ⟨⟨_, rfl⟩, by decide +kernel⟩
theorem hiX2_length_X2 : ∀ w ∈ wsX20, w ∈ wsX2_length := by decide +kernel
theorem flX2_length_18 : Cond.fieldLink RX2 18 "EchoMargins$Orders" "length" "I" ∈ wsX2_length := by decide +kernel
set_option maxHeartbeats 4000000 in
set_option maxRecDepth 100000 in
theorem kkX2_length (l : Launch) (D : va_G) (cI cR : ClassId) (h h_signs h_numbers : Nat) (i_h_length : Int32) (i_h_at : Int32) (i_h_faultPosition : Int32) (i_h_faultReason : Int32) (i_h_faultCause : Int32) (z : Int32) (hz : MX2_length i_h_length = some z) : cI1 l yX2_length wsX2_length rmX2_length D cI cR [.ref h] [(h, .inr (2, [.ref h_signs, .ref h_numbers, .int i_h_length, .int i_h_at, .int i_h_faultPosition, .int i_h_faultReason, .int i_h_faultCause]))] z [(h, .inr (2, [.ref h_signs, .ref h_numbers, .int i_h_length, .int i_h_at, .int i_h_faultPosition, .int i_h_faultReason, .int i_h_faultCause]))] := by
  unfold MX2_length at hz
  refine kI_of (cc := cX2_length) (maxL := 1) (own := RX2) (by decide +kernel) rfl rfl (Nat.le_of_ble_eq_true rfl) (lv0 := [(0, .ref h)]) rfl (fun p e s m args below meth c A Q X rt => ?_)
  refine G_aload_n X dX2_length_0 0 rfl ?_
  refine G_get X (i0 := 0) (ci := 2) (j := 2) (C := RX2) (ref := RX2) (T := TX2) (N := 7) dX2_length_1 rfl rfl hiX2_length_X2 (by decide) flX2_length_18 rfl rfl ?_
  cases hz
  exact rt _ _ _ _ dX2_length_4 ⟨rfl, rfl⟩
def rmX2_append : Room := { frames := 0, cells := 0, slots := 0, locals := 0 }
theorem pkX2_append : cK yX2_append wsX2_append cX2_append 2 (some .int) 1 RX2 := ⟨⟨_, rfl⟩, by decide +kernel⟩
theorem hiX2_append_X2 : ∀ w ∈ wsX20, w ∈ wsX2_append := by decide +kernel
theorem flX2_append_34 : Cond.constant RX2 34 (-1000001) ∈ wsX2_append := by decide +kernel
theorem flX2_append_18 : Cond.fieldLink RX2 18 "EchoMargins$Orders" "length" "I" ∈ wsX2_append := by decide +kernel
theorem flX2_append_35 : Cond.constant RX2 35 (-1000003) ∈ wsX2_append := by decide +kernel
theorem flX2_append_11 : Cond.fieldLink RX2 11 "EchoMargins$Orders" "signs" "[I" ∈ wsX2_append := by decide +kernel
set_option maxHeartbeats 4000000 in
set_option maxRecDepth 100000 in
theorem kkX2_append (l : Launch) (D : va_G) (cI cR : ClassId) (h h_signs h_numbers : Nat) (i_h_length : Int32) (i_h_at : Int32) (i_h_faultPosition : Int32) (i_h_faultReason : Int32) (i_h_faultCause : Int32) (f_h_signs : Nat → Int32) (x0 : Int32) (z : (Int32 × Int32 × (Nat → Int32))) (hz : MX2_append i_h_length f_h_signs x0 = some z) : cI1 l yX2_append wsX2_append rmX2_append D cI cR [.ref h, .int x0] [(h, .inr (2, [.ref h_signs, .ref h_numbers, .int i_h_length, .int i_h_at, .int i_h_faultPosition, .int i_h_faultReason, .int i_h_faultCause])), (h_signs, .inl (cI, 60, .inl f_h_signs))] z.1 [(h, .inr (2, [.ref h_signs, .ref h_numbers, .int z.2.1, .int i_h_at, .int i_h_faultPosition, .int i_h_faultReason, .int i_h_faultCause])), (h_signs, .inl (cI, 60, .inl z.2.2))] := by
  unfold MX2_append at hz
  refine kI_of (cc := cX2_append) (maxL := 2) (own := RX2) (by decide +kernel) rfl rfl (Nat.le_of_ble_eq_true rfl) (lv0 := [(0, .ref h), (1, .int x0)]) rfl (fun p e s m args below meth c A Q X rt => ?_)
  refine G_iload_n X dX2_append_0 1 rfl ?_
  refine G_bipush X (v := 32) dX2_append_1 (by decide) ?_
  refine G_icmp_lt X (tgt := 12) dX2_append_3 (by decide) (fun h1 => ?_) (fun h1 => ?_)
  · have h2 := ifp h1 hz
    refine G_ldc X dX2_append_12 flX2_append_34 ?_
    cases h2
    exact rt _ _ _ _ dX2_append_14 ⟨rfl, rfl⟩
  · have h3 := ifn h1 hz
    refine G_iload_n X dX2_append_6 1 rfl ?_
    refine G_bipush X (v := 126) dX2_append_7 (by decide) ?_
    refine G_icmp_le X (tgt := 15) dX2_append_9 (by decide) (fun h4 => ?_) (fun h4 => ?_)
    · have h5 := ifp h4 h3
      refine G_aload_n X dX2_append_15 0 rfl ?_
      refine G_get X (i0 := 0) (ci := 2) (j := 2) (C := RX2) (ref := RX2) (T := TX2) (N := 7) dX2_append_16 rfl rfl hiX2_append_X2 (by decide) flX2_append_18 rfl rfl ?_
      refine G_if_lt X (tgt := 31) dX2_append_19 (by decide) (fun h6 => ?_) (fun h6 => ?_)
      · have h7 := ifp h6 h5
        refine G_ldc X dX2_append_31 flX2_append_35 ?_
        cases h7
        exact rt _ _ _ _ dX2_append_33 ⟨rfl, rfl⟩
      · have h8 := ifn h6 h5
        refine G_aload_n X dX2_append_22 0 rfl ?_
        refine G_get X (i0 := 0) (ci := 2) (j := 2) (C := RX2) (ref := RX2) (T := TX2) (N := 7) dX2_append_23 rfl rfl hiX2_append_X2 (by decide) flX2_append_18 rfl rfl ?_
        refine G_bipush X (v := 60) dX2_append_26 (by decide) ?_
        refine G_icmp_lt X (tgt := 34) dX2_append_28 (by decide) (fun h9 => ?_) (fun h9 => ?_)
        · have h10 := ifp h9 h8
          refine G_aload_n X dX2_append_34 0 rfl ?_
          refine G_get X (i0 := 0) (ci := 2) (j := 0) (C := RX2) (ref := RX2) (T := TX2) (N := 7) dX2_append_35 rfl rfl hiX2_append_X2 (by decide) flX2_append_11 rfl rfl ?_
          refine G_aload_n X dX2_append_38 0 rfl ?_
          refine G_get X (i0 := 0) (ci := 2) (j := 2) (C := RX2) (ref := RX2) (T := TX2) (N := 7) dX2_append_39 rfl rfl hiX2_append_X2 (by decide) flX2_append_18 rfl rfl ?_
          refine G_iload_n X dX2_append_42 1 rfl ?_
          obtain ⟨g11, h12, h13⟩ := bnd h10
          refine G_iast X (i0 := 1) (ws' := [(h, .inr (2, [.ref h_signs, .ref h_numbers, .int i_h_length, .int i_h_at, .int i_h_faultPosition, .int i_h_faultReason, .int i_h_faultCause])), (h_signs, .inl (cI, 60, .inl g11))]) dX2_append_43 rfl h12 rfl ?_
          refine G_aload_n X dX2_append_44 0 rfl ?_
          refine G_dup X dX2_append_45 rfl ?_
          refine G_get X (i0 := 0) (ci := 2) (j := 2) (C := RX2) (ref := RX2) (T := TX2) (N := 7) dX2_append_46 rfl rfl hiX2_append_X2 (by decide) flX2_append_18 rfl rfl ?_
          refine G_iconst X (v := 1) dX2_append_49 (by decide) ?_
          refine G_iadd X dX2_append_50 ?_
          refine G_put X (i0 := 0) (ci := 2) (j := 2) (C := RX2) (ref := RX2) (T := TX2) (N := 7) (ty := .int) (ws' := [(h, .inr (2, [.ref h_signs, .ref h_numbers, .int (i_h_length + 1), .int i_h_at, .int i_h_faultPosition, .int i_h_faultReason, .int i_h_faultCause])), (h_signs, .inl (cI, 60, .inl g11))]) tyX2 dX2_append_51 rfl rfl hiX2_append_X2 tyX2_ok nmX2 (by decide) flX2_append_18 rfl rfl rfl rfl rfl (Nat.le_of_ble_eq_true rfl) rfl ?_
          refine G_aload_n X dX2_append_54 0 rfl ?_
          refine G_get X (i0 := 0) (ci := 2) (j := 2) (C := RX2) (ref := RX2) (T := TX2) (N := 7) dX2_append_55 rfl rfl hiX2_append_X2 (by decide) flX2_append_18 rfl rfl ?_
          cases h13
          exact rt _ _ _ _ dX2_append_58 ⟨rfl, rfl⟩
        · have h14 := ifn h9 h8
          refine G_ldc X dX2_append_31 flX2_append_35 ?_
          cases h14
          exact rt _ _ _ _ dX2_append_33 ⟨rfl, rfl⟩
    · have h15 := ifn h4 h3
      refine G_ldc X dX2_append_12 flX2_append_34 ?_
      cases h15
      exact rt _ _ _ _ dX2_append_14 ⟨rfl, rfl⟩
def rmX2_empty : Room := { frames := 0, cells := 0, slots := 0, locals := 0 }
theorem pkX2_empty : cK yX2_empty wsX2_empty cX2_empty 2 (some .int) 0 RX2 := ⟨⟨_, rfl⟩, by decide +kernel⟩
theorem hiX2_empty_X2 : ∀ w ∈ wsX20, w ∈ wsX2_empty := by decide +kernel
theorem flX2_empty_18 : Cond.fieldLink RX2 18 "EchoMargins$Orders" "length" "I" ∈ wsX2_empty := by decide +kernel
set_option maxHeartbeats 4000000 in
set_option maxRecDepth 100000 in
theorem kkX2_empty (l : Launch) (D : va_G) (cI cR : ClassId) (h h_signs h_numbers : Nat) (i_h_length : Int32) (i_h_at : Int32) (i_h_faultPosition : Int32) (i_h_faultReason : Int32) (i_h_faultCause : Int32) (z : (Int32 × Int32)) (hz : MX2_empty i_h_length = some z) : cI1 l yX2_empty wsX2_empty rmX2_empty D cI cR [.ref h] [(h, .inr (2, [.ref h_signs, .ref h_numbers, .int i_h_length, .int i_h_at, .int i_h_faultPosition, .int i_h_faultReason, .int i_h_faultCause]))] z.1 [(h, .inr (2, [.ref h_signs, .ref h_numbers, .int z.2, .int i_h_at, .int i_h_faultPosition, .int i_h_faultReason, .int i_h_faultCause]))] := by
  unfold MX2_empty at hz
  refine kI_of (cc := cX2_empty) (maxL := 2) (own := RX2) (by decide +kernel) rfl rfl (Nat.le_of_ble_eq_true rfl) (lv0 := [(0, .ref h)]) rfl (fun p e s m args below meth c A Q X rt => ?_)
  refine G_aload_n X dX2_empty_0 0 rfl ?_
  refine G_get X (i0 := 0) (ci := 2) (j := 2) (C := RX2) (ref := RX2) (T := TX2) (N := 7) dX2_empty_1 rfl rfl hiX2_empty_X2 (by decide) flX2_empty_18 rfl rfl ?_
  refine G_istore_n X (lv' := [(1, .int i_h_length), (0, .ref h)]) dX2_empty_4 (by decide) rfl ?_
  refine G_aload_n X dX2_empty_5 1 rfl ?_
  refine G_iconst X (v := 0) dX2_empty_6 (by decide) ?_
  refine G_put X (i0 := 0) (ci := 2) (j := 2) (C := RX2) (ref := RX2) (T := TX2) (N := 7) (ty := .int) (ws' := [(h, .inr (2, [.ref h_signs, .ref h_numbers, .int 0, .int i_h_at, .int i_h_faultPosition, .int i_h_faultReason, .int i_h_faultCause]))]) tyX2 dX2_empty_7 rfl rfl hiX2_empty_X2 tyX2_ok nmX2 (by decide) flX2_empty_18 rfl rfl rfl rfl rfl (Nat.le_of_ble_eq_true rfl) rfl ?_
  refine G_iload_n X dX2_empty_10 0 rfl ?_
  cases hz
  exact rt _ _ _ _ dX2_empty_11 ⟨rfl, rfl⟩
def rmX2_ofFault : Room := { frames := 0, cells := 0, slots := 0, locals := 0 }
theorem pkX2_ofFault : cK yX2_ofFault wsX2_ofFault cX2_ofFault 2 (some .int) 1 RX2 := ⟨⟨_, rfl⟩, by decide +kernel⟩
theorem hiX2_ofFault_X2 : ∀ w ∈ wsX20, w ∈ wsX2_ofFault := by decide +kernel
theorem flX2_ofFault_25 : Cond.fieldLink RX2 25 "EchoMargins$Orders" "faultPosition" "I" ∈ wsX2_ofFault := by decide +kernel
theorem flX2_ofFault_28 : Cond.fieldLink RX2 28 "EchoMargins$Orders" "faultReason" "I" ∈ wsX2_ofFault := by decide +kernel
theorem flX2_ofFault_31 : Cond.fieldLink RX2 31 "EchoMargins$Orders" "faultCause" "I" ∈ wsX2_ofFault := by decide +kernel
set_option maxHeartbeats 4000000 in
set_option maxRecDepth 100000 in
theorem kkX2_ofFault (l : Launch) (D : va_G) (cI cR : ClassId) (h h_signs h_numbers : Nat) (i_h_length : Int32) (i_h_at : Int32) (i_h_faultPosition : Int32) (i_h_faultReason : Int32) (i_h_faultCause : Int32) (x0 : Int32) (z : Int32) (hz : MX2_ofFault i_h_faultPosition i_h_faultReason i_h_faultCause x0 = some z) : cI1 l yX2_ofFault wsX2_ofFault rmX2_ofFault D cI cR [.ref h, .int x0] [(h, .inr (2, [.ref h_signs, .ref h_numbers, .int i_h_length, .int i_h_at, .int i_h_faultPosition, .int i_h_faultReason, .int i_h_faultCause]))] z [(h, .inr (2, [.ref h_signs, .ref h_numbers, .int i_h_length, .int i_h_at, .int i_h_faultPosition, .int i_h_faultReason, .int i_h_faultCause]))] := by
  unfold MX2_ofFault at hz
  refine kI_of (cc := cX2_ofFault) (maxL := 2) (own := RX2) (by decide +kernel) rfl rfl (Nat.le_of_ble_eq_true rfl) (lv0 := [(0, .ref h), (1, .int x0)]) rfl (fun p e s m args below meth c A Q X rt => ?_)
  refine G_iload_n X dX2_ofFault_0 1 rfl ?_
  by_cases h1 : x0 = 0
  · have h2 := ifp h1 hz
    refine G_lookup X (off := 27) (tgt := 28) dX2_ofFault_1 (by decide) (by rw [h1]; decide) (by decide) ?_
    refine G_aload_n X dX2_ofFault_28 0 rfl ?_
    refine G_get X (i0 := 0) (ci := 2) (j := 4) (C := RX2) (ref := RX2) (T := TX2) (N := 7) dX2_ofFault_29 rfl rfl hiX2_ofFault_X2 (by decide) flX2_ofFault_25 rfl rfl ?_
    cases h2
    exact rt _ _ _ _ dX2_ofFault_32 ⟨rfl, rfl⟩
  · have h3 := ifn h1 hz
    by_cases h4 : x0 = 1
    · have h5 := ifp h4 h3
      refine G_lookup X (off := 32) (tgt := 33) dX2_ofFault_1 (by decide) (by rw [h4]; decide) (by decide) ?_
      refine G_aload_n X dX2_ofFault_33 0 rfl ?_
      refine G_get X (i0 := 0) (ci := 2) (j := 5) (C := RX2) (ref := RX2) (T := TX2) (N := 7) dX2_ofFault_34 rfl rfl hiX2_ofFault_X2 (by decide) flX2_ofFault_28 rfl rfl ?_
      cases h5
      exact rt _ _ _ _ dX2_ofFault_37 ⟨rfl, rfl⟩
    · have h6 := ifn h4 h3
      refine G_lookup X (off := 37) (tgt := 38) dX2_ofFault_1 (by decide) (lk_cons (fun q => h1 (Int32.toInt_inj.mp (q.trans (by decide)))) (lk_cons (fun q => h4 (Int32.toInt_inj.mp (q.trans (by decide)))) lk_nil)) (by decide) ?_
      refine G_aload_n X dX2_ofFault_38 0 rfl ?_
      refine G_get X (i0 := 0) (ci := 2) (j := 6) (C := RX2) (ref := RX2) (T := TX2) (N := 7) dX2_ofFault_39 rfl rfl hiX2_ofFault_X2 (by decide) flX2_ofFault_31 rfl rfl ?_
      cases h6
      exact rt _ _ _ _ dX2_ofFault_42 ⟨rfl, rfl⟩
def rmX2_signAt : Room := { frames := 0, cells := 0, slots := 0, locals := 0 }
theorem pkX2_signAt : cK yX2_signAt wsX2_signAt cX2_signAt 3 (some .int) 1 RX2 := ⟨⟨_, rfl⟩, by decide +kernel⟩
theorem hiX2_signAt_X2 : ∀ w ∈ wsX20, w ∈ wsX2_signAt := by decide +kernel
theorem flX2_signAt_18 : Cond.fieldLink RX2 18 "EchoMargins$Orders" "length" "I" ∈ wsX2_signAt := by decide +kernel
theorem flX2_signAt_11 : Cond.fieldLink RX2 11 "EchoMargins$Orders" "signs" "[I" ∈ wsX2_signAt := by decide +kernel
set_option maxHeartbeats 4000000 in
set_option maxRecDepth 100000 in
theorem kkX2_signAt (l : Launch) (D : va_G) (cI cR : ClassId) (h h_signs h_numbers : Nat) (i_h_length : Int32) (i_h_at : Int32) (i_h_faultPosition : Int32) (i_h_faultReason : Int32) (i_h_faultCause : Int32) (f_h_signs : Nat → Int32) (x0 : Int32) (z : Int32) (hz : MX2_signAt i_h_length f_h_signs x0 = some z) : cI1 l yX2_signAt wsX2_signAt rmX2_signAt D cI cR [.ref h, .int x0] [(h, .inr (2, [.ref h_signs, .ref h_numbers, .int i_h_length, .int i_h_at, .int i_h_faultPosition, .int i_h_faultReason, .int i_h_faultCause])), (h_signs, .inl (cI, 60, .inl f_h_signs))] z [(h, .inr (2, [.ref h_signs, .ref h_numbers, .int i_h_length, .int i_h_at, .int i_h_faultPosition, .int i_h_faultReason, .int i_h_faultCause])), (h_signs, .inl (cI, 60, .inl f_h_signs))] := by
  unfold MX2_signAt at hz
  refine kI_of (cc := cX2_signAt) (maxL := 3) (own := RX2) (by decide +kernel) rfl rfl (Nat.le_of_ble_eq_true rfl) (lv0 := [(0, .ref h), (1, .int x0)]) rfl (fun p e s m args below meth c A Q X rt => ?_)
  refine G_iload_n X dX2_signAt_0 1 rfl ?_
  obtain ⟨w2, h3, h4⟩ := bnd hz
  have J5 : ∀ j1, w2 = .inl j1 → G p l e rmX2_signAt s m args below meth c D A 3 Q 0 0 22 [(0, .ref h), (1, .int x0)] [] [(h, .inr (2, [.ref h_signs, .ref h_numbers, .int i_h_length, .int i_h_at, .int i_h_faultPosition, .int i_h_faultReason, .int i_h_faultCause])), (h_signs, .inl (cI, 60, .inl f_h_signs))] := by
    intro j1 q
    subst q
    have h6 := cnt_l h4
    refine G_iconst X (v := 0) dX2_signAt_22 (by decide) ?_
    refine G_istore_n X (lv' := [(2, .int 0), (0, .ref h), (1, .int x0)]) dX2_signAt_23 (by decide) rfl ?_
    refine G_iload_n X dX2_signAt_24 0 rfl ?_
    refine G_if_eq X (tgt := 37) dX2_signAt_25 (by decide) (fun _ => ?_) (fun q => absurd (by decide) q)
    refine G_iconst X (v := 0) dX2_signAt_37 (by decide) ?_
    cases h6
    exact rt _ _ _ _ dX2_signAt_38 ⟨rfl, rfl⟩
  refine G_if_lt X (tgt := 22) dX2_signAt_1 (by decide) (fun h7 => ?_) (fun h7 => ?_)
  · have h8 := ifp h7 h3
    cases h8
    exact J5 _ rfl
  · have h9 := ifn h7 h3
    refine G_iload_n X dX2_signAt_4 1 rfl ?_
    refine G_aload_n X dX2_signAt_5 0 rfl ?_
    refine G_get X (i0 := 0) (ci := 2) (j := 2) (C := RX2) (ref := RX2) (T := TX2) (N := 7) dX2_signAt_6 rfl rfl hiX2_signAt_X2 (by decide) flX2_signAt_18 rfl rfl ?_
    refine G_icmp_ge X (tgt := 22) dX2_signAt_9 (by decide) (fun h10 => ?_) (fun h10 => ?_)
    · have h11 := ifp h10 h9
      cases h11
      exact J5 _ rfl
    · have h12 := ifn h10 h9
      refine G_iload_n X dX2_signAt_12 1 rfl ?_
      refine G_bipush X (v := 60) dX2_signAt_13 (by decide) ?_
      refine G_icmp_ge X (tgt := 22) dX2_signAt_15 (by decide) (fun h13 => ?_) (fun h13 => ?_)
      · have h14 := ifp h13 h12
        cases h14
        exact J5 _ rfl
      · have h15 := ifn h13 h12
        refine G_iconst X (v := 1) dX2_signAt_18 (by decide) ?_
        refine G_goto X (tgt := 23) dX2_signAt_19 (by decide) ?_
        refine G_istore_n X (lv' := [(2, .int 1), (0, .ref h), (1, .int x0)]) dX2_signAt_23 (by decide) rfl ?_
        refine G_iload_n X dX2_signAt_24 0 rfl ?_
        refine G_if_eq X (tgt := 37) dX2_signAt_25 (by decide) (fun q => absurd q (by decide)) (fun _ => ?_)
        refine G_aload_n X dX2_signAt_28 1 rfl ?_
        refine G_get X (i0 := 0) (ci := 2) (j := 0) (C := RX2) (ref := RX2) (T := TX2) (N := 7) dX2_signAt_29 rfl rfl hiX2_signAt_X2 (by decide) flX2_signAt_11 rfl rfl ?_
        refine G_iload_n X dX2_signAt_32 2 rfl ?_
        obtain ⟨v16, h17, h18⟩ := bnd h15
        refine G_iald X (i0 := 1) dX2_signAt_33 rfl h17 ?_
        refine G_goto X (tgt := 38) dX2_signAt_34 (by decide) ?_
        cases h18
        have h19 := congrArg some (cnt_r h4)
        cases h19
        exact rt _ _ _ _ dX2_signAt_38 ⟨rfl, rfl⟩
def rmX2_numbersOf : Room := { frames := 0, cells := 0, slots := 0, locals := 0 }
theorem pkX2_numbersOf : cK yX2_numbersOf wsX2_numbersOf cX2_numbersOf 1 (some .int) 1 RX2 := ⟨⟨_, rfl⟩, by decide +kernel⟩
set_option maxHeartbeats 4000000 in
set_option maxRecDepth 100000 in
theorem kkX2_numbersOf (l : Launch) (D : va_G) (cI cR : ClassId) (x0 : Int32) (z : Int32) (hz : MX2_numbersOf x0 = some z) : cI1 l yX2_numbersOf wsX2_numbersOf rmX2_numbersOf D cI cR [.int x0] [] z [] := by
  unfold MX2_numbersOf at hz
  refine kI_of (cc := cX2_numbersOf) (maxL := 1) (own := RX2) (by decide +kernel) rfl rfl (Nat.le_of_ble_eq_true rfl) (lv0 := [(0, .int x0)]) rfl (fun p e s m args below meth c A Q X rt => ?_)
  refine G_iload_n X dX2_numbersOf_0 0 rfl ?_
  by_cases h1 : x0 = 97
  · have h2 := ifp h1 hz
    refine G_lookup X (off := 63) (tgt := 64) dX2_numbersOf_1 (by decide) (by rw [h1]; decide) (by decide) ?_
    refine G_iconst X (v := 1) dX2_numbersOf_64 (by decide) ?_
    cases h2
    exact rt _ _ _ _ dX2_numbersOf_65 ⟨rfl, rfl⟩
  · have h3 := ifn h1 hz
    by_cases h4 : x0 = 100
    · have h5 := ifp h4 h3
      refine G_lookup X (off := 63) (tgt := 64) dX2_numbersOf_1 (by decide) (by rw [h4]; decide) (by decide) ?_
      refine G_iconst X (v := 1) dX2_numbersOf_64 (by decide) ?_
      cases h5
      exact rt _ _ _ _ dX2_numbersOf_65 ⟨rfl, rfl⟩
    · have h6 := ifn h4 h3
      by_cases h7 : x0 = 108
      · have h8 := ifp h7 h6
        refine G_lookup X (off := 63) (tgt := 64) dX2_numbersOf_1 (by decide) (by rw [h7]; decide) (by decide) ?_
        refine G_iconst X (v := 1) dX2_numbersOf_64 (by decide) ?_
        cases h8
        exact rt _ _ _ _ dX2_numbersOf_65 ⟨rfl, rfl⟩
      · have h9 := ifn h7 h6
        by_cases h10 : x0 = 109
        · have h11 := ifp h10 h9
          refine G_lookup X (off := 63) (tgt := 64) dX2_numbersOf_1 (by decide) (by rw [h10]; decide) (by decide) ?_
          refine G_iconst X (v := 1) dX2_numbersOf_64 (by decide) ?_
          cases h11
          exact rt _ _ _ _ dX2_numbersOf_65 ⟨rfl, rfl⟩
        · have h12 := ifn h10 h9
          by_cases h13 : x0 = 115
          · have h14 := ifp h13 h12
            refine G_lookup X (off := 61) (tgt := 62) dX2_numbersOf_1 (by decide) (by rw [h13]; decide) (by decide) ?_
            refine G_iconst X (v := 2) dX2_numbersOf_62 (by decide) ?_
            cases h14
            exact rt _ _ _ _ dX2_numbersOf_63 ⟨rfl, rfl⟩
          · have h15 := ifn h13 h12
            by_cases h16 : x0 = 119
            · have h17 := ifp h16 h15
              refine G_lookup X (off := 59) (tgt := 60) dX2_numbersOf_1 (by decide) (by rw [h16]; decide) (by decide) ?_
              refine G_iconst X (v := 3) dX2_numbersOf_60 (by decide) ?_
              cases h17
              exact rt _ _ _ _ dX2_numbersOf_61 ⟨rfl, rfl⟩
            · have h18 := ifn h16 h15
              refine G_lookup X (off := 65) (tgt := 66) dX2_numbersOf_1 (by decide) (lk_cons (fun q => h1 (Int32.toInt_inj.mp (q.trans (by decide)))) (lk_cons (fun q => h4 (Int32.toInt_inj.mp (q.trans (by decide)))) (lk_cons (fun q => h7 (Int32.toInt_inj.mp (q.trans (by decide)))) (lk_cons (fun q => h10 (Int32.toInt_inj.mp (q.trans (by decide)))) (lk_cons (fun q => h13 (Int32.toInt_inj.mp (q.trans (by decide)))) (lk_cons (fun q => h16 (Int32.toInt_inj.mp (q.trans (by decide)))) lk_nil)))))) (by decide) ?_
              refine G_iconst X (v := 0) dX2_numbersOf_66 (by decide) ?_
              cases h18
              exact rt _ _ _ _ dX2_numbersOf_67 ⟨rfl, rfl⟩
def rmX2_readNumber : Room := { frames := 1, cells := 0, slots := 0, locals := 90 }
theorem pkX2_readNumber : cK yX2_readNumber wsX2_readNumber cX2_readNumber 4 (some .int) 0 RX2 := ⟨⟨_, rfl⟩, by decide +kernel⟩
theorem hiX2_readNumber_X2 : ∀ w ∈ wsX20, w ∈ wsX2_readNumber := by decide +kernel
theorem flX2_readNumber_22 : Cond.fieldLink RX2 22 "EchoMargins$Orders" "at" "I" ∈ wsX2_readNumber := by decide +kernel
theorem flX2_readNumber_m_max : Cond.methodLink RX2 76 Lib.Math.max.name ∈ wsX2_readNumber := by decide +kernel
theorem flX2_readNumber_s_max : Cond.static Lib.Math.max.name ∈ wsX2_readNumber := by decide +kernel
theorem flX2_readNumber_im : Cond.initialized "java/lang/Math" ∈ wsX2_readNumber := by decide +kernel
theorem flX2_readNumber_c_max : Cond.code Lib.Math.max.name Lib.Math.max.code 2 (some .int) ∈ wsX2_readNumber := by decide +kernel
set_option maxHeartbeats 4000000 in
set_option maxRecDepth 100000 in
theorem kkX2_readNumber (l : Launch) (D : va_G) (cI cR : ClassId) (h h_signs h_numbers : Nat) (i_h_length : Int32) (i_h_at : Int32) (i_h_faultPosition : Int32) (i_h_faultReason : Int32) (i_h_faultCause : Int32) (f_h_signs : Nat → Int32) (z : (Int32 × Int32)) (hz : MX2_readNumber i_h_length i_h_at f_h_signs = some z) : cI1 l yX2_readNumber wsX2_readNumber rmX2_readNumber D cI cR [.ref h] [(h, .inr (2, [.ref h_signs, .ref h_numbers, .int i_h_length, .int i_h_at, .int i_h_faultPosition, .int i_h_faultReason, .int i_h_faultCause])), (h_signs, .inl (cI, 60, .inl f_h_signs))] z.1 [(h, .inr (2, [.ref h_signs, .ref h_numbers, .int i_h_length, .int z.2, .int i_h_faultPosition, .int i_h_faultReason, .int i_h_faultCause])), (h_signs, .inl (cI, 60, .inl f_h_signs))] := by
  unfold MX2_readNumber at hz
  refine kI_of (cc := cX2_readNumber) (maxL := 4) (own := RX2) (by decide +kernel) rfl rfl (Nat.le_of_ble_eq_true rfl) (lv0 := [(0, .ref h)]) rfl (fun p e s m args below meth c A Q X rt => ?_)
  refine G_iconst X (v := (-1)) dX2_readNumber_0 (by decide) ?_
  refine G_istore_n X (lv' := [(1, .int (-1)), (0, .ref h)]) dX2_readNumber_1 (by decide) rfl ?_
  refine G_iconst X (v := 0) dX2_readNumber_2 (by decide) ?_
  refine G_istore_n X (lv' := [(2, .int 0), (1, .int (-1)), (0, .ref h)]) dX2_readNumber_3 (by decide) rfl ?_
  obtain ⟨w3, h4, h5⟩ := bnd hz
  have J10 : ∀ j2, w3 = .inl j2 → G p l e rmX2_readNumber s m args below meth c D A 4 Q 0 0 62 [(1, .int j2.1)] [] [(h, .inr (2, [.ref h_signs, .ref h_numbers, .int i_h_length, .int j2.2, .int i_h_faultPosition, .int i_h_faultReason, .int i_h_faultCause])), (h_signs, .inl (cI, 60, .inl f_h_signs))] := by
    intro j2 q
    subst q
    have h11 := cnt_l h5
    refine G_iload_n X dX2_readNumber_62 0 rfl ?_
    cases h11
    exact rt _ _ _ _ dX2_readNumber_63 ⟨rfl, rfl⟩
  refine G_lv [2, 1, 0] rfl ?_
  refine itr_ind (P := fun s1 : (Int32 × Int32 × Int32) => G p l e rmX2_readNumber s m args below meth c D A 4 Q 0 0 4 [(0, .ref h), (1, .int s1.1), (2, .int s1.2.1)] [] [(h, .inr (2, [.ref h_signs, .ref h_numbers, .int i_h_length, .int s1.2.2, .int i_h_faultPosition, .int i_h_faultReason, .int i_h_faultCause])), (h_signs, .inl (cI, 60, .inl f_h_signs))]) (fun s1 o9 h6 h7 h8 => ?_) FU _ h4
  unfold SX2_readNumber_4 at h6
  refine G_iload_n X dX2_readNumber_4 2 rfl ?_
  refine G_iconst X (v := 3) dX2_readNumber_5 (by decide) ?_
  refine G_icmp_ge X (tgt := 62) dX2_readNumber_6 (by decide) (fun h12 => ?_) (fun h12 => ?_)
  · have h13 := ifp h12 h6
    cases h13
    have h14 := h8 _ rfl
    subst h14
    exact G_lv [1] rfl (J10 _ rfl)
  · have h15 := ifn h12 h6
    refine G_aload_n X dX2_readNumber_9 0 rfl ?_
    refine G_aload_n X dX2_readNumber_10 0 rfl ?_
    refine G_get X (i0 := 0) (ci := 2) (j := 3) (C := RX2) (ref := RX2) (T := TX2) (N := 7) dX2_readNumber_11 rfl rfl hiX2_readNumber_X2 (by decide) flX2_readNumber_22 rfl rfl ?_
    obtain ⟨v16, h17, h18⟩ := bnd h15
    refine G1_calli X (As := [.int s1.2.2]) (rest := []) (wr := []) (ws' := [(h, .inr (2, [.ref h_signs, .ref h_numbers, .int i_h_length, .int s1.2.2, .int i_h_faultPosition, .int i_h_faultReason, .int i_h_faultCause])), (h_signs, .inl (cI, 60, .inl f_h_signs))]) dX2_readNumber_14 pkX2_signAt gX2_readNumber_X2_signAt (kkX2_signAt l D cI cR h h_signs h_numbers i_h_length s1.2.2 i_h_faultPosition i_h_faultReason i_h_faultCause f_h_signs s1.2.2 v16 h17) ⟨rfl, rfl⟩ ⟨Nat.le_of_ble_eq_true rfl, Nat.le_of_ble_eq_true rfl⟩ rfl rfl (Nat.le_of_ble_eq_true rfl) 0 rfl rfl [0, 1] [] rfl rfl ⟨rfl, rfl, by decide⟩ ⟨Nat.zero_le _, Nat.zero_le _⟩ [0, 1] rfl rfl ?_
    refine G_istore_n X (lv' := [(3, .int v16), (0, .ref h), (1, .int s1.1), (2, .int s1.2.1)]) dX2_readNumber_17 (by decide) rfl ?_
    refine G_iload_n X dX2_readNumber_18 0 rfl ?_
    refine G_bipush X (v := 48) dX2_readNumber_19 (by decide) ?_
    refine G_icmp_lt X (tgt := 30) dX2_readNumber_21 (by decide) (fun h19 => ?_) (fun h19 => ?_)
    · have h20 := ifp h19 h18
      refine G_iload_n X dX2_readNumber_30 2 rfl ?_
      cases h20
      have h21 := h8 _ rfl
      subst h21
      have h22 := congrArg some (cnt_r h5)
      cases h22
      exact rt _ _ _ _ dX2_readNumber_31 ⟨rfl, rfl⟩
    · have h23 := ifn h19 h18
      refine G_iload_n X dX2_readNumber_24 0 rfl ?_
      refine G_bipush X (v := 57) dX2_readNumber_25 (by decide) ?_
      refine G_icmp_le X (tgt := 32) dX2_readNumber_27 (by decide) (fun h24 => ?_) (fun h24 => ?_)
      · have h25 := ifp h24 h23
        refine G_iload_n X dX2_readNumber_32 2 rfl ?_
        refine G_iconst X (v := 0) dX2_readNumber_33 (by decide) ?_
        refine G_max X dX2_readNumber_34 flX2_readNumber_m_max flX2_readNumber_s_max flX2_readNumber_im flX2_readNumber_c_max (Nat.le_of_ble_eq_true rfl) (Nat.le_of_ble_eq_true rfl) (Nat.zero_le _) (Nat.zero_le _) ?_
        refine G_bipush X (v := 10) dX2_readNumber_37 (by decide) ?_
        refine G_imul X dX2_readNumber_39 ?_
        refine G_iload_n X dX2_readNumber_40 0 rfl ?_
        refine G_iadd X dX2_readNumber_41 ?_
        refine G_bipush X (v := 48) dX2_readNumber_42 (by decide) ?_
        refine G_isub X dX2_readNumber_44 ?_
        refine G_istore_n X (lv' := [(1, .int ((((if s1.1 < 0 then 0 else s1.1) * 10) + v16) - 48)), (3, .int v16), (0, .ref h), (2, .int s1.2.1)]) dX2_readNumber_45 (by decide) rfl ?_
        refine G_aload_n X dX2_readNumber_46 2 rfl ?_
        refine G_dup X dX2_readNumber_47 rfl ?_
        refine G_get X (i0 := 0) (ci := 2) (j := 3) (C := RX2) (ref := RX2) (T := TX2) (N := 7) dX2_readNumber_48 rfl rfl hiX2_readNumber_X2 (by decide) flX2_readNumber_22 rfl rfl ?_
        refine G_iconst X (v := 1) dX2_readNumber_51 (by decide) ?_
        refine G_iadd X dX2_readNumber_52 ?_
        refine G_put X (i0 := 0) (ci := 2) (j := 3) (C := RX2) (ref := RX2) (T := TX2) (N := 7) (ty := .int) (ws' := [(h, .inr (2, [.ref h_signs, .ref h_numbers, .int i_h_length, .int (s1.2.2 + 1), .int i_h_faultPosition, .int i_h_faultReason, .int i_h_faultCause])), (h_signs, .inl (cI, 60, .inl f_h_signs))]) tyX2 dX2_readNumber_53 rfl rfl hiX2_readNumber_X2 tyX2_ok nmX2 (by decide) flX2_readNumber_22 rfl rfl rfl rfl rfl (Nat.le_of_ble_eq_true rfl) rfl ?_
        refine G_iinc X (v := (s1.2.1 + 1)) (lv' := [(2, .int (s1.2.1 + 1)), (1, .int ((((if s1.1 < 0 then 0 else s1.1) * 10) + v16) - 48)), (3, .int v16), (0, .ref h)]) dX2_readNumber_56 3 rfl rfl (by decide) rfl ?_
        refine G_goto X (tgt := 4) dX2_readNumber_59 (by decide) ?_
        cases h25
        exact G_lv [3, 1, 0] rfl (h7 _ rfl)
      · have h26 := ifn h24 h23
        refine G_iload_n X dX2_readNumber_30 2 rfl ?_
        cases h26
        have h27 := h8 _ rfl
        subst h27
        have h28 := congrArg some (cnt_r h5)
        cases h28
        exact rt _ _ _ _ dX2_readNumber_31 ⟨rfl, rfl⟩
def rmX2_readOrder : Room := { frames := 2, cells := 0, slots := 0, locals := 113 }
theorem pkX2_readOrder : cK yX2_readOrder wsX2_readOrder cX2_readOrder 5 (some .boolean) 0 RX2 := ⟨⟨_, rfl⟩, by decide +kernel⟩
theorem hiX2_readOrder_X2 : ∀ w ∈ wsX20, w ∈ wsX2_readOrder := by decide +kernel
theorem flX2_readOrder_22 : Cond.fieldLink RX2 22 "EchoMargins$Orders" "at" "I" ∈ wsX2_readOrder := by decide +kernel
theorem flX2_readOrder_15 : Cond.fieldLink RX2 15 "EchoMargins$Orders" "numbers" "[I" ∈ wsX2_readOrder := by decide +kernel
set_option maxHeartbeats 4000000 in
set_option maxRecDepth 100000 in
theorem kkX2_readOrder (l : Launch) (D : va_G) (cI cR : ClassId) (h h_signs h_numbers : Nat) (i_h_length : Int32) (i_h_at : Int32) (i_h_faultPosition : Int32) (i_h_faultReason : Int32) (i_h_faultCause : Int32) (f_h_signs : Nat → Int32) (f_h_numbers : Nat → Int32) (z : (Int32 × Int32 × (Nat → Int32))) (hz : MX2_readOrder i_h_length i_h_at f_h_signs f_h_numbers = some z) : cI1 l yX2_readOrder wsX2_readOrder rmX2_readOrder D cI cR [.ref h] [(h, .inr (2, [.ref h_signs, .ref h_numbers, .int i_h_length, .int i_h_at, .int i_h_faultPosition, .int i_h_faultReason, .int i_h_faultCause])), (h_signs, .inl (cI, 60, .inl f_h_signs)), (h_numbers, .inl (cI, 3, .inl f_h_numbers))] z.1 [(h, .inr (2, [.ref h_signs, .ref h_numbers, .int i_h_length, .int z.2.1, .int i_h_faultPosition, .int i_h_faultReason, .int i_h_faultCause])), (h_signs, .inl (cI, 60, .inl f_h_signs)), (h_numbers, .inl (cI, 3, .inl z.2.2))] := by
  unfold MX2_readOrder at hz
  refine kZ_of (cc := cX2_readOrder) (maxL := 5) (own := RX2) (by decide +kernel) rfl rfl (Nat.le_of_ble_eq_true rfl) (lv0 := [(0, .ref h)]) rfl (fun p e s m args below meth c A Q X rt => ?_)
  refine G_aload_n X dX2_readOrder_0 0 rfl ?_
  refine G_aload_n X dX2_readOrder_1 0 rfl ?_
  refine G_get X (i0 := 0) (ci := 2) (j := 3) (C := RX2) (ref := RX2) (T := TX2) (N := 7) dX2_readOrder_2 rfl rfl hiX2_readOrder_X2 (by decide) flX2_readOrder_22 rfl rfl ?_
  obtain ⟨v1, h2, h3⟩ := bnd hz
  refine G1_calli X (As := [.int i_h_at]) (rest := []) (wr := [(h_numbers, .inl (cI, 3, .inl f_h_numbers))]) (ws' := [(h, .inr (2, [.ref h_signs, .ref h_numbers, .int i_h_length, .int i_h_at, .int i_h_faultPosition, .int i_h_faultReason, .int i_h_faultCause])), (h_signs, .inl (cI, 60, .inl f_h_signs)), (h_numbers, .inl (cI, 3, .inl f_h_numbers))]) dX2_readOrder_5 pkX2_signAt gX2_readOrder_X2_signAt (kkX2_signAt l D cI cR h h_signs h_numbers i_h_length i_h_at i_h_faultPosition i_h_faultReason i_h_faultCause f_h_signs i_h_at v1 h2) ⟨rfl, rfl⟩ ⟨Nat.le_of_ble_eq_true rfl, Nat.le_of_ble_eq_true rfl⟩ rfl rfl (Nat.le_of_ble_eq_true rfl) 0 rfl rfl [0, 1] [2] rfl rfl ⟨rfl, rfl, by decide⟩ ⟨Nat.zero_le _, Nat.zero_le _⟩ [1, 2, 0] rfl rfl ?_
  obtain ⟨v4, h5, h6⟩ := bnd h3
  refine G1_callsi X (As := [.int v1]) (rest := []) (wr := [(h, .inr (2, [.ref h_signs, .ref h_numbers, .int i_h_length, .int i_h_at, .int i_h_faultPosition, .int i_h_faultReason, .int i_h_faultCause])), (h_signs, .inl (cI, 60, .inl f_h_signs)), (h_numbers, .inl (cI, 3, .inl f_h_numbers))]) (ws' := [(h, .inr (2, [.ref h_signs, .ref h_numbers, .int i_h_length, .int i_h_at, .int i_h_faultPosition, .int i_h_faultReason, .int i_h_faultCause])), (h_signs, .inl (cI, 60, .inl f_h_signs)), (h_numbers, .inl (cI, 3, .inl f_h_numbers))]) dX2_readOrder_8 pkX2_numbersOf gX2_readOrder_X2_numbersOf (kkX2_numbersOf l D cI cR v1 v4 h5) ⟨rfl, rfl⟩ ⟨Nat.le_of_ble_eq_true rfl, Nat.le_of_ble_eq_true rfl⟩ rfl rfl (Nat.le_of_ble_eq_true rfl) [] [0, 1, 2] rfl rfl ⟨rfl, rfl, by decide⟩ ⟨Nat.zero_le _, Nat.zero_le _⟩ [0, 1, 2] rfl rfl ?_
  refine G_istore_n X (lv' := [(1, .int v4), (0, .ref h)]) dX2_readOrder_11 (by decide) rfl ?_
  refine G_iload_n X dX2_readOrder_12 0 rfl ?_
  refine G_if_ne X (tgt := 18) dX2_readOrder_13 (by decide) (fun h7 => ?_) (fun h7 => ?_)
  · have h8 := ifp h7 h6
    refine G_iconst X (v := 0) dX2_readOrder_16 (by decide) ?_
    cases h8
    exact rt _ _ _ _ dX2_readOrder_17 rfl ⟨rfl, rfl⟩
  · have h9 := ifn h7 h6
    refine G_aload_n X dX2_readOrder_18 1 rfl ?_
    refine G_dup X dX2_readOrder_19 rfl ?_
    refine G_get X (i0 := 0) (ci := 2) (j := 3) (C := RX2) (ref := RX2) (T := TX2) (N := 7) dX2_readOrder_20 rfl rfl hiX2_readOrder_X2 (by decide) flX2_readOrder_22 rfl rfl ?_
    refine G_iconst X (v := 1) dX2_readOrder_23 (by decide) ?_
    refine G_iadd X dX2_readOrder_24 ?_
    refine G_put X (i0 := 0) (ci := 2) (j := 3) (C := RX2) (ref := RX2) (T := TX2) (N := 7) (ty := .int) (ws' := [(h, .inr (2, [.ref h_signs, .ref h_numbers, .int i_h_length, .int (i_h_at + 1), .int i_h_faultPosition, .int i_h_faultReason, .int i_h_faultCause])), (h_signs, .inl (cI, 60, .inl f_h_signs)), (h_numbers, .inl (cI, 3, .inl f_h_numbers))]) tyX2 dX2_readOrder_25 rfl rfl hiX2_readOrder_X2 tyX2_ok nmX2 (by decide) flX2_readOrder_22 rfl rfl rfl rfl rfl (Nat.le_of_ble_eq_true rfl) rfl ?_
    refine G_iconst X (v := 0) dX2_readOrder_28 (by decide) ?_
    refine G_istore_n X (lv' := [(2, .int 0), (1, .int v4), (0, .ref h)]) dX2_readOrder_29 (by decide) rfl ?_
    obtain ⟨w12, h13, h14⟩ := bnd h9
    have J19 : ∀ j11, w12 = .inl j11 → G p l e rmX2_readOrder s m args below meth c D A 5 Q 0 0 103 [] [] [(h, .inr (2, [.ref h_signs, .ref h_numbers, .int i_h_length, .int j11.1, .int i_h_faultPosition, .int i_h_faultReason, .int i_h_faultCause])), (h_signs, .inl (cI, 60, .inl f_h_signs)), (h_numbers, .inl (cI, 3, .inl j11.2))] := by
      intro j11 q
      subst q
      have h20 := cnt_l h14
      refine G_iconst X (v := 1) dX2_readOrder_103 (by decide) ?_
      cases h20
      exact rt _ _ _ _ dX2_readOrder_104 rfl ⟨rfl, rfl⟩
    refine G_lv [2, 1, 0] rfl ?_
    refine itr_ind (P := fun s10 : (Int32 × Int32 × (Nat → Int32)) => G p l e rmX2_readOrder s m args below meth c D A 5 Q 0 0 30 [(0, .ref h), (1, .int v4), (2, .int s10.1)] [] [(h, .inr (2, [.ref h_signs, .ref h_numbers, .int i_h_length, .int s10.2.1, .int i_h_faultPosition, .int i_h_faultReason, .int i_h_faultCause])), (h_signs, .inl (cI, 60, .inl f_h_signs)), (h_numbers, .inl (cI, 3, .inl s10.2.2))]) (fun s10 o18 h15 h16 h17 => ?_) FU _ h13
    unfold SX2_readOrder_30 at h15
    refine G_iload_n X dX2_readOrder_30 2 rfl ?_
    refine G_iload_n X dX2_readOrder_31 1 rfl ?_
    refine G_icmp_ge X (tgt := 103) dX2_readOrder_32 (by decide) (fun h21 => ?_) (fun h21 => ?_)
    · have h22 := ifp h21 h15
      cases h22
      have h23 := h17 _ rfl
      subst h23
      exact G_lv [] rfl (J19 _ rfl)
    · have h24 := ifn h21 h15
      refine G_iload_n X dX2_readOrder_35 2 rfl ?_
      refine G_iconst X (v := 3) dX2_readOrder_36 (by decide) ?_
      refine G_icmp_ge X (tgt := 103) dX2_readOrder_37 (by decide) (fun h25 => ?_) (fun h25 => ?_)
      · have h26 := ifp h25 h24
        cases h26
        have h27 := h17 _ rfl
        subst h27
        exact G_lv [] rfl (J19 _ rfl)
      · have h28 := ifn h25 h24
        refine G_aload_n X dX2_readOrder_40 0 rfl ?_
        obtain ⟨v29, h30, h31⟩ := bnd h28
        refine G1_calli X (As := []) (rest := []) (wr := [(h_numbers, .inl (cI, 3, .inl s10.2.2))]) (ws' := [(h, .inr (2, [.ref h_signs, .ref h_numbers, .int i_h_length, .int v29.2, .int i_h_faultPosition, .int i_h_faultReason, .int i_h_faultCause])), (h_signs, .inl (cI, 60, .inl f_h_signs)), (h_numbers, .inl (cI, 3, .inl s10.2.2))]) dX2_readOrder_41 pkX2_readNumber gX2_readOrder_X2_readNumber (kkX2_readNumber l D cI cR h h_signs h_numbers i_h_length s10.2.1 i_h_faultPosition i_h_faultReason i_h_faultCause f_h_signs v29 h30) ⟨rfl, rfl⟩ ⟨Nat.le_of_ble_eq_true rfl, Nat.le_of_ble_eq_true rfl⟩ rfl rfl (Nat.le_of_ble_eq_true rfl) 0 rfl rfl [0, 1] [2] rfl rfl ⟨rfl, rfl, by decide⟩ ⟨Nat.zero_le _, Nat.zero_le _⟩ [1, 2, 0] rfl rfl ?_
        refine G_istore_n X (lv' := [(3, .int v29.1), (0, .ref h), (1, .int v4), (2, .int s10.1)]) dX2_readOrder_44 (by decide) rfl ?_
        refine G_iload_n X dX2_readOrder_45 3 rfl ?_
        refine G_iconst X (v := 1) dX2_readOrder_46 (by decide) ?_
        refine G_iadd X dX2_readOrder_47 ?_
        refine G_iload_n X dX2_readOrder_48 2 rfl ?_
        refine G_icmp_ge X (tgt := 57) dX2_readOrder_49 (by decide) (fun h32 => ?_) (fun h32 => ?_)
        · have h33 := ifp h32 h31
          refine G_bipush X (v := 59) dX2_readOrder_57 (by decide) ?_
          refine G_istore X (lv' := [(4, .int 59), (3, .int v29.1), (0, .ref h), (1, .int v4), (2, .int s10.1)]) dX2_readOrder_59 (by decide) rfl ?_
          refine G_iload_n X dX2_readOrder_61 1 rfl ?_
          refine G_if_lt X (tgt := 78) dX2_readOrder_62 (by decide) (fun h34 => ?_) (fun h34 => ?_)
          · have h35 := ifp h34 h33
            refine G_iconst X (v := 0) dX2_readOrder_78 (by decide) ?_
            cases h35
            have h36 := h17 _ rfl
            subst h36
            have h37 := congrArg some (cnt_r h14)
            cases h37
            exact rt _ _ _ _ dX2_readOrder_79 rfl ⟨rfl, rfl⟩
          · have h38 := ifn h34 h33
            refine G_aload_n X dX2_readOrder_65 2 rfl ?_
            refine G_aload_n X dX2_readOrder_66 2 rfl ?_
            refine G_get X (i0 := 0) (ci := 2) (j := 3) (C := RX2) (ref := RX2) (T := TX2) (N := 7) dX2_readOrder_67 rfl rfl hiX2_readOrder_X2 (by decide) flX2_readOrder_22 rfl rfl ?_
            obtain ⟨v39, h40, h41⟩ := bnd h38
            refine G1_calli X (As := [.int v29.2]) (rest := []) (wr := [(h_numbers, .inl (cI, 3, .inl s10.2.2))]) (ws' := [(h, .inr (2, [.ref h_signs, .ref h_numbers, .int i_h_length, .int v29.2, .int i_h_faultPosition, .int i_h_faultReason, .int i_h_faultCause])), (h_signs, .inl (cI, 60, .inl f_h_signs)), (h_numbers, .inl (cI, 3, .inl s10.2.2))]) dX2_readOrder_70 pkX2_signAt gX2_readOrder_X2_signAt (kkX2_signAt l D cI cR h h_signs h_numbers i_h_length v29.2 i_h_faultPosition i_h_faultReason i_h_faultCause f_h_signs v29.2 v39 h40) ⟨rfl, rfl⟩ ⟨Nat.le_of_ble_eq_true rfl, Nat.le_of_ble_eq_true rfl⟩ rfl rfl (Nat.le_of_ble_eq_true rfl) 0 rfl rfl [0, 1] [2] rfl rfl ⟨rfl, rfl, by decide⟩ ⟨Nat.zero_le _, Nat.zero_le _⟩ [1, 2, 0] rfl rfl ?_
            refine G_iload X dX2_readOrder_73 0 rfl ?_
            refine G_icmp_eq X (tgt := 80) dX2_readOrder_75 (by decide) (fun h42 => ?_) (fun h42 => ?_)
            · have h43 := ifp h42 h41
              refine G_aload_n X dX2_readOrder_80 2 rfl ?_
              refine G_get X (i0 := 0) (ci := 2) (j := 1) (C := RX2) (ref := RX2) (T := TX2) (N := 7) dX2_readOrder_81 rfl rfl hiX2_readOrder_X2 (by decide) flX2_readOrder_15 rfl rfl ?_
              refine G_iload_n X dX2_readOrder_84 4 rfl ?_
              refine G_iload_n X dX2_readOrder_85 1 rfl ?_
              obtain ⟨g44, h45, h46⟩ := bnd h43
              refine G_iast X (i0 := 2) (ws' := [(h, .inr (2, [.ref h_signs, .ref h_numbers, .int i_h_length, .int v29.2, .int i_h_faultPosition, .int i_h_faultReason, .int i_h_faultCause])), (h_signs, .inl (cI, 60, .inl f_h_signs)), (h_numbers, .inl (cI, 3, .inl g44))]) dX2_readOrder_86 rfl h45 rfl ?_
              refine G_aload_n X dX2_readOrder_87 2 rfl ?_
              refine G_dup X dX2_readOrder_88 rfl ?_
              refine G_get X (i0 := 0) (ci := 2) (j := 3) (C := RX2) (ref := RX2) (T := TX2) (N := 7) dX2_readOrder_89 rfl rfl hiX2_readOrder_X2 (by decide) flX2_readOrder_22 rfl rfl ?_
              refine G_iconst X (v := 1) dX2_readOrder_92 (by decide) ?_
              refine G_iadd X dX2_readOrder_93 ?_
              refine G_put X (i0 := 0) (ci := 2) (j := 3) (C := RX2) (ref := RX2) (T := TX2) (N := 7) (ty := .int) (ws' := [(h, .inr (2, [.ref h_signs, .ref h_numbers, .int i_h_length, .int (v29.2 + 1), .int i_h_faultPosition, .int i_h_faultReason, .int i_h_faultCause])), (h_signs, .inl (cI, 60, .inl f_h_signs)), (h_numbers, .inl (cI, 3, .inl g44))]) tyX2 dX2_readOrder_94 rfl rfl hiX2_readOrder_X2 tyX2_ok nmX2 (by decide) flX2_readOrder_22 rfl rfl rfl rfl rfl (Nat.le_of_ble_eq_true rfl) rfl ?_
              refine G_iinc X (v := (s10.1 + 1)) (lv' := [(2, .int (s10.1 + 1)), (4, .int 59), (3, .int v29.1), (0, .ref h), (1, .int v4)]) dX2_readOrder_97 4 rfl rfl (by decide) rfl ?_
              refine G_goto X (tgt := 30) dX2_readOrder_100 (by decide) ?_
              cases h46
              exact G_lv [3, 4, 0] rfl (h16 _ rfl)
            · have h47 := ifn h42 h41
              refine G_iconst X (v := 0) dX2_readOrder_78 (by decide) ?_
              cases h47
              have h48 := h17 _ rfl
              subst h48
              have h49 := congrArg some (cnt_r h14)
              cases h49
              exact rt _ _ _ _ dX2_readOrder_79 rfl ⟨rfl, rfl⟩
        · have h50 := ifn h32 h31
          refine G_bipush X (v := 44) dX2_readOrder_52 (by decide) ?_
          refine G_goto X (tgt := 59) dX2_readOrder_54 (by decide) ?_
          refine G_istore X (lv' := [(4, .int 44), (3, .int v29.1), (0, .ref h), (1, .int v4), (2, .int s10.1)]) dX2_readOrder_59 (by decide) rfl ?_
          refine G_iload_n X dX2_readOrder_61 1 rfl ?_
          refine G_if_lt X (tgt := 78) dX2_readOrder_62 (by decide) (fun h51 => ?_) (fun h51 => ?_)
          · have h52 := ifp h51 h50
            refine G_iconst X (v := 0) dX2_readOrder_78 (by decide) ?_
            cases h52
            have h53 := h17 _ rfl
            subst h53
            have h54 := congrArg some (cnt_r h14)
            cases h54
            exact rt _ _ _ _ dX2_readOrder_79 rfl ⟨rfl, rfl⟩
          · have h55 := ifn h51 h50
            refine G_aload_n X dX2_readOrder_65 2 rfl ?_
            refine G_aload_n X dX2_readOrder_66 2 rfl ?_
            refine G_get X (i0 := 0) (ci := 2) (j := 3) (C := RX2) (ref := RX2) (T := TX2) (N := 7) dX2_readOrder_67 rfl rfl hiX2_readOrder_X2 (by decide) flX2_readOrder_22 rfl rfl ?_
            obtain ⟨v56, h57, h58⟩ := bnd h55
            refine G1_calli X (As := [.int v29.2]) (rest := []) (wr := [(h_numbers, .inl (cI, 3, .inl s10.2.2))]) (ws' := [(h, .inr (2, [.ref h_signs, .ref h_numbers, .int i_h_length, .int v29.2, .int i_h_faultPosition, .int i_h_faultReason, .int i_h_faultCause])), (h_signs, .inl (cI, 60, .inl f_h_signs)), (h_numbers, .inl (cI, 3, .inl s10.2.2))]) dX2_readOrder_70 pkX2_signAt gX2_readOrder_X2_signAt (kkX2_signAt l D cI cR h h_signs h_numbers i_h_length v29.2 i_h_faultPosition i_h_faultReason i_h_faultCause f_h_signs v29.2 v56 h57) ⟨rfl, rfl⟩ ⟨Nat.le_of_ble_eq_true rfl, Nat.le_of_ble_eq_true rfl⟩ rfl rfl (Nat.le_of_ble_eq_true rfl) 0 rfl rfl [0, 1] [2] rfl rfl ⟨rfl, rfl, by decide⟩ ⟨Nat.zero_le _, Nat.zero_le _⟩ [1, 2, 0] rfl rfl ?_
            refine G_iload X dX2_readOrder_73 0 rfl ?_
            refine G_icmp_eq X (tgt := 80) dX2_readOrder_75 (by decide) (fun h59 => ?_) (fun h59 => ?_)
            · have h60 := ifp h59 h58
              refine G_aload_n X dX2_readOrder_80 2 rfl ?_
              refine G_get X (i0 := 0) (ci := 2) (j := 1) (C := RX2) (ref := RX2) (T := TX2) (N := 7) dX2_readOrder_81 rfl rfl hiX2_readOrder_X2 (by decide) flX2_readOrder_15 rfl rfl ?_
              refine G_iload_n X dX2_readOrder_84 4 rfl ?_
              refine G_iload_n X dX2_readOrder_85 1 rfl ?_
              obtain ⟨g61, h62, h63⟩ := bnd h60
              refine G_iast X (i0 := 2) (ws' := [(h, .inr (2, [.ref h_signs, .ref h_numbers, .int i_h_length, .int v29.2, .int i_h_faultPosition, .int i_h_faultReason, .int i_h_faultCause])), (h_signs, .inl (cI, 60, .inl f_h_signs)), (h_numbers, .inl (cI, 3, .inl g61))]) dX2_readOrder_86 rfl h62 rfl ?_
              refine G_aload_n X dX2_readOrder_87 2 rfl ?_
              refine G_dup X dX2_readOrder_88 rfl ?_
              refine G_get X (i0 := 0) (ci := 2) (j := 3) (C := RX2) (ref := RX2) (T := TX2) (N := 7) dX2_readOrder_89 rfl rfl hiX2_readOrder_X2 (by decide) flX2_readOrder_22 rfl rfl ?_
              refine G_iconst X (v := 1) dX2_readOrder_92 (by decide) ?_
              refine G_iadd X dX2_readOrder_93 ?_
              refine G_put X (i0 := 0) (ci := 2) (j := 3) (C := RX2) (ref := RX2) (T := TX2) (N := 7) (ty := .int) (ws' := [(h, .inr (2, [.ref h_signs, .ref h_numbers, .int i_h_length, .int (v29.2 + 1), .int i_h_faultPosition, .int i_h_faultReason, .int i_h_faultCause])), (h_signs, .inl (cI, 60, .inl f_h_signs)), (h_numbers, .inl (cI, 3, .inl g61))]) tyX2 dX2_readOrder_94 rfl rfl hiX2_readOrder_X2 tyX2_ok nmX2 (by decide) flX2_readOrder_22 rfl rfl rfl rfl rfl (Nat.le_of_ble_eq_true rfl) rfl ?_
              refine G_iinc X (v := (s10.1 + 1)) (lv' := [(2, .int (s10.1 + 1)), (4, .int 44), (3, .int v29.1), (0, .ref h), (1, .int v4)]) dX2_readOrder_97 4 rfl rfl (by decide) rfl ?_
              refine G_goto X (tgt := 30) dX2_readOrder_100 (by decide) ?_
              cases h63
              exact G_lv [3, 4, 0] rfl (h16 _ rfl)
            · have h64 := ifn h59 h58
              refine G_iconst X (v := 0) dX2_readOrder_78 (by decide) ?_
              cases h64
              have h65 := h17 _ rfl
              subst h65
              have h66 := congrArg some (cnt_r h14)
              cases h66
              exact rt _ _ _ _ dX2_readOrder_79 rfl ⟨rfl, rfl⟩
def rmX2_foundFault : Room := { frames := 0, cells := 0, slots := 0, locals := 0 }
theorem pkX2_foundFault : cK yX2_foundFault wsX2_foundFault cX2_foundFault 4 (some .int) 3 RX2 := ⟨⟨_, rfl⟩, by decide +kernel⟩
theorem hiX2_foundFault_X2 : ∀ w ∈ wsX20, w ∈ wsX2_foundFault := by decide +kernel
theorem flX2_foundFault_25 : Cond.fieldLink RX2 25 "EchoMargins$Orders" "faultPosition" "I" ∈ wsX2_foundFault := by decide +kernel
theorem flX2_foundFault_28 : Cond.fieldLink RX2 28 "EchoMargins$Orders" "faultReason" "I" ∈ wsX2_foundFault := by decide +kernel
theorem flX2_foundFault_31 : Cond.fieldLink RX2 31 "EchoMargins$Orders" "faultCause" "I" ∈ wsX2_foundFault := by decide +kernel
set_option maxHeartbeats 4000000 in
set_option maxRecDepth 100000 in
theorem kkX2_foundFault (l : Launch) (D : va_G) (cI cR : ClassId) (h h_signs h_numbers : Nat) (i_h_length : Int32) (i_h_at : Int32) (i_h_faultPosition : Int32) (i_h_faultReason : Int32) (i_h_faultCause : Int32) (x0 : Int32) (x1 : Int32) (x2 : Int32) (z : (Int32 × Int32 × Int32 × Int32)) (hz : MX2_foundFault i_h_faultPosition i_h_faultReason i_h_faultCause x0 x1 x2 = some z) : cI1 l yX2_foundFault wsX2_foundFault rmX2_foundFault D cI cR [.ref h, .int x0, .int x1, .int x2] [(h, .inr (2, [.ref h_signs, .ref h_numbers, .int i_h_length, .int i_h_at, .int i_h_faultPosition, .int i_h_faultReason, .int i_h_faultCause]))] z.1 [(h, .inr (2, [.ref h_signs, .ref h_numbers, .int i_h_length, .int i_h_at, .int z.2.1, .int z.2.2.1, .int z.2.2.2]))] := by
  unfold MX2_foundFault at hz
  refine kI_of (cc := cX2_foundFault) (maxL := 4) (own := RX2) (by decide +kernel) rfl rfl (Nat.le_of_ble_eq_true rfl) (lv0 := [(0, .ref h), (1, .int x0), (2, .int x1), (3, .int x2)]) rfl (fun p e s m args below meth c A Q X rt => ?_)
  refine G_aload_n X dX2_foundFault_0 0 rfl ?_
  refine G_iload_n X dX2_foundFault_1 1 rfl ?_
  refine G_put X (i0 := 0) (ci := 2) (j := 4) (C := RX2) (ref := RX2) (T := TX2) (N := 7) (ty := .int) (ws' := [(h, .inr (2, [.ref h_signs, .ref h_numbers, .int i_h_length, .int i_h_at, .int x0, .int i_h_faultReason, .int i_h_faultCause]))]) tyX2 dX2_foundFault_2 rfl rfl hiX2_foundFault_X2 tyX2_ok nmX2 (by decide) flX2_foundFault_25 rfl rfl rfl rfl rfl (Nat.le_of_ble_eq_true rfl) rfl ?_
  refine G_aload_n X dX2_foundFault_5 0 rfl ?_
  refine G_iload_n X dX2_foundFault_6 2 rfl ?_
  refine G_put X (i0 := 0) (ci := 2) (j := 5) (C := RX2) (ref := RX2) (T := TX2) (N := 7) (ty := .int) (ws' := [(h, .inr (2, [.ref h_signs, .ref h_numbers, .int i_h_length, .int i_h_at, .int x0, .int x1, .int i_h_faultCause]))]) tyX2 dX2_foundFault_7 rfl rfl hiX2_foundFault_X2 tyX2_ok nmX2 (by decide) flX2_foundFault_28 rfl rfl rfl rfl rfl (Nat.le_of_ble_eq_true rfl) rfl ?_
  refine G_aload_n X dX2_foundFault_10 0 rfl ?_
  refine G_iload_n X dX2_foundFault_11 3 rfl ?_
  refine G_put X (i0 := 0) (ci := 2) (j := 6) (C := RX2) (ref := RX2) (T := TX2) (N := 7) (ty := .int) (ws' := [(h, .inr (2, [.ref h_signs, .ref h_numbers, .int i_h_length, .int i_h_at, .int x0, .int x1, .int x2]))]) tyX2 dX2_foundFault_12 rfl rfl hiX2_foundFault_X2 tyX2_ok nmX2 (by decide) flX2_foundFault_31 rfl rfl rfl rfl rfl (Nat.le_of_ble_eq_true rfl) rfl ?_
  refine G_iconst X (v := (-1)) dX2_foundFault_15 (by decide) ?_
  cases hz
  exact rt _ _ _ _ dX2_foundFault_16 ⟨rfl, rfl⟩
def rmX2_run : Room := { frames := 5, cells := 0, slots := 0, locals := 190 }
theorem pkX2_run : cK yX2_run wsX2_run cX2_run 5 (some .int) 1 RX2 := ⟨⟨_, rfl⟩, by decide +kernel⟩
theorem hiX2_run_X2 : ∀ w ∈ wsX20, w ∈ wsX2_run := by decide +kernel
theorem flX2_run_22 : Cond.fieldLink RX2 22 "EchoMargins$Orders" "at" "I" ∈ wsX2_run := by decide +kernel
theorem flX2_run_18 : Cond.fieldLink RX2 18 "EchoMargins$Orders" "length" "I" ∈ wsX2_run := by decide +kernel
theorem flX2_run_15 : Cond.fieldLink RX2 15 "EchoMargins$Orders" "numbers" "[I" ∈ wsX2_run := by decide +kernel
set_option maxHeartbeats 4000000 in
set_option maxRecDepth 100000 in
theorem kkX2_run (l : Launch) (D : va_G) (cI cR : ClassId) (h h_signs h_numbers a0 a0_numbers : Nat) (i_h_length : Int32) (i_h_at : Int32) (i_h_faultPosition : Int32) (i_h_faultReason : Int32) (i_h_faultCause : Int32) (f_h_signs : Nat → Int32) (f_h_numbers : Nat → Int32) (f_a0_numbers : Nat → Int32) (z : (Int32 × Int32 × Int32 × Int32 × Int32 × (Nat → Int32) × (Nat → Int32))) (hz : MX2_run i_h_length i_h_at i_h_faultPosition i_h_faultReason i_h_faultCause f_h_signs f_h_numbers f_a0_numbers = some z) : cI1 l yX2_run wsX2_run rmX2_run D cI cR [.ref h, .ref a0] [(h, .inr (2, [.ref h_signs, .ref h_numbers, .int i_h_length, .int i_h_at, .int i_h_faultPosition, .int i_h_faultReason, .int i_h_faultCause])), (h_signs, .inl (cI, 60, .inl f_h_signs)), (h_numbers, .inl (cI, 3, .inl f_h_numbers)), (a0, .inr (3, [.ref a0_numbers])), (a0_numbers, .inl (cI, 352, .inl f_a0_numbers))] z.1 [(h, .inr (2, [.ref h_signs, .ref h_numbers, .int i_h_length, .int z.2.1, .int z.2.2.1, .int z.2.2.2.1, .int z.2.2.2.2.1])), (h_signs, .inl (cI, 60, .inl f_h_signs)), (h_numbers, .inl (cI, 3, .inl z.2.2.2.2.2.1)), (a0, .inr (3, [.ref a0_numbers])), (a0_numbers, .inl (cI, 352, .inl z.2.2.2.2.2.2))] := by
  unfold MX2_run at hz
  refine kI_of (cc := cX2_run) (maxL := 5) (own := RX2) (by decide +kernel) rfl rfl (Nat.le_of_ble_eq_true rfl) (lv0 := [(0, .ref h), (1, .ref a0)]) rfl (fun p e s m args below meth c A Q X rt => ?_)
  refine G_aload_n X dX2_run_0 0 rfl ?_
  refine G_iconst X (v := 0) dX2_run_1 (by decide) ?_
  refine G_put X (i0 := 0) (ci := 2) (j := 3) (C := RX2) (ref := RX2) (T := TX2) (N := 7) (ty := .int) (ws' := [(h, .inr (2, [.ref h_signs, .ref h_numbers, .int i_h_length, .int 0, .int i_h_faultPosition, .int i_h_faultReason, .int i_h_faultCause])), (h_signs, .inl (cI, 60, .inl f_h_signs)), (h_numbers, .inl (cI, 3, .inl f_h_numbers)), (a0, .inr (3, [.ref a0_numbers])), (a0_numbers, .inl (cI, 352, .inl f_a0_numbers))]) tyX2 dX2_run_2 rfl rfl hiX2_run_X2 tyX2_ok nmX2 (by decide) flX2_run_22 rfl rfl rfl rfl rfl (Nat.le_of_ble_eq_true rfl) rfl ?_
  refine G_iconst X (v := 0) dX2_run_5 (by decide) ?_
  refine G_istore_n X (lv' := [(2, .int 0), (0, .ref h), (1, .ref a0)]) dX2_run_6 (by decide) rfl ?_
  obtain ⟨w3, h4, h5⟩ := bnd hz
  have J10 : ∀ j2, w3 = .inl j2 → G p l e rmX2_run s m args below meth c D A 5 Q 0 0 229 [(2, .int j2.1)] [] [(h, .inr (2, [.ref h_signs, .ref h_numbers, .int i_h_length, .int j2.2.1, .int i_h_faultPosition, .int i_h_faultReason, .int i_h_faultCause])), (h_signs, .inl (cI, 60, .inl f_h_signs)), (h_numbers, .inl (cI, 3, .inl j2.2.2.1)), (a0, .inr (3, [.ref a0_numbers])), (a0_numbers, .inl (cI, 352, .inl j2.2.2.2))] := by
    intro j2 q
    subst q
    have h11 := cnt_l h5
    refine G_iload_n X dX2_run_229 0 rfl ?_
    cases h11
    exact rt _ _ _ _ dX2_run_230 ⟨rfl, rfl⟩
  refine G_lv [1, 2, 0] rfl ?_
  refine itr_ind (P := fun s1 : (Int32 × Int32 × (Nat → Int32) × (Nat → Int32)) => G p l e rmX2_run s m args below meth c D A 5 Q 0 0 7 [(0, .ref h), (1, .ref a0), (2, .int s1.1)] [] [(h, .inr (2, [.ref h_signs, .ref h_numbers, .int i_h_length, .int s1.2.1, .int i_h_faultPosition, .int i_h_faultReason, .int i_h_faultCause])), (h_signs, .inl (cI, 60, .inl f_h_signs)), (h_numbers, .inl (cI, 3, .inl s1.2.2.1)), (a0, .inr (3, [.ref a0_numbers])), (a0_numbers, .inl (cI, 352, .inl s1.2.2.2))]) (fun s1 o9 h6 h7 h8 => ?_) FU _ h4
  unfold SX2_run_7 at h6
  refine G_aload_n X dX2_run_7 0 rfl ?_
  refine G_get X (i0 := 0) (ci := 2) (j := 3) (C := RX2) (ref := RX2) (T := TX2) (N := 7) dX2_run_8 rfl rfl hiX2_run_X2 (by decide) flX2_run_22 rfl rfl ?_
  refine G_aload_n X dX2_run_11 0 rfl ?_
  refine G_get X (i0 := 0) (ci := 2) (j := 2) (C := RX2) (ref := RX2) (T := TX2) (N := 7) dX2_run_12 rfl rfl hiX2_run_X2 (by decide) flX2_run_18 rfl rfl ?_
  refine G_icmp_ge X (tgt := 229) dX2_run_15 (by decide) (fun h12 => ?_) (fun h12 => ?_)
  · have h13 := ifp h12 h6
    cases h13
    have h14 := h8 _ rfl
    subst h14
    exact G_lv [2] rfl (J10 _ rfl)
  · have h15 := ifn h12 h6
    refine G_iload_n X dX2_run_18 2 rfl ?_
    refine G_bipush X (v := 60) dX2_run_19 (by decide) ?_
    refine G_icmp_ge X (tgt := 229) dX2_run_21 (by decide) (fun h16 => ?_) (fun h16 => ?_)
    · have h17 := ifp h16 h15
      cases h17
      have h18 := h8 _ rfl
      subst h18
      exact G_lv [2] rfl (J10 _ rfl)
    · have h19 := ifn h16 h15
      refine G_aload_n X dX2_run_24 0 rfl ?_
      refine G_get X (i0 := 0) (ci := 2) (j := 3) (C := RX2) (ref := RX2) (T := TX2) (N := 7) dX2_run_25 rfl rfl hiX2_run_X2 (by decide) flX2_run_22 rfl rfl ?_
      refine G_istore_n X (lv' := [(3, .int s1.2.1), (0, .ref h), (1, .ref a0), (2, .int s1.1)]) dX2_run_28 (by decide) rfl ?_
      refine G_aload_n X dX2_run_29 1 rfl ?_
      obtain ⟨v20, h21, h22⟩ := bnd h19
      refine G1_calli X (As := []) (rest := []) (wr := [(a0, .inr (3, [.ref a0_numbers])), (a0_numbers, .inl (cI, 352, .inl s1.2.2.2))]) (ws' := [(h, .inr (2, [.ref h_signs, .ref h_numbers, .int i_h_length, .int v20.2.1, .int i_h_faultPosition, .int i_h_faultReason, .int i_h_faultCause])), (h_signs, .inl (cI, 60, .inl f_h_signs)), (h_numbers, .inl (cI, 3, .inl v20.2.2)), (a0, .inr (3, [.ref a0_numbers])), (a0_numbers, .inl (cI, 352, .inl s1.2.2.2))]) dX2_run_30 pkX2_readOrder gX2_run_X2_readOrder (kkX2_readOrder l D cI cR h h_signs h_numbers i_h_length s1.2.1 i_h_faultPosition i_h_faultReason i_h_faultCause f_h_signs s1.2.2.1 v20 h21) ⟨rfl, rfl⟩ ⟨Nat.le_of_ble_eq_true rfl, Nat.le_of_ble_eq_true rfl⟩ rfl rfl (Nat.le_of_ble_eq_true rfl) 0 rfl rfl [0, 1, 2] [3, 4] rfl rfl ⟨rfl, rfl, by decide⟩ ⟨Nat.zero_le _, Nat.zero_le _⟩ [2, 3, 4, 0, 1] rfl rfl ?_
      refine G_if_ne X (tgt := 49) dX2_run_33 (by decide) (fun h23 => ?_) (fun h23 => ?_)
      · have h24 := ifp h23 h22
        refine G_aload_n X dX2_run_36 1 rfl ?_
        refine G_iload_n X dX2_run_37 0 rfl ?_
        refine G_iconst X (v := 1) dX2_run_38 (by decide) ?_
        refine G_aload_n X dX2_run_39 1 rfl ?_
        refine G_get X (i0 := 0) (ci := 2) (j := 3) (C := RX2) (ref := RX2) (T := TX2) (N := 7) dX2_run_40 rfl rfl hiX2_run_X2 (by decide) flX2_run_22 rfl rfl ?_
        refine G_iload_n X dX2_run_43 0 rfl ?_
        refine G_isub X dX2_run_44 ?_
        obtain ⟨v25, h26, h27⟩ := bnd h24
        refine G1_calli X (As := [.int s1.2.1, .int 1, .int (v20.2.1 - s1.2.1)]) (rest := []) (wr := [(h_signs, .inl (cI, 60, .inl f_h_signs)), (h_numbers, .inl (cI, 3, .inl v20.2.2)), (a0, .inr (3, [.ref a0_numbers])), (a0_numbers, .inl (cI, 352, .inl s1.2.2.2))]) (ws' := [(h, .inr (2, [.ref h_signs, .ref h_numbers, .int i_h_length, .int v20.2.1, .int v25.2.1, .int v25.2.2.1, .int v25.2.2.2])), (h_signs, .inl (cI, 60, .inl f_h_signs)), (h_numbers, .inl (cI, 3, .inl v20.2.2)), (a0, .inr (3, [.ref a0_numbers])), (a0_numbers, .inl (cI, 352, .inl s1.2.2.2))]) dX2_run_45 pkX2_foundFault gX2_run_X2_foundFault (kkX2_foundFault l D cI cR h h_signs h_numbers i_h_length v20.2.1 i_h_faultPosition i_h_faultReason i_h_faultCause s1.2.1 1 (v20.2.1 - s1.2.1) v25 h26) ⟨rfl, rfl⟩ ⟨Nat.le_of_ble_eq_true rfl, Nat.le_of_ble_eq_true rfl⟩ rfl rfl (Nat.le_of_ble_eq_true rfl) 0 rfl rfl [0] [1, 2, 3, 4] rfl rfl ⟨rfl, rfl, by decide⟩ ⟨Nat.zero_le _, Nat.zero_le _⟩ [4, 0, 1, 2, 3] rfl rfl ?_
        cases h27
        have h28 := h8 _ rfl
        subst h28
        have h29 := congrArg some (cnt_r h5)
        cases h29
        exact rt _ _ _ _ dX2_run_48 ⟨rfl, rfl⟩
      · have h30 := ifn h23 h22
        refine G_aload_n X dX2_run_49 1 rfl ?_
        refine G_iload_n X dX2_run_50 0 rfl ?_
        obtain ⟨v31, h32, h33⟩ := bnd h30
        refine G1_calli X (As := [.int s1.2.1]) (rest := []) (wr := [(h_numbers, .inl (cI, 3, .inl v20.2.2)), (a0, .inr (3, [.ref a0_numbers])), (a0_numbers, .inl (cI, 352, .inl s1.2.2.2))]) (ws' := [(h, .inr (2, [.ref h_signs, .ref h_numbers, .int i_h_length, .int v20.2.1, .int i_h_faultPosition, .int i_h_faultReason, .int i_h_faultCause])), (h_signs, .inl (cI, 60, .inl f_h_signs)), (h_numbers, .inl (cI, 3, .inl v20.2.2)), (a0, .inr (3, [.ref a0_numbers])), (a0_numbers, .inl (cI, 352, .inl s1.2.2.2))]) dX2_run_51 pkX2_signAt gX2_run_X2_signAt (kkX2_signAt l D cI cR h h_signs h_numbers i_h_length v20.2.1 i_h_faultPosition i_h_faultReason i_h_faultCause f_h_signs s1.2.1 v31 h32) ⟨rfl, rfl⟩ ⟨Nat.le_of_ble_eq_true rfl, Nat.le_of_ble_eq_true rfl⟩ rfl rfl (Nat.le_of_ble_eq_true rfl) 0 rfl rfl [0, 1] [2, 3, 4] rfl rfl ⟨rfl, rfl, by decide⟩ ⟨Nat.zero_le _, Nat.zero_le _⟩ [3, 4, 0, 1, 2] rfl rfl ?_
        by_cases h34 : v31 = 97
        · have h35 := ifp h34 h33
          refine G_lookup X (off := 128) (tgt := 182) dX2_run_54 (by decide) (by rw [h34]; decide) (by decide) ?_
          refine G_aload_n X dX2_run_182 2 rfl ?_
          refine G_aload_n X dX2_run_183 1 rfl ?_
          refine G_get X (i0 := 0) (ci := 2) (j := 1) (C := RX2) (ref := RX2) (T := TX2) (N := 7) dX2_run_184 rfl rfl hiX2_run_X2 (by decide) flX2_run_15 rfl rfl ?_
          refine G_iconst X (v := 0) dX2_run_187 (by decide) ?_
          obtain ⟨v37, h38, h39⟩ := bnd h35
          refine G_iald X (i0 := 2) dX2_run_188 rfl h38 ?_
          obtain ⟨v40, h41, h42⟩ := bnd h39
          refine G1_calli X (As := [.int v37]) (rest := []) (wr := [(h, .inr (2, [.ref h_signs, .ref h_numbers, .int i_h_length, .int v20.2.1, .int i_h_faultPosition, .int i_h_faultReason, .int i_h_faultCause])), (h_signs, .inl (cI, 60, .inl f_h_signs)), (h_numbers, .inl (cI, 3, .inl v20.2.2))]) (ws' := [(h, .inr (2, [.ref h_signs, .ref h_numbers, .int i_h_length, .int v20.2.1, .int i_h_faultPosition, .int i_h_faultReason, .int i_h_faultCause])), (h_signs, .inl (cI, 60, .inl f_h_signs)), (h_numbers, .inl (cI, 3, .inl v20.2.2)), (a0, .inr (3, [.ref a0_numbers])), (a0_numbers, .inl (cI, 352, .inl v40.2))]) dX2_run_189 pkX3_layAnew gX2_run_X3_layAnew (kkX3_layAnew l D cI cR a0 a0_numbers s1.2.2.2 v37 v40 h41) ⟨rfl, rfl⟩ ⟨Nat.le_of_ble_eq_true rfl, Nat.le_of_ble_eq_true rfl⟩ rfl rfl (Nat.le_of_ble_eq_true rfl) 0 rfl rfl [3, 4] [0, 1, 2] rfl rfl ⟨rfl, rfl, by decide⟩ ⟨Nat.zero_le _, Nat.zero_le _⟩ [0, 1, 2, 3, 4] rfl rfl ?_
          refine G_istore X (lv' := [(4, .int v40.1), (3, .int s1.2.1), (0, .ref h), (1, .ref a0), (2, .int s1.1)]) dX2_run_192 (by decide) rfl ?_
          refine G_goto X (tgt := 209) dX2_run_194 (by decide) ?_
          refine G_iload X dX2_run_209 0 rfl ?_
          refine G_if_ge X (tgt := 223) dX2_run_211 (by decide) (fun h43 => ?_) (fun h43 => ?_)
          · have h44 := ifp h43 h42
            refine G_iinc X (v := (s1.1 + 1)) (lv' := [(2, .int (s1.1 + 1)), (4, .int v40.1), (3, .int s1.2.1), (0, .ref h), (1, .ref a0)]) dX2_run_223 4 rfl rfl (by decide) rfl ?_
            refine G_goto X (tgt := 7) dX2_run_226 (by decide) ?_
            cases h44
            exact G_lv [3, 4, 0] rfl (h7 _ rfl)
          · have h45 := ifn h43 h42
            refine G_aload_n X dX2_run_214 2 rfl ?_
            refine G_iload_n X dX2_run_215 1 rfl ?_
            refine G_iconst X (v := 2) dX2_run_216 (by decide) ?_
            refine G_iload X dX2_run_217 0 rfl ?_
            obtain ⟨v46, h47, h48⟩ := bnd h45
            refine G1_calli X (As := [.int s1.2.1, .int 2, .int v40.1]) (rest := []) (wr := [(h_signs, .inl (cI, 60, .inl f_h_signs)), (h_numbers, .inl (cI, 3, .inl v20.2.2)), (a0, .inr (3, [.ref a0_numbers])), (a0_numbers, .inl (cI, 352, .inl v40.2))]) (ws' := [(h, .inr (2, [.ref h_signs, .ref h_numbers, .int i_h_length, .int v20.2.1, .int v46.2.1, .int v46.2.2.1, .int v46.2.2.2])), (h_signs, .inl (cI, 60, .inl f_h_signs)), (h_numbers, .inl (cI, 3, .inl v20.2.2)), (a0, .inr (3, [.ref a0_numbers])), (a0_numbers, .inl (cI, 352, .inl v40.2))]) dX2_run_219 pkX2_foundFault gX2_run_X2_foundFault (kkX2_foundFault l D cI cR h h_signs h_numbers i_h_length v20.2.1 i_h_faultPosition i_h_faultReason i_h_faultCause s1.2.1 2 v40.1 v46 h47) ⟨rfl, rfl⟩ ⟨Nat.le_of_ble_eq_true rfl, Nat.le_of_ble_eq_true rfl⟩ rfl rfl (Nat.le_of_ble_eq_true rfl) 0 rfl rfl [0] [1, 2, 3, 4] rfl rfl ⟨rfl, rfl, by decide⟩ ⟨Nat.zero_le _, Nat.zero_le _⟩ [4, 0, 1, 2, 3] rfl rfl ?_
            cases h48
            have h49 := h8 _ rfl
            subst h49
            have h50 := congrArg some (cnt_r h5)
            cases h50
            exact rt _ _ _ _ dX2_run_222 ⟨rfl, rfl⟩
        · have h36 := ifn h34 h33
          by_cases h51 : v31 = 108
          · have h52 := ifp h51 h36
            refine G_lookup X (off := 77) (tgt := 131) dX2_run_54 (by decide) (by rw [h51]; decide) (by decide) ?_
            refine G_aload_n X dX2_run_131 2 rfl ?_
            refine G_aload_n X dX2_run_132 1 rfl ?_
            refine G_get X (i0 := 0) (ci := 2) (j := 1) (C := RX2) (ref := RX2) (T := TX2) (N := 7) dX2_run_133 rfl rfl hiX2_run_X2 (by decide) flX2_run_15 rfl rfl ?_
            refine G_iconst X (v := 0) dX2_run_136 (by decide) ?_
            obtain ⟨v54, h55, h56⟩ := bnd h52
            refine G_iald X (i0 := 2) dX2_run_137 rfl h55 ?_
            obtain ⟨v57, h58, h59⟩ := bnd h56
            refine G1_calli X (As := [.int v54]) (rest := []) (wr := [(h, .inr (2, [.ref h_signs, .ref h_numbers, .int i_h_length, .int v20.2.1, .int i_h_faultPosition, .int i_h_faultReason, .int i_h_faultCause])), (h_signs, .inl (cI, 60, .inl f_h_signs)), (h_numbers, .inl (cI, 3, .inl v20.2.2))]) (ws' := [(h, .inr (2, [.ref h_signs, .ref h_numbers, .int i_h_length, .int v20.2.1, .int i_h_faultPosition, .int i_h_faultReason, .int i_h_faultCause])), (h_signs, .inl (cI, 60, .inl f_h_signs)), (h_numbers, .inl (cI, 3, .inl v20.2.2)), (a0, .inr (3, [.ref a0_numbers])), (a0_numbers, .inl (cI, 352, .inl v57.2))]) dX2_run_138 pkX3_loseRow gX2_run_X3_loseRow (kkX3_loseRow l D cI cR a0 a0_numbers s1.2.2.2 v54 v57 h58) ⟨rfl, rfl⟩ ⟨Nat.le_of_ble_eq_true rfl, Nat.le_of_ble_eq_true rfl⟩ rfl rfl (Nat.le_of_ble_eq_true rfl) 0 rfl rfl [3, 4] [0, 1, 2] rfl rfl ⟨rfl, rfl, by decide⟩ ⟨Nat.zero_le _, Nat.zero_le _⟩ [0, 1, 2, 3, 4] rfl rfl ?_
            refine G_istore X (lv' := [(4, .int v57.1), (3, .int s1.2.1), (0, .ref h), (1, .ref a0), (2, .int s1.1)]) dX2_run_141 (by decide) rfl ?_
            refine G_goto X (tgt := 209) dX2_run_143 (by decide) ?_
            refine G_iload X dX2_run_209 0 rfl ?_
            refine G_if_ge X (tgt := 223) dX2_run_211 (by decide) (fun h60 => ?_) (fun h60 => ?_)
            · have h61 := ifp h60 h59
              refine G_iinc X (v := (s1.1 + 1)) (lv' := [(2, .int (s1.1 + 1)), (4, .int v57.1), (3, .int s1.2.1), (0, .ref h), (1, .ref a0)]) dX2_run_223 4 rfl rfl (by decide) rfl ?_
              refine G_goto X (tgt := 7) dX2_run_226 (by decide) ?_
              cases h61
              exact G_lv [3, 4, 0] rfl (h7 _ rfl)
            · have h62 := ifn h60 h59
              refine G_aload_n X dX2_run_214 2 rfl ?_
              refine G_iload_n X dX2_run_215 1 rfl ?_
              refine G_iconst X (v := 2) dX2_run_216 (by decide) ?_
              refine G_iload X dX2_run_217 0 rfl ?_
              obtain ⟨v63, h64, h65⟩ := bnd h62
              refine G1_calli X (As := [.int s1.2.1, .int 2, .int v57.1]) (rest := []) (wr := [(h_signs, .inl (cI, 60, .inl f_h_signs)), (h_numbers, .inl (cI, 3, .inl v20.2.2)), (a0, .inr (3, [.ref a0_numbers])), (a0_numbers, .inl (cI, 352, .inl v57.2))]) (ws' := [(h, .inr (2, [.ref h_signs, .ref h_numbers, .int i_h_length, .int v20.2.1, .int v63.2.1, .int v63.2.2.1, .int v63.2.2.2])), (h_signs, .inl (cI, 60, .inl f_h_signs)), (h_numbers, .inl (cI, 3, .inl v20.2.2)), (a0, .inr (3, [.ref a0_numbers])), (a0_numbers, .inl (cI, 352, .inl v57.2))]) dX2_run_219 pkX2_foundFault gX2_run_X2_foundFault (kkX2_foundFault l D cI cR h h_signs h_numbers i_h_length v20.2.1 i_h_faultPosition i_h_faultReason i_h_faultCause s1.2.1 2 v57.1 v63 h64) ⟨rfl, rfl⟩ ⟨Nat.le_of_ble_eq_true rfl, Nat.le_of_ble_eq_true rfl⟩ rfl rfl (Nat.le_of_ble_eq_true rfl) 0 rfl rfl [0] [1, 2, 3, 4] rfl rfl ⟨rfl, rfl, by decide⟩ ⟨Nat.zero_le _, Nat.zero_le _⟩ [4, 0, 1, 2, 3] rfl rfl ?_
              cases h65
              have h66 := h8 _ rfl
              subst h66
              have h67 := congrArg some (cnt_r h5)
              cases h67
              exact rt _ _ _ _ dX2_run_222 ⟨rfl, rfl⟩
          · have h53 := ifn h51 h36
            by_cases h68 : v31 = 109
            · have h69 := ifp h68 h53
              refine G_lookup X (off := 92) (tgt := 146) dX2_run_54 (by decide) (by rw [h68]; decide) (by decide) ?_
              refine G_aload_n X dX2_run_146 2 rfl ?_
              refine G_aload_n X dX2_run_147 1 rfl ?_
              refine G_get X (i0 := 0) (ci := 2) (j := 1) (C := RX2) (ref := RX2) (T := TX2) (N := 7) dX2_run_148 rfl rfl hiX2_run_X2 (by decide) flX2_run_15 rfl rfl ?_
              refine G_iconst X (v := 0) dX2_run_151 (by decide) ?_
              obtain ⟨v71, h72, h73⟩ := bnd h69
              refine G_iald X (i0 := 2) dX2_run_152 rfl h72 ?_
              obtain ⟨v74, h75, h76⟩ := bnd h73
              refine G1_calli X (As := [.int v71]) (rest := []) (wr := [(h, .inr (2, [.ref h_signs, .ref h_numbers, .int i_h_length, .int v20.2.1, .int i_h_faultPosition, .int i_h_faultReason, .int i_h_faultCause])), (h_signs, .inl (cI, 60, .inl f_h_signs)), (h_numbers, .inl (cI, 3, .inl v20.2.2))]) (ws' := [(h, .inr (2, [.ref h_signs, .ref h_numbers, .int i_h_length, .int v20.2.1, .int i_h_faultPosition, .int i_h_faultReason, .int i_h_faultCause])), (h_signs, .inl (cI, 60, .inl f_h_signs)), (h_numbers, .inl (cI, 3, .inl v20.2.2)), (a0, .inr (3, [.ref a0_numbers])), (a0_numbers, .inl (cI, 352, .inl v74.2))]) dX2_run_153 pkX3_mendRow gX2_run_X3_mendRow (kkX3_mendRow l D cI cR a0 a0_numbers s1.2.2.2 v71 v74 h75) ⟨rfl, rfl⟩ ⟨Nat.le_of_ble_eq_true rfl, Nat.le_of_ble_eq_true rfl⟩ rfl rfl (Nat.le_of_ble_eq_true rfl) 0 rfl rfl [3, 4] [0, 1, 2] rfl rfl ⟨rfl, rfl, by decide⟩ ⟨Nat.zero_le _, Nat.zero_le _⟩ [0, 1, 2, 3, 4] rfl rfl ?_
              refine G_istore X (lv' := [(4, .int v74.1), (3, .int s1.2.1), (0, .ref h), (1, .ref a0), (2, .int s1.1)]) dX2_run_156 (by decide) rfl ?_
              refine G_goto X (tgt := 209) dX2_run_158 (by decide) ?_
              refine G_iload X dX2_run_209 0 rfl ?_
              refine G_if_ge X (tgt := 223) dX2_run_211 (by decide) (fun h77 => ?_) (fun h77 => ?_)
              · have h78 := ifp h77 h76
                refine G_iinc X (v := (s1.1 + 1)) (lv' := [(2, .int (s1.1 + 1)), (4, .int v74.1), (3, .int s1.2.1), (0, .ref h), (1, .ref a0)]) dX2_run_223 4 rfl rfl (by decide) rfl ?_
                refine G_goto X (tgt := 7) dX2_run_226 (by decide) ?_
                cases h78
                exact G_lv [3, 4, 0] rfl (h7 _ rfl)
              · have h79 := ifn h77 h76
                refine G_aload_n X dX2_run_214 2 rfl ?_
                refine G_iload_n X dX2_run_215 1 rfl ?_
                refine G_iconst X (v := 2) dX2_run_216 (by decide) ?_
                refine G_iload X dX2_run_217 0 rfl ?_
                obtain ⟨v80, h81, h82⟩ := bnd h79
                refine G1_calli X (As := [.int s1.2.1, .int 2, .int v74.1]) (rest := []) (wr := [(h_signs, .inl (cI, 60, .inl f_h_signs)), (h_numbers, .inl (cI, 3, .inl v20.2.2)), (a0, .inr (3, [.ref a0_numbers])), (a0_numbers, .inl (cI, 352, .inl v74.2))]) (ws' := [(h, .inr (2, [.ref h_signs, .ref h_numbers, .int i_h_length, .int v20.2.1, .int v80.2.1, .int v80.2.2.1, .int v80.2.2.2])), (h_signs, .inl (cI, 60, .inl f_h_signs)), (h_numbers, .inl (cI, 3, .inl v20.2.2)), (a0, .inr (3, [.ref a0_numbers])), (a0_numbers, .inl (cI, 352, .inl v74.2))]) dX2_run_219 pkX2_foundFault gX2_run_X2_foundFault (kkX2_foundFault l D cI cR h h_signs h_numbers i_h_length v20.2.1 i_h_faultPosition i_h_faultReason i_h_faultCause s1.2.1 2 v74.1 v80 h81) ⟨rfl, rfl⟩ ⟨Nat.le_of_ble_eq_true rfl, Nat.le_of_ble_eq_true rfl⟩ rfl rfl (Nat.le_of_ble_eq_true rfl) 0 rfl rfl [0] [1, 2, 3, 4] rfl rfl ⟨rfl, rfl, by decide⟩ ⟨Nat.zero_le _, Nat.zero_le _⟩ [4, 0, 1, 2, 3] rfl rfl ?_
                cases h82
                have h83 := h8 _ rfl
                subst h83
                have h84 := congrArg some (cnt_r h5)
                cases h84
                exact rt _ _ _ _ dX2_run_222 ⟨rfl, rfl⟩
            · have h70 := ifn h68 h53
              by_cases h85 : v31 = 115
              · have h86 := ifp h85 h70
                refine G_lookup X (off := 107) (tgt := 161) dX2_run_54 (by decide) (by rw [h85]; decide) (by decide) ?_
                refine G_aload_n X dX2_run_161 2 rfl ?_
                refine G_aload_n X dX2_run_162 1 rfl ?_
                refine G_get X (i0 := 0) (ci := 2) (j := 1) (C := RX2) (ref := RX2) (T := TX2) (N := 7) dX2_run_163 rfl rfl hiX2_run_X2 (by decide) flX2_run_15 rfl rfl ?_
                refine G_iconst X (v := 0) dX2_run_166 (by decide) ?_
                obtain ⟨v88, h89, h90⟩ := bnd h86
                refine G_iald X (i0 := 2) dX2_run_167 rfl h89 ?_
                refine G_aload_n X dX2_run_168 1 rfl ?_
                refine G_get X (i0 := 0) (ci := 2) (j := 1) (C := RX2) (ref := RX2) (T := TX2) (N := 7) dX2_run_169 rfl rfl hiX2_run_X2 (by decide) flX2_run_15 rfl rfl ?_
                refine G_iconst X (v := 1) dX2_run_172 (by decide) ?_
                obtain ⟨v91, h92, h93⟩ := bnd h90
                refine G_iald X (i0 := 2) dX2_run_173 rfl h92 ?_
                obtain ⟨v94, h95, h96⟩ := bnd h93
                refine G1_calli X (As := [.int v88, .int v91]) (rest := []) (wr := [(h, .inr (2, [.ref h_signs, .ref h_numbers, .int i_h_length, .int v20.2.1, .int i_h_faultPosition, .int i_h_faultReason, .int i_h_faultCause])), (h_signs, .inl (cI, 60, .inl f_h_signs)), (h_numbers, .inl (cI, 3, .inl v20.2.2))]) (ws' := [(h, .inr (2, [.ref h_signs, .ref h_numbers, .int i_h_length, .int v20.2.1, .int i_h_faultPosition, .int i_h_faultReason, .int i_h_faultCause])), (h_signs, .inl (cI, 60, .inl f_h_signs)), (h_numbers, .inl (cI, 3, .inl v20.2.2)), (a0, .inr (3, [.ref a0_numbers])), (a0_numbers, .inl (cI, 352, .inl v94.2))]) dX2_run_174 pkX3_swapRows gX2_run_X3_swapRows (kkX3_swapRows l D cI cR a0 a0_numbers s1.2.2.2 v88 v91 v94 h95) ⟨rfl, rfl⟩ ⟨Nat.le_of_ble_eq_true rfl, Nat.le_of_ble_eq_true rfl⟩ rfl rfl (Nat.le_of_ble_eq_true rfl) 0 rfl rfl [3, 4] [0, 1, 2] rfl rfl ⟨rfl, rfl, by decide⟩ ⟨Nat.zero_le _, Nat.zero_le _⟩ [0, 1, 2, 3, 4] rfl rfl ?_
                refine G_istore X (lv' := [(4, .int v94.1), (3, .int s1.2.1), (0, .ref h), (1, .ref a0), (2, .int s1.1)]) dX2_run_177 (by decide) rfl ?_
                refine G_goto X (tgt := 209) dX2_run_179 (by decide) ?_
                refine G_iload X dX2_run_209 0 rfl ?_
                refine G_if_ge X (tgt := 223) dX2_run_211 (by decide) (fun h97 => ?_) (fun h97 => ?_)
                · have h98 := ifp h97 h96
                  refine G_iinc X (v := (s1.1 + 1)) (lv' := [(2, .int (s1.1 + 1)), (4, .int v94.1), (3, .int s1.2.1), (0, .ref h), (1, .ref a0)]) dX2_run_223 4 rfl rfl (by decide) rfl ?_
                  refine G_goto X (tgt := 7) dX2_run_226 (by decide) ?_
                  cases h98
                  exact G_lv [3, 4, 0] rfl (h7 _ rfl)
                · have h99 := ifn h97 h96
                  refine G_aload_n X dX2_run_214 2 rfl ?_
                  refine G_iload_n X dX2_run_215 1 rfl ?_
                  refine G_iconst X (v := 2) dX2_run_216 (by decide) ?_
                  refine G_iload X dX2_run_217 0 rfl ?_
                  obtain ⟨v100, h101, h102⟩ := bnd h99
                  refine G1_calli X (As := [.int s1.2.1, .int 2, .int v94.1]) (rest := []) (wr := [(h_signs, .inl (cI, 60, .inl f_h_signs)), (h_numbers, .inl (cI, 3, .inl v20.2.2)), (a0, .inr (3, [.ref a0_numbers])), (a0_numbers, .inl (cI, 352, .inl v94.2))]) (ws' := [(h, .inr (2, [.ref h_signs, .ref h_numbers, .int i_h_length, .int v20.2.1, .int v100.2.1, .int v100.2.2.1, .int v100.2.2.2])), (h_signs, .inl (cI, 60, .inl f_h_signs)), (h_numbers, .inl (cI, 3, .inl v20.2.2)), (a0, .inr (3, [.ref a0_numbers])), (a0_numbers, .inl (cI, 352, .inl v94.2))]) dX2_run_219 pkX2_foundFault gX2_run_X2_foundFault (kkX2_foundFault l D cI cR h h_signs h_numbers i_h_length v20.2.1 i_h_faultPosition i_h_faultReason i_h_faultCause s1.2.1 2 v94.1 v100 h101) ⟨rfl, rfl⟩ ⟨Nat.le_of_ble_eq_true rfl, Nat.le_of_ble_eq_true rfl⟩ rfl rfl (Nat.le_of_ble_eq_true rfl) 0 rfl rfl [0] [1, 2, 3, 4] rfl rfl ⟨rfl, rfl, by decide⟩ ⟨Nat.zero_le _, Nat.zero_le _⟩ [4, 0, 1, 2, 3] rfl rfl ?_
                  cases h102
                  have h103 := h8 _ rfl
                  subst h103
                  have h104 := congrArg some (cnt_r h5)
                  cases h104
                  exact rt _ _ _ _ dX2_run_222 ⟨rfl, rfl⟩
              · have h87 := ifn h85 h70
                by_cases h105 : v31 = 119
                · have h106 := ifp h105 h87
                  refine G_lookup X (off := 50) (tgt := 104) dX2_run_54 (by decide) (by rw [h105]; decide) (by decide) ?_
                  refine G_aload_n X dX2_run_104 2 rfl ?_
                  refine G_aload_n X dX2_run_105 1 rfl ?_
                  refine G_get X (i0 := 0) (ci := 2) (j := 1) (C := RX2) (ref := RX2) (T := TX2) (N := 7) dX2_run_106 rfl rfl hiX2_run_X2 (by decide) flX2_run_15 rfl rfl ?_
                  refine G_iconst X (v := 0) dX2_run_109 (by decide) ?_
                  obtain ⟨v108, h109, h110⟩ := bnd h106
                  refine G_iald X (i0 := 2) dX2_run_110 rfl h109 ?_
                  refine G_aload_n X dX2_run_111 1 rfl ?_
                  refine G_get X (i0 := 0) (ci := 2) (j := 1) (C := RX2) (ref := RX2) (T := TX2) (N := 7) dX2_run_112 rfl rfl hiX2_run_X2 (by decide) flX2_run_15 rfl rfl ?_
                  refine G_iconst X (v := 1) dX2_run_115 (by decide) ?_
                  obtain ⟨v111, h112, h113⟩ := bnd h110
                  refine G_iald X (i0 := 2) dX2_run_116 rfl h112 ?_
                  refine G_aload_n X dX2_run_117 1 rfl ?_
                  refine G_get X (i0 := 0) (ci := 2) (j := 1) (C := RX2) (ref := RX2) (T := TX2) (N := 7) dX2_run_118 rfl rfl hiX2_run_X2 (by decide) flX2_run_15 rfl rfl ?_
                  refine G_iconst X (v := 2) dX2_run_121 (by decide) ?_
                  obtain ⟨v114, h115, h116⟩ := bnd h113
                  refine G_iald X (i0 := 2) dX2_run_122 rfl h115 ?_
                  obtain ⟨v117, h118, h119⟩ := bnd h116
                  refine G1_calli X (As := [.int v108, .int v111, .int v114]) (rest := []) (wr := [(h, .inr (2, [.ref h_signs, .ref h_numbers, .int i_h_length, .int v20.2.1, .int i_h_faultPosition, .int i_h_faultReason, .int i_h_faultCause])), (h_signs, .inl (cI, 60, .inl f_h_signs)), (h_numbers, .inl (cI, 3, .inl v20.2.2))]) (ws' := [(h, .inr (2, [.ref h_signs, .ref h_numbers, .int i_h_length, .int v20.2.1, .int i_h_faultPosition, .int i_h_faultReason, .int i_h_faultCause])), (h_signs, .inl (cI, 60, .inl f_h_signs)), (h_numbers, .inl (cI, 3, .inl v20.2.2)), (a0, .inr (3, [.ref a0_numbers])), (a0_numbers, .inl (cI, 352, .inl v117.2))]) dX2_run_123 pkX3_writeCell gX2_run_X3_writeCell (kkX3_writeCell l D cI cR a0 a0_numbers s1.2.2.2 v108 v111 v114 v117 h118) ⟨rfl, rfl⟩ ⟨Nat.le_of_ble_eq_true rfl, Nat.le_of_ble_eq_true rfl⟩ rfl rfl (Nat.le_of_ble_eq_true rfl) 0 rfl rfl [3, 4] [0, 1, 2] rfl rfl ⟨rfl, rfl, by decide⟩ ⟨Nat.zero_le _, Nat.zero_le _⟩ [0, 1, 2, 3, 4] rfl rfl ?_
                  refine G_istore X (lv' := [(4, .int v117.1), (3, .int s1.2.1), (0, .ref h), (1, .ref a0), (2, .int s1.1)]) dX2_run_126 (by decide) rfl ?_
                  refine G_goto X (tgt := 209) dX2_run_128 (by decide) ?_
                  refine G_iload X dX2_run_209 0 rfl ?_
                  refine G_if_ge X (tgt := 223) dX2_run_211 (by decide) (fun h120 => ?_) (fun h120 => ?_)
                  · have h121 := ifp h120 h119
                    refine G_iinc X (v := (s1.1 + 1)) (lv' := [(2, .int (s1.1 + 1)), (4, .int v117.1), (3, .int s1.2.1), (0, .ref h), (1, .ref a0)]) dX2_run_223 4 rfl rfl (by decide) rfl ?_
                    refine G_goto X (tgt := 7) dX2_run_226 (by decide) ?_
                    cases h121
                    exact G_lv [3, 4, 0] rfl (h7 _ rfl)
                  · have h122 := ifn h120 h119
                    refine G_aload_n X dX2_run_214 2 rfl ?_
                    refine G_iload_n X dX2_run_215 1 rfl ?_
                    refine G_iconst X (v := 2) dX2_run_216 (by decide) ?_
                    refine G_iload X dX2_run_217 0 rfl ?_
                    obtain ⟨v123, h124, h125⟩ := bnd h122
                    refine G1_calli X (As := [.int s1.2.1, .int 2, .int v117.1]) (rest := []) (wr := [(h_signs, .inl (cI, 60, .inl f_h_signs)), (h_numbers, .inl (cI, 3, .inl v20.2.2)), (a0, .inr (3, [.ref a0_numbers])), (a0_numbers, .inl (cI, 352, .inl v117.2))]) (ws' := [(h, .inr (2, [.ref h_signs, .ref h_numbers, .int i_h_length, .int v20.2.1, .int v123.2.1, .int v123.2.2.1, .int v123.2.2.2])), (h_signs, .inl (cI, 60, .inl f_h_signs)), (h_numbers, .inl (cI, 3, .inl v20.2.2)), (a0, .inr (3, [.ref a0_numbers])), (a0_numbers, .inl (cI, 352, .inl v117.2))]) dX2_run_219 pkX2_foundFault gX2_run_X2_foundFault (kkX2_foundFault l D cI cR h h_signs h_numbers i_h_length v20.2.1 i_h_faultPosition i_h_faultReason i_h_faultCause s1.2.1 2 v117.1 v123 h124) ⟨rfl, rfl⟩ ⟨Nat.le_of_ble_eq_true rfl, Nat.le_of_ble_eq_true rfl⟩ rfl rfl (Nat.le_of_ble_eq_true rfl) 0 rfl rfl [0] [1, 2, 3, 4] rfl rfl ⟨rfl, rfl, by decide⟩ ⟨Nat.zero_le _, Nat.zero_le _⟩ [4, 0, 1, 2, 3] rfl rfl ?_
                    cases h125
                    have h126 := h8 _ rfl
                    subst h126
                    have h127 := congrArg some (cnt_r h5)
                    cases h127
                    exact rt _ _ _ _ dX2_run_222 ⟨rfl, rfl⟩
                · have h107 := ifn h105 h87
                  refine G_lookup X (off := 143) (tgt := 197) dX2_run_54 (by decide) (lk_cons (fun q => h34 (Int32.toInt_inj.mp (q.trans (by decide)))) (lk_cons (fun q => h51 (Int32.toInt_inj.mp (q.trans (by decide)))) (lk_cons (fun q => h68 (Int32.toInt_inj.mp (q.trans (by decide)))) (lk_cons (fun q => h85 (Int32.toInt_inj.mp (q.trans (by decide)))) (lk_cons (fun q => h105 (Int32.toInt_inj.mp (q.trans (by decide)))) lk_nil))))) (by decide) ?_
                  refine G_aload_n X dX2_run_197 2 rfl ?_
                  refine G_aload_n X dX2_run_198 1 rfl ?_
                  refine G_get X (i0 := 0) (ci := 2) (j := 1) (C := RX2) (ref := RX2) (T := TX2) (N := 7) dX2_run_199 rfl rfl hiX2_run_X2 (by decide) flX2_run_15 rfl rfl ?_
                  refine G_iconst X (v := 0) dX2_run_202 (by decide) ?_
                  obtain ⟨v128, h129, h130⟩ := bnd h107
                  refine G_iald X (i0 := 2) dX2_run_203 rfl h129 ?_
                  obtain ⟨v131, h132, h133⟩ := bnd h130
                  refine G1_calli X (As := [.int v128]) (rest := []) (wr := [(h, .inr (2, [.ref h_signs, .ref h_numbers, .int i_h_length, .int v20.2.1, .int i_h_faultPosition, .int i_h_faultReason, .int i_h_faultCause])), (h_signs, .inl (cI, 60, .inl f_h_signs)), (h_numbers, .inl (cI, 3, .inl v20.2.2))]) (ws' := [(h, .inr (2, [.ref h_signs, .ref h_numbers, .int i_h_length, .int v20.2.1, .int i_h_faultPosition, .int i_h_faultReason, .int i_h_faultCause])), (h_signs, .inl (cI, 60, .inl f_h_signs)), (h_numbers, .inl (cI, 3, .inl v20.2.2)), (a0, .inr (3, [.ref a0_numbers])), (a0_numbers, .inl (cI, 352, .inl v131.2))]) dX2_run_204 pkX3_endDays gX2_run_X3_endDays (kkX3_endDays l D cI cR a0 a0_numbers s1.2.2.2 v128 v131 h132) ⟨rfl, rfl⟩ ⟨Nat.le_of_ble_eq_true rfl, Nat.le_of_ble_eq_true rfl⟩ rfl rfl (Nat.le_of_ble_eq_true rfl) 0 rfl rfl [3, 4] [0, 1, 2] rfl rfl ⟨rfl, rfl, by decide⟩ ⟨Nat.zero_le _, Nat.zero_le _⟩ [0, 1, 2, 3, 4] rfl rfl ?_
                  refine G_istore X (lv' := [(4, .int v131.1), (3, .int s1.2.1), (0, .ref h), (1, .ref a0), (2, .int s1.1)]) dX2_run_207 (by decide) rfl ?_
                  refine G_iload X dX2_run_209 0 rfl ?_
                  refine G_if_ge X (tgt := 223) dX2_run_211 (by decide) (fun h134 => ?_) (fun h134 => ?_)
                  · have h135 := ifp h134 h133
                    refine G_iinc X (v := (s1.1 + 1)) (lv' := [(2, .int (s1.1 + 1)), (4, .int v131.1), (3, .int s1.2.1), (0, .ref h), (1, .ref a0)]) dX2_run_223 4 rfl rfl (by decide) rfl ?_
                    refine G_goto X (tgt := 7) dX2_run_226 (by decide) ?_
                    cases h135
                    exact G_lv [3, 4, 0] rfl (h7 _ rfl)
                  · have h136 := ifn h134 h133
                    refine G_aload_n X dX2_run_214 2 rfl ?_
                    refine G_iload_n X dX2_run_215 1 rfl ?_
                    refine G_iconst X (v := 2) dX2_run_216 (by decide) ?_
                    refine G_iload X dX2_run_217 0 rfl ?_
                    obtain ⟨v137, h138, h139⟩ := bnd h136
                    refine G1_calli X (As := [.int s1.2.1, .int 2, .int v131.1]) (rest := []) (wr := [(h_signs, .inl (cI, 60, .inl f_h_signs)), (h_numbers, .inl (cI, 3, .inl v20.2.2)), (a0, .inr (3, [.ref a0_numbers])), (a0_numbers, .inl (cI, 352, .inl v131.2))]) (ws' := [(h, .inr (2, [.ref h_signs, .ref h_numbers, .int i_h_length, .int v20.2.1, .int v137.2.1, .int v137.2.2.1, .int v137.2.2.2])), (h_signs, .inl (cI, 60, .inl f_h_signs)), (h_numbers, .inl (cI, 3, .inl v20.2.2)), (a0, .inr (3, [.ref a0_numbers])), (a0_numbers, .inl (cI, 352, .inl v131.2))]) dX2_run_219 pkX2_foundFault gX2_run_X2_foundFault (kkX2_foundFault l D cI cR h h_signs h_numbers i_h_length v20.2.1 i_h_faultPosition i_h_faultReason i_h_faultCause s1.2.1 2 v131.1 v137 h138) ⟨rfl, rfl⟩ ⟨Nat.le_of_ble_eq_true rfl, Nat.le_of_ble_eq_true rfl⟩ rfl rfl (Nat.le_of_ble_eq_true rfl) 0 rfl rfl [0] [1, 2, 3, 4] rfl rfl ⟨rfl, rfl, by decide⟩ ⟨Nat.zero_le _, Nat.zero_le _⟩ [4, 0, 1, 2, 3] rfl rfl ?_
                    cases h139
                    have h140 := h8 _ rfl
                    subst h140
                    have h141 := congrArg some (cnt_r h5)
                    cases h141
                    exact rt _ _ _ _ dX2_run_222 ⟨rfl, rfl⟩
