def rmL_types : Room := { frames := 7, cells := 0, slots := 0, locals := 160 }
theorem pkL_types : cK yL_types wsL_types cL_types 7 (some .boolean) 2 RL := ⟨⟨_, rfl⟩, by decide +kernel⟩
set_option maxHeartbeats 4000000 in
set_option maxRecDepth 100000 in
theorem kkL_types (l : Launch) (D : va_G) (cI cR : ClassId) (a0 a0_now a0_trial a0_survey a0_mending a0_past a0_text a0_now_numbers a0_past_states a0_text_signs a0_text_numbers : Nat) (f_a0_now_numbers : Nat → Int32) (i_a0_past_oldest : Int32) (i_a0_past_many : Int32) (i_a0_text_length : Int32) (i_a0_text_at : Int32) (i_a0_text_faultPosition : Int32) (i_a0_text_faultReason : Int32) (i_a0_text_faultCause : Int32) (f_a0_text_signs : Nat → Int32) (x1 : Int32) (z : (Int32 × Int32 × (Nat → Int32))) (hz : ML_types f_a0_now_numbers i_a0_past_many i_a0_text_length f_a0_text_signs x1 = some z) : cI1 l yL_types wsL_types rmL_types D cI cR [.ref a0, .int x1] [(a0, .inr (5, [.ref a0_now, .ref a0_trial, .ref a0_survey, .ref a0_mending, .ref a0_past, .ref a0_text])), (a0_now, .inr (3, [.ref a0_now_numbers])), (a0_now_numbers, .inl (cI, 352, .inl f_a0_now_numbers)), (a0_survey, .inr (4, [.ref a0_now])), (a0_past, .inr (0, [.ref a0_past_states, .int i_a0_past_oldest, .int i_a0_past_many])), (a0_text, .inr (2, [.ref a0_text_signs, .ref a0_text_numbers, .int i_a0_text_length, .int i_a0_text_at, .int i_a0_text_faultPosition, .int i_a0_text_faultReason, .int i_a0_text_faultCause])), (a0_text_signs, .inl (cI, 60, .inl f_a0_text_signs))] z.1 [(a0, .inr (5, [.ref a0_now, .ref a0_trial, .ref a0_survey, .ref a0_mending, .ref a0_past, .ref a0_text])), (a0_now, .inr (3, [.ref a0_now_numbers])), (a0_now_numbers, .inl (cI, 352, .inl f_a0_now_numbers)), (a0_survey, .inr (4, [.ref a0_now])), (a0_past, .inr (0, [.ref a0_past_states, .int i_a0_past_oldest, .int i_a0_past_many])), (a0_text, .inr (2, [.ref a0_text_signs, .ref a0_text_numbers, .int z.2.1, .int i_a0_text_at, .int i_a0_text_faultPosition, .int i_a0_text_faultReason, .int i_a0_text_faultCause])), (a0_text_signs, .inl (cI, 60, .inl z.2.2))] := by
  unfold ML_types at hz
  refine kZ_of (cc := cL_types) (maxL := 7) (own := RL) (by decide +kernel) rfl rfl (Nat.le_of_ble_eq_true rfl) (lv0 := [(0, .ref a0), (1, .int x1)]) rfl (fun p e s m args below meth c A Q X rt => ?_)
  refine G_iload_n X dL_types_0 1 rfl ?_
  refine G_bipush X (v := 6) dL_types_1 (by decide) ?_
  obtain ⟨v1, h2, h3⟩ := bnd hz
  refine G1_callsi X (As := [.int x1, .int 6]) (rest := []) (wr := [(a0, .inr (5, [.ref a0_now, .ref a0_trial, .ref a0_survey, .ref a0_mending, .ref a0_past, .ref a0_text])), (a0_now, .inr (3, [.ref a0_now_numbers])), (a0_now_numbers, .inl (cI, 352, .inl f_a0_now_numbers)), (a0_survey, .inr (4, [.ref a0_now])), (a0_past, .inr (0, [.ref a0_past_states, .int i_a0_past_oldest, .int i_a0_past_many])), (a0_text, .inr (2, [.ref a0_text_signs, .ref a0_text_numbers, .int i_a0_text_length, .int i_a0_text_at, .int i_a0_text_faultPosition, .int i_a0_text_faultReason, .int i_a0_text_faultCause])), (a0_text_signs, .inl (cI, 60, .inl f_a0_text_signs))]) (ws' := [(a0, .inr (5, [.ref a0_now, .ref a0_trial, .ref a0_survey, .ref a0_mending, .ref a0_past, .ref a0_text])), (a0_now, .inr (3, [.ref a0_now_numbers])), (a0_now_numbers, .inl (cI, 352, .inl f_a0_now_numbers)), (a0_survey, .inr (4, [.ref a0_now])), (a0_past, .inr (0, [.ref a0_past_states, .int i_a0_past_oldest, .int i_a0_past_many])), (a0_text, .inr (2, [.ref a0_text_signs, .ref a0_text_numbers, .int i_a0_text_length, .int i_a0_text_at, .int i_a0_text_faultPosition, .int i_a0_text_faultReason, .int i_a0_text_faultCause])), (a0_text_signs, .inl (cI, 60, .inl f_a0_text_signs))]) dL_types_3 pkL_low gL_types_L_low (kkL_low l D cI cR x1 6 v1 h2) ⟨rfl, rfl⟩ ⟨Nat.le_of_ble_eq_true rfl, Nat.le_of_ble_eq_true rfl⟩ rfl rfl (Nat.le_of_ble_eq_true rfl) [] [0, 1, 2, 3, 4, 5, 6] rfl rfl ⟨rfl, rfl, by decide⟩ ⟨Nat.zero_le _, Nat.zero_le _⟩ [0, 1, 2, 3, 4, 5, 6] rfl rfl ?_
  refine G_istore_n X (lv' := [(2, .int v1), (0, .ref a0), (1, .int x1)]) dL_types_6 (by decide) rfl ?_
  refine G_aload_n X dL_types_7 1 rfl ?_
  obtain ⟨v4, h5, h6⟩ := bnd h3
  refine G1_calli X (As := []) (rest := []) (wr := [(a0_now, .inr (3, [.ref a0_now_numbers])), (a0_now_numbers, .inl (cI, 352, .inl f_a0_now_numbers)), (a0_survey, .inr (4, [.ref a0_now])), (a0_past, .inr (0, [.ref a0_past_states, .int i_a0_past_oldest, .int i_a0_past_many])), (a0_text_signs, .inl (cI, 60, .inl f_a0_text_signs))]) (ws' := [(a0, .inr (5, [.ref a0_now, .ref a0_trial, .ref a0_survey, .ref a0_mending, .ref a0_past, .ref a0_text])), (a0_now, .inr (3, [.ref a0_now_numbers])), (a0_now_numbers, .inl (cI, 352, .inl f_a0_now_numbers)), (a0_survey, .inr (4, [.ref a0_now])), (a0_past, .inr (0, [.ref a0_past_states, .int i_a0_past_oldest, .int i_a0_past_many])), (a0_text, .inr (2, [.ref a0_text_signs, .ref a0_text_numbers, .int v4.2, .int i_a0_text_at, .int i_a0_text_faultPosition, .int i_a0_text_faultReason, .int i_a0_text_faultCause])), (a0_text_signs, .inl (cI, 60, .inl f_a0_text_signs))]) dL_types_8 pkX5_clearText gL_types_X5_clearText (kkX5_clearText l D cI cR a0 a0_now a0_trial a0_survey a0_mending a0_past a0_text a0_text_signs a0_text_numbers i_a0_text_length i_a0_text_at i_a0_text_faultPosition i_a0_text_faultReason i_a0_text_faultCause v4 h5) ⟨rfl, rfl⟩ ⟨Nat.le_of_ble_eq_true rfl, Nat.le_of_ble_eq_true rfl⟩ rfl rfl (Nat.le_of_ble_eq_true rfl) 0 rfl rfl [0, 5] [1, 2, 3, 4, 6] rfl rfl ⟨rfl, rfl, by decide⟩ ⟨Nat.zero_le _, Nat.zero_le _⟩ [5, 0, 1, 2, 3, 6, 4] rfl rfl ?_
  obtain ⟨j7, h8, h9⟩ := bnd h6
  have J10 : G p l e rmL_types s m args below meth c D A 7 Q 0 0 19 [(0, .ref a0), (1, .int x1), (2, .int v1)] [.int j7] [(a0, .inr (5, [.ref a0_now, .ref a0_trial, .ref a0_survey, .ref a0_mending, .ref a0_past, .ref a0_text])), (a0_now, .inr (3, [.ref a0_now_numbers])), (a0_now_numbers, .inl (cI, 352, .inl f_a0_now_numbers)), (a0_survey, .inr (4, [.ref a0_now])), (a0_past, .inr (0, [.ref a0_past_states, .int i_a0_past_oldest, .int i_a0_past_many])), (a0_text, .inr (2, [.ref a0_text_signs, .ref a0_text_numbers, .int v4.2, .int i_a0_text_at, .int i_a0_text_faultPosition, .int i_a0_text_faultReason, .int i_a0_text_faultCause])), (a0_text_signs, .inl (cI, 60, .inl f_a0_text_signs))] := by
    refine G_istore_n X (lv' := [(3, .int j7), (0, .ref a0), (1, .int x1), (2, .int v1)]) dL_types_19 (by decide) rfl ?_
    refine G_iconst X (v := 0) dL_types_20 (by decide) ?_
    refine G_istore X (lv' := [(4, .int 0), (3, .int j7), (0, .ref a0), (1, .int x1), (2, .int v1)]) dL_types_21 (by decide) rfl ?_
    obtain ⟨j12, h13, h14⟩ := bnd h9
    have J19 : G p l e rmL_types s m args below meth c D A 7 Q 0 0 363 [(3, .int j12.1)] [] [(a0, .inr (5, [.ref a0_now, .ref a0_trial, .ref a0_survey, .ref a0_mending, .ref a0_past, .ref a0_text])), (a0_now, .inr (3, [.ref a0_now_numbers])), (a0_now_numbers, .inl (cI, 352, .inl f_a0_now_numbers)), (a0_survey, .inr (4, [.ref a0_now])), (a0_past, .inr (0, [.ref a0_past_states, .int i_a0_past_oldest, .int i_a0_past_many])), (a0_text, .inr (2, [.ref a0_text_signs, .ref a0_text_numbers, .int j12.2.1, .int i_a0_text_at, .int i_a0_text_faultPosition, .int i_a0_text_faultReason, .int i_a0_text_faultCause])), (a0_text_signs, .inl (cI, 60, .inl j12.2.2))] := by
      refine G_iload_n X dL_types_363 0 rfl ?_
      obtain ⟨v21, h22, h23⟩ := bnd h14
      obtain ⟨h24, rfl⟩ := bzA_in h22
      cases h23
      exact rt _ _ _ _ dL_types_364 h24 ⟨rfl, rfl⟩
    refine G_lv [2, 3, 4, 1, 0] rfl ?_
    refine itr_ind (P := fun s11 : (Int32 × Int32 × Int32 × (Nat → Int32)) => G p l e rmL_types s m args below meth c D A 7 Q 0 0 23 [(0, .ref a0), (1, .int x1), (2, .int v1), (3, .int s11.1), (4, .int s11.2.1)] [] [(a0, .inr (5, [.ref a0_now, .ref a0_trial, .ref a0_survey, .ref a0_mending, .ref a0_past, .ref a0_text])), (a0_now, .inr (3, [.ref a0_now_numbers])), (a0_now_numbers, .inl (cI, 352, .inl f_a0_now_numbers)), (a0_survey, .inr (4, [.ref a0_now])), (a0_past, .inr (0, [.ref a0_past_states, .int i_a0_past_oldest, .int i_a0_past_many])), (a0_text, .inr (2, [.ref a0_text_signs, .ref a0_text_numbers, .int s11.2.2.1, .int i_a0_text_at, .int i_a0_text_faultPosition, .int i_a0_text_faultReason, .int i_a0_text_faultCause])), (a0_text_signs, .inl (cI, 60, .inl s11.2.2.2))]) (fun s11 o18 h15 h16 h17 => ?_) FU _ h13
    unfold SL_types_23 at h15
    refine G_iload X dL_types_23 4 rfl ?_
    refine G_iload_n X dL_types_25 2 rfl ?_
    refine G_icmp_ge X (tgt := 363) dL_types_26 (by decide) (fun h25 => ?_) (fun h25 => ?_)
    · have h26 := ifp h25 h15
      cases h26
      have h27 := h17 _ rfl
      subst h27
      exact G_lv [3] rfl (J19)
    · have h28 := ifn h25 h15
      refine G_iload_n X dL_types_29 1 rfl ?_
      refine G_iconst X (v := 3) dL_types_30 (by decide) ?_
      refine G_iconst X (v := 4) dL_types_31 (by decide) ?_
      refine G_iload X dL_types_32 4 rfl ?_
      refine G_imul X dL_types_34 ?_
      refine G_iadd X dL_types_35 ?_
      refine G_ishr X dL_types_36 ?_
      refine G_istore X (lv' := [(5, .int (x1 >>> ((3 + (4 * s11.2.1)) &&& 31))), (0, .ref a0), (1, .int x1), (2, .int v1), (3, .int s11.1), (4, .int s11.2.1)]) dL_types_37 (by decide) rfl ?_
      refine G_iload X dL_types_39 0 rfl ?_
      refine G_bipush X (v := 9) dL_types_41 (by decide) ?_
      obtain ⟨v29, h30, h31⟩ := bnd h28
      refine G1_callsi X (As := [.int (x1 >>> ((3 + (4 * s11.2.1)) &&& 31)), .int 9]) (rest := []) (wr := [(a0, .inr (5, [.ref a0_now, .ref a0_trial, .ref a0_survey, .ref a0_mending, .ref a0_past, .ref a0_text])), (a0_now, .inr (3, [.ref a0_now_numbers])), (a0_now_numbers, .inl (cI, 352, .inl f_a0_now_numbers)), (a0_survey, .inr (4, [.ref a0_now])), (a0_past, .inr (0, [.ref a0_past_states, .int i_a0_past_oldest, .int i_a0_past_many])), (a0_text, .inr (2, [.ref a0_text_signs, .ref a0_text_numbers, .int s11.2.2.1, .int i_a0_text_at, .int i_a0_text_faultPosition, .int i_a0_text_faultReason, .int i_a0_text_faultCause])), (a0_text_signs, .inl (cI, 60, .inl s11.2.2.2))]) (ws' := [(a0, .inr (5, [.ref a0_now, .ref a0_trial, .ref a0_survey, .ref a0_mending, .ref a0_past, .ref a0_text])), (a0_now, .inr (3, [.ref a0_now_numbers])), (a0_now_numbers, .inl (cI, 352, .inl f_a0_now_numbers)), (a0_survey, .inr (4, [.ref a0_now])), (a0_past, .inr (0, [.ref a0_past_states, .int i_a0_past_oldest, .int i_a0_past_many])), (a0_text, .inr (2, [.ref a0_text_signs, .ref a0_text_numbers, .int s11.2.2.1, .int i_a0_text_at, .int i_a0_text_faultPosition, .int i_a0_text_faultReason, .int i_a0_text_faultCause])), (a0_text_signs, .inl (cI, 60, .inl s11.2.2.2))]) dL_types_43 pkL_low gL_types_L_low (kkL_low l D cI cR (x1 >>> ((3 + (4 * s11.2.1)) &&& 31)) 9 v29 h30) ⟨rfl, rfl⟩ ⟨Nat.le_of_ble_eq_true rfl, Nat.le_of_ble_eq_true rfl⟩ rfl rfl (Nat.le_of_ble_eq_true rfl) [] [0, 1, 2, 3, 4, 5, 6] rfl rfl ⟨rfl, rfl, by decide⟩ ⟨Nat.zero_le _, Nat.zero_le _⟩ [0, 1, 2, 3, 4, 5, 6] rfl rfl ?_
      refine G_istore X (lv' := [(6, .int v29), (5, .int (x1 >>> ((3 + (4 * s11.2.1)) &&& 31))), (0, .ref a0), (1, .int x1), (2, .int v1), (3, .int s11.1), (4, .int s11.2.1)]) dL_types_46 (by decide) rfl ?_
      refine G_iload_n X dL_types_48 5 rfl ?_
      obtain ⟨j32, h33, h34⟩ := bnd h31
      have J35 : G p l e rmL_types s m args below meth c D A 7 Q 0 0 181 [(0, .ref a0), (1, .int x1), (2, .int v1), (4, .int s11.2.1), (5, .int (x1 >>> ((3 + (4 * s11.2.1)) &&& 31))), (6, .int v29)] [.int j32.1] [(a0, .inr (5, [.ref a0_now, .ref a0_trial, .ref a0_survey, .ref a0_mending, .ref a0_past, .ref a0_text])), (a0_now, .inr (3, [.ref a0_now_numbers])), (a0_now_numbers, .inl (cI, 352, .inl f_a0_now_numbers)), (a0_survey, .inr (4, [.ref a0_now])), (a0_past, .inr (0, [.ref a0_past_states, .int i_a0_past_oldest, .int i_a0_past_many])), (a0_text, .inr (2, [.ref a0_text_signs, .ref a0_text_numbers, .int j32.2.1, .int i_a0_text_at, .int i_a0_text_faultPosition, .int i_a0_text_faultReason, .int i_a0_text_faultCause])), (a0_text_signs, .inl (cI, 60, .inl j32.2.2))] := by
        refine G_istore_n X (lv' := [(3, .int j32.1), (0, .ref a0), (1, .int x1), (2, .int v1), (4, .int s11.2.1), (5, .int (x1 >>> ((3 + (4 * s11.2.1)) &&& 31))), (6, .int v29)]) dL_types_181 (by decide) rfl ?_
        refine G_iload X dL_types_182 6 rfl ?_
        refine G_iconst X (v := 3) dL_types_184 (by decide) ?_
        obtain ⟨j36, h37, h38⟩ := bnd h34
        have J39 : G p l e rmL_types s m args below meth c D A 7 Q 0 0 313 [(0, .ref a0), (1, .int x1), (2, .int v1), (3, .int j36.1), (4, .int s11.2.1)] [] [(a0, .inr (5, [.ref a0_now, .ref a0_trial, .ref a0_survey, .ref a0_mending, .ref a0_past, .ref a0_text])), (a0_now, .inr (3, [.ref a0_now_numbers])), (a0_now_numbers, .inl (cI, 352, .inl f_a0_now_numbers)), (a0_survey, .inr (4, [.ref a0_now])), (a0_past, .inr (0, [.ref a0_past_states, .int i_a0_past_oldest, .int i_a0_past_many])), (a0_text, .inr (2, [.ref a0_text_signs, .ref a0_text_numbers, .int j36.2.1, .int i_a0_text_at, .int i_a0_text_faultPosition, .int i_a0_text_faultReason, .int i_a0_text_faultCause])), (a0_text_signs, .inl (cI, 60, .inl j36.2.2))] := by
          refine G_iload_n X dL_types_313 3 rfl ?_
          refine G_if_eq X (tgt := 355) dL_types_314 (by decide) (fun h40 => ?_) (fun h40 => ?_)
          · have h41 := ifp h40 h38
            refine G_iconst X (v := 0) dL_types_355 (by decide) ?_
            refine G_istore_n X (lv' := [(3, .int 0), (0, .ref a0), (1, .int x1), (2, .int v1), (4, .int s11.2.1)]) dL_types_356 (by decide) rfl ?_
            refine G_iinc X (v := (s11.2.1 + 1)) (lv' := [(4, .int (s11.2.1 + 1)), (3, .int 0), (0, .ref a0), (1, .int x1), (2, .int v1)]) dL_types_357 4 rfl rfl (by decide) rfl ?_
            refine G_goto X (tgt := 23) dL_types_360 (by decide) ?_
            cases h41
            exact G_lv [2, 3, 4, 1, 0] rfl (h16 _ rfl)
          · have h42 := ifn h40 h38
            refine G_aload_n X dL_types_317 0 rfl ?_
            refine G_iload X dL_types_318 4 rfl ?_
            refine G_iload_n X dL_types_320 2 rfl ?_
            refine G_iconst X (v := 1) dL_types_321 (by decide) ?_
            refine G_isub X dL_types_322 ?_
            obtain ⟨j43, h44, h45⟩ := bnd h42
            have J46 : G p l e rmL_types s m args below meth c D A 7 Q 0 0 345 [(0, .ref a0), (1, .int x1), (2, .int v1), (4, .int s11.2.1)] [.int j43, .ref a0] [(a0, .inr (5, [.ref a0_now, .ref a0_trial, .ref a0_survey, .ref a0_mending, .ref a0_past, .ref a0_text])), (a0_now, .inr (3, [.ref a0_now_numbers])), (a0_now_numbers, .inl (cI, 352, .inl f_a0_now_numbers)), (a0_survey, .inr (4, [.ref a0_now])), (a0_past, .inr (0, [.ref a0_past_states, .int i_a0_past_oldest, .int i_a0_past_many])), (a0_text, .inr (2, [.ref a0_text_signs, .ref a0_text_numbers, .int j36.2.1, .int i_a0_text_at, .int i_a0_text_faultPosition, .int i_a0_text_faultReason, .int i_a0_text_faultCause])), (a0_text_signs, .inl (cI, 60, .inl j36.2.2))] := by
              obtain ⟨v47, h48, h49⟩ := bnd h45
              refine G1_calli X (As := [.int j43]) (rest := []) (wr := [(a0_now, .inr (3, [.ref a0_now_numbers])), (a0_now_numbers, .inl (cI, 352, .inl f_a0_now_numbers)), (a0_survey, .inr (4, [.ref a0_now])), (a0_past, .inr (0, [.ref a0_past_states, .int i_a0_past_oldest, .int i_a0_past_many]))]) (ws' := [(a0, .inr (5, [.ref a0_now, .ref a0_trial, .ref a0_survey, .ref a0_mending, .ref a0_past, .ref a0_text])), (a0_now, .inr (3, [.ref a0_now_numbers])), (a0_now_numbers, .inl (cI, 352, .inl f_a0_now_numbers)), (a0_survey, .inr (4, [.ref a0_now])), (a0_past, .inr (0, [.ref a0_past_states, .int i_a0_past_oldest, .int i_a0_past_many])), (a0_text, .inr (2, [.ref a0_text_signs, .ref a0_text_numbers, .int v47.2.1, .int i_a0_text_at, .int i_a0_text_faultPosition, .int i_a0_text_faultReason, .int i_a0_text_faultCause])), (a0_text_signs, .inl (cI, 60, .inl v47.2.2))]) dL_types_345 pkX5_type gL_types_X5_type (kkX5_type l D cI cR a0 a0_now a0_trial a0_survey a0_mending a0_past a0_text a0_text_signs a0_text_numbers j36.2.1 i_a0_text_at i_a0_text_faultPosition i_a0_text_faultReason i_a0_text_faultCause j36.2.2 j43 v47 h48) ⟨rfl, rfl⟩ ⟨Nat.le_of_ble_eq_true rfl, Nat.le_of_ble_eq_true rfl⟩ rfl rfl (Nat.le_of_ble_eq_true rfl) 0 rfl rfl [0, 5, 6] [1, 2, 3, 4] rfl rfl ⟨rfl, rfl, by decide⟩ ⟨Nat.zero_le _, Nat.zero_le _⟩ [4, 0, 1, 2, 3, 5, 6] rfl rfl ?_
              refine G_if_le X (tgt := 355) dL_types_348 (by decide) (fun h50 => ?_) (fun h50 => ?_)
              · have h51 := ifp h50 h49
                refine G_iconst X (v := 0) dL_types_355 (by decide) ?_
                refine G_istore_n X (lv' := [(3, .int 0), (0, .ref a0), (1, .int x1), (2, .int v1), (4, .int s11.2.1)]) dL_types_356 (by decide) rfl ?_
                refine G_iinc X (v := (s11.2.1 + 1)) (lv' := [(4, .int (s11.2.1 + 1)), (3, .int 0), (0, .ref a0), (1, .int x1), (2, .int v1)]) dL_types_357 4 rfl rfl (by decide) rfl ?_
                refine G_goto X (tgt := 23) dL_types_360 (by decide) ?_
                cases h51
                exact G_lv [2, 3, 4, 1, 0] rfl (h16 _ rfl)
              · have h52 := ifn h50 h49
                refine G_iconst X (v := 1) dL_types_351 (by decide) ?_
                refine G_goto X (tgt := 356) dL_types_352 (by decide) ?_
                refine G_istore_n X (lv' := [(3, .int 1), (0, .ref a0), (1, .int x1), (2, .int v1), (4, .int s11.2.1)]) dL_types_356 (by decide) rfl ?_
                refine G_iinc X (v := (s11.2.1 + 1)) (lv' := [(4, .int (s11.2.1 + 1)), (3, .int 1), (0, .ref a0), (1, .int x1), (2, .int v1)]) dL_types_357 4 rfl rfl (by decide) rfl ?_
                refine G_goto X (tgt := 23) dL_types_360 (by decide) ?_
                cases h52
                exact G_lv [2, 3, 4, 1, 0] rfl (h16 _ rfl)
            refine G_icmp_ne X (tgt := 343) dL_types_323 (by decide) (fun h53 => ?_) (fun h53 => ?_)
            · have h54 := ifp h53 h44
              refine G_iload_n X dL_types_326 1 rfl ?_
              refine G_bipush X (v := 26) dL_types_327 (by decide) ?_
              refine G_ishr X dL_types_329 ?_
              refine G_bipush X (v := 7) dL_types_330 (by decide) ?_
              obtain ⟨v55, h56, h57⟩ := bnd h54
              refine G1_callsi X (As := [.int (x1 >>> (26 &&& 31)), .int 7]) (rest := [.ref a0]) (wr := [(a0, .inr (5, [.ref a0_now, .ref a0_trial, .ref a0_survey, .ref a0_mending, .ref a0_past, .ref a0_text])), (a0_now, .inr (3, [.ref a0_now_numbers])), (a0_now_numbers, .inl (cI, 352, .inl f_a0_now_numbers)), (a0_survey, .inr (4, [.ref a0_now])), (a0_past, .inr (0, [.ref a0_past_states, .int i_a0_past_oldest, .int i_a0_past_many])), (a0_text, .inr (2, [.ref a0_text_signs, .ref a0_text_numbers, .int j36.2.1, .int i_a0_text_at, .int i_a0_text_faultPosition, .int i_a0_text_faultReason, .int i_a0_text_faultCause])), (a0_text_signs, .inl (cI, 60, .inl j36.2.2))]) (ws' := [(a0, .inr (5, [.ref a0_now, .ref a0_trial, .ref a0_survey, .ref a0_mending, .ref a0_past, .ref a0_text])), (a0_now, .inr (3, [.ref a0_now_numbers])), (a0_now_numbers, .inl (cI, 352, .inl f_a0_now_numbers)), (a0_survey, .inr (4, [.ref a0_now])), (a0_past, .inr (0, [.ref a0_past_states, .int i_a0_past_oldest, .int i_a0_past_many])), (a0_text, .inr (2, [.ref a0_text_signs, .ref a0_text_numbers, .int j36.2.1, .int i_a0_text_at, .int i_a0_text_faultPosition, .int i_a0_text_faultReason, .int i_a0_text_faultCause])), (a0_text_signs, .inl (cI, 60, .inl j36.2.2))]) dL_types_332 pkL_low gL_types_L_low (kkL_low l D cI cR (x1 >>> (26 &&& 31)) 7 v55 h56) ⟨rfl, rfl⟩ ⟨Nat.le_of_ble_eq_true rfl, Nat.le_of_ble_eq_true rfl⟩ rfl rfl (Nat.le_of_ble_eq_true rfl) [] [0, 1, 2, 3, 4, 5, 6] rfl rfl ⟨rfl, rfl, by decide⟩ ⟨Nat.zero_le _, Nat.zero_le _⟩ [0, 1, 2, 3, 4, 5, 6] rfl rfl ?_
              refine G_if_ne X (tgt := 343) dL_types_335 (by decide) (fun h58 => ?_) (fun h58 => ?_)
              · have h59 := ifp h58 h57
                refine G_bipush X (v := 46) dL_types_338 (by decide) ?_
                refine G_goto X (tgt := 345) dL_types_340 (by decide) ?_
                cases h59
                exact G_lv [0, 1, 2, 4] rfl (J46)
              · have h60 := ifn h58 h57
                refine G_bipush X (v := 59) dL_types_343 (by decide) ?_
                cases h60
                exact G_lv [0, 1, 2, 4] rfl (J46)
            · have h61 := ifn h53 h44
              refine G_bipush X (v := 59) dL_types_343 (by decide) ?_
              cases h61
              exact G_lv [0, 1, 2, 4] rfl (J46)
        refine G_icmp_ge X (tgt := 268) dL_types_185 (by decide) (fun h62 => ?_) (fun h62 => ?_)
        · have h63 := ifp h62 h37
          refine G_iload X dL_types_268 6 rfl ?_
          refine G_bipush X (v := 6) dL_types_270 (by decide) ?_
          refine G_icmp_ne X (tgt := 313) dL_types_272 (by decide) (fun h64 => ?_) (fun h64 => ?_)
          · have h65 := ifp h64 h63
            refine G_iload_n X dL_types_275 0 rfl ?_
            refine G_if_eq X (tgt := 311) dL_types_276 (by decide) (fun h66 => ?_) (fun h66 => ?_)
            · have h67 := ifp h66 h65
              refine G_iconst X (v := 0) dL_types_311 (by decide) ?_
              refine G_istore_n X (lv' := [(3, .int 0), (0, .ref a0), (1, .int x1), (2, .int v1), (4, .int s11.2.1), (5, .int (x1 >>> ((3 + (4 * s11.2.1)) &&& 31))), (6, .int v29)]) dL_types_312 (by decide) rfl ?_
              cases h67
              exact G_lv [1, 2, 3, 0, 4] rfl (J39)
            · have h68 := ifn h66 h65
              refine G_aload_n X dL_types_279 1 rfl ?_
              refine G_bipush X (v := 44) dL_types_280 (by decide) ?_
              obtain ⟨v69, h70, h71⟩ := bnd h68
              refine G1_calli X (As := [.int 44]) (rest := []) (wr := [(a0_now, .inr (3, [.ref a0_now_numbers])), (a0_now_numbers, .inl (cI, 352, .inl f_a0_now_numbers)), (a0_survey, .inr (4, [.ref a0_now])), (a0_past, .inr (0, [.ref a0_past_states, .int i_a0_past_oldest, .int i_a0_past_many]))]) (ws' := [(a0, .inr (5, [.ref a0_now, .ref a0_trial, .ref a0_survey, .ref a0_mending, .ref a0_past, .ref a0_text])), (a0_now, .inr (3, [.ref a0_now_numbers])), (a0_now_numbers, .inl (cI, 352, .inl f_a0_now_numbers)), (a0_survey, .inr (4, [.ref a0_now])), (a0_past, .inr (0, [.ref a0_past_states, .int i_a0_past_oldest, .int i_a0_past_many])), (a0_text, .inr (2, [.ref a0_text_signs, .ref a0_text_numbers, .int v69.2.1, .int i_a0_text_at, .int i_a0_text_faultPosition, .int i_a0_text_faultReason, .int i_a0_text_faultCause])), (a0_text_signs, .inl (cI, 60, .inl v69.2.2))]) dL_types_282 pkX5_type gL_types_X5_type (kkX5_type l D cI cR a0 a0_now a0_trial a0_survey a0_mending a0_past a0_text a0_text_signs a0_text_numbers j32.2.1 i_a0_text_at i_a0_text_faultPosition i_a0_text_faultReason i_a0_text_faultCause j32.2.2 44 v69 h70) ⟨rfl, rfl⟩ ⟨Nat.le_of_ble_eq_true rfl, Nat.le_of_ble_eq_true rfl⟩ rfl rfl (Nat.le_of_ble_eq_true rfl) 0 rfl rfl [0, 5, 6] [1, 2, 3, 4] rfl rfl ⟨rfl, rfl, by decide⟩ ⟨Nat.zero_le _, Nat.zero_le _⟩ [4, 0, 1, 2, 3, 5, 6] rfl rfl ?_
              refine G_if_le X (tgt := 311) dL_types_285 (by decide) (fun h72 => ?_) (fun h72 => ?_)
              · have h73 := ifp h72 h71
                refine G_iconst X (v := 0) dL_types_311 (by decide) ?_
                refine G_istore_n X (lv' := [(3, .int 0), (0, .ref a0), (1, .int x1), (2, .int v1), (4, .int s11.2.1), (5, .int (x1 >>> ((3 + (4 * s11.2.1)) &&& 31))), (6, .int v29)]) dL_types_312 (by decide) rfl ?_
                cases h73
                exact G_lv [1, 2, 3, 0, 4] rfl (J39)
              · have h74 := ifn h72 h71
                refine G_aload_n X dL_types_288 1 rfl ?_
                refine G_iload X dL_types_289 5 rfl ?_
                refine G_iconst X (v := 3) dL_types_291 (by decide) ?_
                refine G_ishr X dL_types_292 ?_
                refine G_aload_n X dL_types_293 1 rfl ?_
                refine G_iconst X (v := 0) dL_types_294 (by decide) ?_
                obtain ⟨v75, h76, h77⟩ := bnd h74
                refine G1_calli X (As := [.int 0]) (rest := [.int ((x1 >>> ((3 + (4 * s11.2.1)) &&& 31)) >>> (3 &&& 31)), .ref a0]) (wr := [(a0_text_signs, .inl (cI, 60, .inl v69.2.2))]) (ws' := [(a0, .inr (5, [.ref a0_now, .ref a0_trial, .ref a0_survey, .ref a0_mending, .ref a0_past, .ref a0_text])), (a0_now, .inr (3, [.ref a0_now_numbers])), (a0_now_numbers, .inl (cI, 352, .inl f_a0_now_numbers)), (a0_survey, .inr (4, [.ref a0_now])), (a0_past, .inr (0, [.ref a0_past_states, .int i_a0_past_oldest, .int i_a0_past_many])), (a0_text, .inr (2, [.ref a0_text_signs, .ref a0_text_numbers, .int v69.2.1, .int i_a0_text_at, .int i_a0_text_faultPosition, .int i_a0_text_faultReason, .int i_a0_text_faultCause])), (a0_text_signs, .inl (cI, 60, .inl v69.2.2))]) dL_types_295 pkX5_count gL_types_X5_count (kkX5_count l D cI cR a0 a0_now a0_trial a0_survey a0_mending a0_past a0_text a0_now a0_now_numbers a0_past_states a0_text_signs a0_text_numbers f_a0_now_numbers i_a0_past_oldest i_a0_past_many v69.2.1 i_a0_text_at i_a0_text_faultPosition i_a0_text_faultReason i_a0_text_faultCause 0 v75 h76) ⟨rfl, rfl⟩ ⟨Nat.le_of_ble_eq_true rfl, Nat.le_of_ble_eq_true rfl⟩ rfl rfl (Nat.le_of_ble_eq_true rfl) 0 rfl rfl [0, 3, 1, 2, 4, 5] [6] rfl rfl ⟨rfl, rfl, by decide⟩ ⟨Nat.zero_le _, Nat.zero_le _⟩ [1, 3, 4, 2, 5, 6, 0] rfl rfl ?_
                obtain ⟨v78, h79, h80⟩ := bnd h77
                refine G1_callsi X (As := [.int ((x1 >>> ((3 + (4 * s11.2.1)) &&& 31)) >>> (3 &&& 31)), .int v75]) (rest := [.ref a0]) (wr := [(a0, .inr (5, [.ref a0_now, .ref a0_trial, .ref a0_survey, .ref a0_mending, .ref a0_past, .ref a0_text])), (a0_now, .inr (3, [.ref a0_now_numbers])), (a0_now_numbers, .inl (cI, 352, .inl f_a0_now_numbers)), (a0_survey, .inr (4, [.ref a0_now])), (a0_past, .inr (0, [.ref a0_past_states, .int i_a0_past_oldest, .int i_a0_past_many])), (a0_text, .inr (2, [.ref a0_text_signs, .ref a0_text_numbers, .int v69.2.1, .int i_a0_text_at, .int i_a0_text_faultPosition, .int i_a0_text_faultReason, .int i_a0_text_faultCause])), (a0_text_signs, .inl (cI, 60, .inl v69.2.2))]) (ws' := [(a0, .inr (5, [.ref a0_now, .ref a0_trial, .ref a0_survey, .ref a0_mending, .ref a0_past, .ref a0_text])), (a0_now, .inr (3, [.ref a0_now_numbers])), (a0_now_numbers, .inl (cI, 352, .inl f_a0_now_numbers)), (a0_survey, .inr (4, [.ref a0_now])), (a0_past, .inr (0, [.ref a0_past_states, .int i_a0_past_oldest, .int i_a0_past_many])), (a0_text, .inr (2, [.ref a0_text_signs, .ref a0_text_numbers, .int v69.2.1, .int i_a0_text_at, .int i_a0_text_faultPosition, .int i_a0_text_faultReason, .int i_a0_text_faultCause])), (a0_text_signs, .inl (cI, 60, .inl v69.2.2))]) dL_types_298 pkL_low gL_types_L_low (kkL_low l D cI cR ((x1 >>> ((3 + (4 * s11.2.1)) &&& 31)) >>> (3 &&& 31)) v75 v78 h79) ⟨rfl, rfl⟩ ⟨Nat.le_of_ble_eq_true rfl, Nat.le_of_ble_eq_true rfl⟩ rfl rfl (Nat.le_of_ble_eq_true rfl) [] [0, 1, 2, 3, 4, 5, 6] rfl rfl ⟨rfl, rfl, by decide⟩ ⟨Nat.zero_le _, Nat.zero_le _⟩ [0, 1, 2, 3, 4, 5, 6] rfl rfl ?_
                obtain ⟨v81, h82, h83⟩ := bnd h80
                refine G1_callsi X (As := [.ref a0, .int v78]) (rest := []) (wr := [(a0_now, .inr (3, [.ref a0_now_numbers])), (a0_now_numbers, .inl (cI, 352, .inl f_a0_now_numbers)), (a0_survey, .inr (4, [.ref a0_now])), (a0_past, .inr (0, [.ref a0_past_states, .int i_a0_past_oldest, .int i_a0_past_many]))]) (ws' := [(a0, .inr (5, [.ref a0_now, .ref a0_trial, .ref a0_survey, .ref a0_mending, .ref a0_past, .ref a0_text])), (a0_now, .inr (3, [.ref a0_now_numbers])), (a0_now_numbers, .inl (cI, 352, .inl f_a0_now_numbers)), (a0_survey, .inr (4, [.ref a0_now])), (a0_past, .inr (0, [.ref a0_past_states, .int i_a0_past_oldest, .int i_a0_past_many])), (a0_text, .inr (2, [.ref a0_text_signs, .ref a0_text_numbers, .int v81.2.1, .int i_a0_text_at, .int i_a0_text_faultPosition, .int i_a0_text_faultReason, .int i_a0_text_faultCause])), (a0_text_signs, .inl (cI, 60, .inl v81.2.2))]) dL_types_301 pkL_number gL_types_L_number (kkL_number l D cI cR a0 a0_now a0_trial a0_survey a0_mending a0_past a0_text a0_text_signs a0_text_numbers v69.2.1 i_a0_text_at i_a0_text_faultPosition i_a0_text_faultReason i_a0_text_faultCause v69.2.2 v78 v81 h82) ⟨rfl, rfl⟩ ⟨Nat.le_of_ble_eq_true rfl, Nat.le_of_ble_eq_true rfl⟩ rfl rfl (Nat.le_of_ble_eq_true rfl) [0, 5, 6] [1, 2, 3, 4] rfl rfl ⟨rfl, rfl, by decide⟩ ⟨Nat.zero_le _, Nat.zero_le _⟩ [4, 0, 1, 2, 3, 5, 6] rfl rfl ?_
                refine G_if_eq X (tgt := 311) dL_types_304 (by decide) (fun h84 => ?_) (fun h84 => ?_)
                · have h85 := ifp h84 h83
                  refine G_iconst X (v := 0) dL_types_311 (by decide) ?_
                  refine G_istore_n X (lv' := [(3, .int 0), (0, .ref a0), (1, .int x1), (2, .int v1), (4, .int s11.2.1), (5, .int (x1 >>> ((3 + (4 * s11.2.1)) &&& 31))), (6, .int v29)]) dL_types_312 (by decide) rfl ?_
                  cases h85
                  exact G_lv [1, 2, 3, 0, 4] rfl (J39)
                · have h86 := ifn h84 h83
                  refine G_iconst X (v := 1) dL_types_307 (by decide) ?_
                  refine G_goto X (tgt := 312) dL_types_308 (by decide) ?_
                  refine G_istore_n X (lv' := [(3, .int 1), (0, .ref a0), (1, .int x1), (2, .int v1), (4, .int s11.2.1), (5, .int (x1 >>> ((3 + (4 * s11.2.1)) &&& 31))), (6, .int v29)]) dL_types_312 (by decide) rfl ?_
                  cases h86
                  exact G_lv [1, 2, 3, 0, 4] rfl (J39)
          · have h87 := ifn h64 h63
            cases h87
            exact G_lv [1, 2, 3, 0, 4] rfl (J39)
        · have h88 := ifn h62 h37
          refine G_iload_n X dL_types_188 0 rfl ?_
          refine G_if_eq X (tgt := 263) dL_types_189 (by decide) (fun h89 => ?_) (fun h89 => ?_)
          · have h90 := ifp h89 h88
            refine G_iconst X (v := 0) dL_types_263 (by decide) ?_
            refine G_istore_n X (lv' := [(3, .int 0), (0, .ref a0), (1, .int x1), (2, .int v1), (4, .int s11.2.1), (5, .int (x1 >>> ((3 + (4 * s11.2.1)) &&& 31))), (6, .int v29)]) dL_types_264 (by decide) rfl ?_
            refine G_goto X (tgt := 313) dL_types_265 (by decide) ?_
            cases h90
            exact G_lv [1, 2, 3, 0, 4] rfl (J39)
          · have h91 := ifn h89 h88
            refine G_aload_n X dL_types_192 1 rfl ?_
            refine G_bipush X (v := 44) dL_types_193 (by decide) ?_
            obtain ⟨v92, h93, h94⟩ := bnd h91
            refine G1_calli X (As := [.int 44]) (rest := []) (wr := [(a0_now, .inr (3, [.ref a0_now_numbers])), (a0_now_numbers, .inl (cI, 352, .inl f_a0_now_numbers)), (a0_survey, .inr (4, [.ref a0_now])), (a0_past, .inr (0, [.ref a0_past_states, .int i_a0_past_oldest, .int i_a0_past_many]))]) (ws' := [(a0, .inr (5, [.ref a0_now, .ref a0_trial, .ref a0_survey, .ref a0_mending, .ref a0_past, .ref a0_text])), (a0_now, .inr (3, [.ref a0_now_numbers])), (a0_now_numbers, .inl (cI, 352, .inl f_a0_now_numbers)), (a0_survey, .inr (4, [.ref a0_now])), (a0_past, .inr (0, [.ref a0_past_states, .int i_a0_past_oldest, .int i_a0_past_many])), (a0_text, .inr (2, [.ref a0_text_signs, .ref a0_text_numbers, .int v92.2.1, .int i_a0_text_at, .int i_a0_text_faultPosition, .int i_a0_text_faultReason, .int i_a0_text_faultCause])), (a0_text_signs, .inl (cI, 60, .inl v92.2.2))]) dL_types_195 pkX5_type gL_types_X5_type (kkX5_type l D cI cR a0 a0_now a0_trial a0_survey a0_mending a0_past a0_text a0_text_signs a0_text_numbers j32.2.1 i_a0_text_at i_a0_text_faultPosition i_a0_text_faultReason i_a0_text_faultCause j32.2.2 44 v92 h93) ⟨rfl, rfl⟩ ⟨Nat.le_of_ble_eq_true rfl, Nat.le_of_ble_eq_true rfl⟩ rfl rfl (Nat.le_of_ble_eq_true rfl) 0 rfl rfl [0, 5, 6] [1, 2, 3, 4] rfl rfl ⟨rfl, rfl, by decide⟩ ⟨Nat.zero_le _, Nat.zero_le _⟩ [4, 0, 1, 2, 3, 5, 6] rfl rfl ?_
            refine G_if_le X (tgt := 263) dL_types_198 (by decide) (fun h95 => ?_) (fun h95 => ?_)
            · have h96 := ifp h95 h94
              refine G_iconst X (v := 0) dL_types_263 (by decide) ?_
              refine G_istore_n X (lv' := [(3, .int 0), (0, .ref a0), (1, .int x1), (2, .int v1), (4, .int s11.2.1), (5, .int (x1 >>> ((3 + (4 * s11.2.1)) &&& 31))), (6, .int v29)]) dL_types_264 (by decide) rfl ?_
              refine G_goto X (tgt := 313) dL_types_265 (by decide) ?_
              cases h96
              exact G_lv [1, 2, 3, 0, 4] rfl (J39)
            · have h97 := ifn h95 h94
              refine G_aload_n X dL_types_201 1 rfl ?_
              refine G_iload X dL_types_202 5 rfl ?_
              refine G_iconst X (v := 2) dL_types_204 (by decide) ?_
              refine G_ishr X dL_types_205 ?_
              refine G_iload_n X dL_types_206 2 rfl ?_
              refine G_bipush X (v := 24) dL_types_207 (by decide) ?_
              refine G_ishr X dL_types_209 ?_
              refine G_bipush X (v := 9) dL_types_210 (by decide) ?_
              obtain ⟨v98, h99, h100⟩ := bnd h97
              refine G1_callsi X (As := [.int (x1 >>> (24 &&& 31)), .int 9]) (rest := [.int ((x1 >>> ((3 + (4 * s11.2.1)) &&& 31)) >>> (2 &&& 31)), .ref a0]) (wr := [(a0, .inr (5, [.ref a0_now, .ref a0_trial, .ref a0_survey, .ref a0_mending, .ref a0_past, .ref a0_text])), (a0_now, .inr (3, [.ref a0_now_numbers])), (a0_now_numbers, .inl (cI, 352, .inl f_a0_now_numbers)), (a0_survey, .inr (4, [.ref a0_now])), (a0_past, .inr (0, [.ref a0_past_states, .int i_a0_past_oldest, .int i_a0_past_many])), (a0_text, .inr (2, [.ref a0_text_signs, .ref a0_text_numbers, .int v92.2.1, .int i_a0_text_at, .int i_a0_text_faultPosition, .int i_a0_text_faultReason, .int i_a0_text_faultCause])), (a0_text_signs, .inl (cI, 60, .inl v92.2.2))]) (ws' := [(a0, .inr (5, [.ref a0_now, .ref a0_trial, .ref a0_survey, .ref a0_mending, .ref a0_past, .ref a0_text])), (a0_now, .inr (3, [.ref a0_now_numbers])), (a0_now_numbers, .inl (cI, 352, .inl f_a0_now_numbers)), (a0_survey, .inr (4, [.ref a0_now])), (a0_past, .inr (0, [.ref a0_past_states, .int i_a0_past_oldest, .int i_a0_past_many])), (a0_text, .inr (2, [.ref a0_text_signs, .ref a0_text_numbers, .int v92.2.1, .int i_a0_text_at, .int i_a0_text_faultPosition, .int i_a0_text_faultReason, .int i_a0_text_faultCause])), (a0_text_signs, .inl (cI, 60, .inl v92.2.2))]) dL_types_212 pkL_low gL_types_L_low (kkL_low l D cI cR (x1 >>> (24 &&& 31)) 9 v98 h99) ⟨rfl, rfl⟩ ⟨Nat.le_of_ble_eq_true rfl, Nat.le_of_ble_eq_true rfl⟩ rfl rfl (Nat.le_of_ble_eq_true rfl) [] [0, 1, 2, 3, 4, 5, 6] rfl rfl ⟨rfl, rfl, by decide⟩ ⟨Nat.zero_le _, Nat.zero_le _⟩ [0, 1, 2, 3, 4, 5, 6] rfl rfl ?_
              obtain ⟨j101, h102, h103⟩ := bnd h100
              have J104 : G p l e rmL_types s m args below meth c D A 7 Q 0 0 225 [(0, .ref a0), (1, .int x1), (2, .int v1), (4, .int s11.2.1), (5, .int (x1 >>> ((3 + (4 * s11.2.1)) &&& 31)))] [.int j101, .int ((x1 >>> ((3 + (4 * s11.2.1)) &&& 31)) >>> (2 &&& 31)), .ref a0] [(a0, .inr (5, [.ref a0_now, .ref a0_trial, .ref a0_survey, .ref a0_mending, .ref a0_past, .ref a0_text])), (a0_now, .inr (3, [.ref a0_now_numbers])), (a0_now_numbers, .inl (cI, 352, .inl f_a0_now_numbers)), (a0_survey, .inr (4, [.ref a0_now])), (a0_past, .inr (0, [.ref a0_past_states, .int i_a0_past_oldest, .int i_a0_past_many])), (a0_text, .inr (2, [.ref a0_text_signs, .ref a0_text_numbers, .int v92.2.1, .int i_a0_text_at, .int i_a0_text_faultPosition, .int i_a0_text_faultReason, .int i_a0_text_faultCause])), (a0_text_signs, .inl (cI, 60, .inl v92.2.2))] := by
                obtain ⟨v105, h106, h107⟩ := bnd h103
                refine G1_callsi X (As := [.int ((x1 >>> ((3 + (4 * s11.2.1)) &&& 31)) >>> (2 &&& 31)), .int j101]) (rest := [.ref a0]) (wr := [(a0, .inr (5, [.ref a0_now, .ref a0_trial, .ref a0_survey, .ref a0_mending, .ref a0_past, .ref a0_text])), (a0_now, .inr (3, [.ref a0_now_numbers])), (a0_now_numbers, .inl (cI, 352, .inl f_a0_now_numbers)), (a0_survey, .inr (4, [.ref a0_now])), (a0_past, .inr (0, [.ref a0_past_states, .int i_a0_past_oldest, .int i_a0_past_many])), (a0_text, .inr (2, [.ref a0_text_signs, .ref a0_text_numbers, .int v92.2.1, .int i_a0_text_at, .int i_a0_text_faultPosition, .int i_a0_text_faultReason, .int i_a0_text_faultCause])), (a0_text_signs, .inl (cI, 60, .inl v92.2.2))]) (ws' := [(a0, .inr (5, [.ref a0_now, .ref a0_trial, .ref a0_survey, .ref a0_mending, .ref a0_past, .ref a0_text])), (a0_now, .inr (3, [.ref a0_now_numbers])), (a0_now_numbers, .inl (cI, 352, .inl f_a0_now_numbers)), (a0_survey, .inr (4, [.ref a0_now])), (a0_past, .inr (0, [.ref a0_past_states, .int i_a0_past_oldest, .int i_a0_past_many])), (a0_text, .inr (2, [.ref a0_text_signs, .ref a0_text_numbers, .int v92.2.1, .int i_a0_text_at, .int i_a0_text_faultPosition, .int i_a0_text_faultReason, .int i_a0_text_faultCause])), (a0_text_signs, .inl (cI, 60, .inl v92.2.2))]) dL_types_225 pkL_low gL_types_L_low (kkL_low l D cI cR ((x1 >>> ((3 + (4 * s11.2.1)) &&& 31)) >>> (2 &&& 31)) j101 v105 h106) ⟨rfl, rfl⟩ ⟨Nat.le_of_ble_eq_true rfl, Nat.le_of_ble_eq_true rfl⟩ rfl rfl (Nat.le_of_ble_eq_true rfl) [] [0, 1, 2, 3, 4, 5, 6] rfl rfl ⟨rfl, rfl, by decide⟩ ⟨Nat.zero_le _, Nat.zero_le _⟩ [0, 1, 2, 3, 4, 5, 6] rfl rfl ?_
                obtain ⟨v108, h109, h110⟩ := bnd h107
                refine G1_callsi X (As := [.ref a0, .int v105]) (rest := []) (wr := [(a0_now, .inr (3, [.ref a0_now_numbers])), (a0_now_numbers, .inl (cI, 352, .inl f_a0_now_numbers)), (a0_survey, .inr (4, [.ref a0_now])), (a0_past, .inr (0, [.ref a0_past_states, .int i_a0_past_oldest, .int i_a0_past_many]))]) (ws' := [(a0, .inr (5, [.ref a0_now, .ref a0_trial, .ref a0_survey, .ref a0_mending, .ref a0_past, .ref a0_text])), (a0_now, .inr (3, [.ref a0_now_numbers])), (a0_now_numbers, .inl (cI, 352, .inl f_a0_now_numbers)), (a0_survey, .inr (4, [.ref a0_now])), (a0_past, .inr (0, [.ref a0_past_states, .int i_a0_past_oldest, .int i_a0_past_many])), (a0_text, .inr (2, [.ref a0_text_signs, .ref a0_text_numbers, .int v108.2.1, .int i_a0_text_at, .int i_a0_text_faultPosition, .int i_a0_text_faultReason, .int i_a0_text_faultCause])), (a0_text_signs, .inl (cI, 60, .inl v108.2.2))]) dL_types_228 pkL_number gL_types_L_number (kkL_number l D cI cR a0 a0_now a0_trial a0_survey a0_mending a0_past a0_text a0_text_signs a0_text_numbers v92.2.1 i_a0_text_at i_a0_text_faultPosition i_a0_text_faultReason i_a0_text_faultCause v92.2.2 v105 v108 h109) ⟨rfl, rfl⟩ ⟨Nat.le_of_ble_eq_true rfl, Nat.le_of_ble_eq_true rfl⟩ rfl rfl (Nat.le_of_ble_eq_true rfl) [0, 5, 6] [1, 2, 3, 4] rfl rfl ⟨rfl, rfl, by decide⟩ ⟨Nat.zero_le _, Nat.zero_le _⟩ [4, 0, 1, 2, 3, 5, 6] rfl rfl ?_
                refine G_if_eq X (tgt := 263) dL_types_231 (by decide) (fun h111 => ?_) (fun h111 => ?_)
                · have h112 := ifp h111 h110
                  refine G_iconst X (v := 0) dL_types_263 (by decide) ?_
                  refine G_istore_n X (lv' := [(3, .int 0), (0, .ref a0), (1, .int x1), (2, .int v1), (4, .int s11.2.1), (5, .int (x1 >>> ((3 + (4 * s11.2.1)) &&& 31)))]) dL_types_264 (by decide) rfl ?_
                  refine G_goto X (tgt := 313) dL_types_265 (by decide) ?_
                  cases h112
                  exact G_lv [1, 2, 3, 0, 4] rfl (J39)
                · have h113 := ifn h111 h110
                  refine G_aload_n X dL_types_234 0 rfl ?_
                  refine G_bipush X (v := 44) dL_types_235 (by decide) ?_
                  obtain ⟨v114, h115, h116⟩ := bnd h113
                  refine G1_calli X (As := [.int 44]) (rest := []) (wr := [(a0_now, .inr (3, [.ref a0_now_numbers])), (a0_now_numbers, .inl (cI, 352, .inl f_a0_now_numbers)), (a0_survey, .inr (4, [.ref a0_now])), (a0_past, .inr (0, [.ref a0_past_states, .int i_a0_past_oldest, .int i_a0_past_many]))]) (ws' := [(a0, .inr (5, [.ref a0_now, .ref a0_trial, .ref a0_survey, .ref a0_mending, .ref a0_past, .ref a0_text])), (a0_now, .inr (3, [.ref a0_now_numbers])), (a0_now_numbers, .inl (cI, 352, .inl f_a0_now_numbers)), (a0_survey, .inr (4, [.ref a0_now])), (a0_past, .inr (0, [.ref a0_past_states, .int i_a0_past_oldest, .int i_a0_past_many])), (a0_text, .inr (2, [.ref a0_text_signs, .ref a0_text_numbers, .int v114.2.1, .int i_a0_text_at, .int i_a0_text_faultPosition, .int i_a0_text_faultReason, .int i_a0_text_faultCause])), (a0_text_signs, .inl (cI, 60, .inl v114.2.2))]) dL_types_237 pkX5_type gL_types_X5_type (kkX5_type l D cI cR a0 a0_now a0_trial a0_survey a0_mending a0_past a0_text a0_text_signs a0_text_numbers v108.2.1 i_a0_text_at i_a0_text_faultPosition i_a0_text_faultReason i_a0_text_faultCause v108.2.2 44 v114 h115) ⟨rfl, rfl⟩ ⟨Nat.le_of_ble_eq_true rfl, Nat.le_of_ble_eq_true rfl⟩ rfl rfl (Nat.le_of_ble_eq_true rfl) 0 rfl rfl [0, 5, 6] [1, 2, 3, 4] rfl rfl ⟨rfl, rfl, by decide⟩ ⟨Nat.zero_le _, Nat.zero_le _⟩ [4, 0, 1, 2, 3, 5, 6] rfl rfl ?_
                  refine G_if_le X (tgt := 263) dL_types_240 (by decide) (fun h117 => ?_) (fun h117 => ?_)
                  · have h118 := ifp h117 h116
                    refine G_iconst X (v := 0) dL_types_263 (by decide) ?_
                    refine G_istore_n X (lv' := [(3, .int 0), (0, .ref a0), (1, .int x1), (2, .int v1), (4, .int s11.2.1), (5, .int (x1 >>> ((3 + (4 * s11.2.1)) &&& 31)))]) dL_types_264 (by decide) rfl ?_
                    refine G_goto X (tgt := 313) dL_types_265 (by decide) ?_
                    cases h118
                    exact G_lv [1, 2, 3, 0, 4] rfl (J39)
                  · have h119 := ifn h117 h116
                    refine G_aload_n X dL_types_243 0 rfl ?_
                    refine G_iload X dL_types_244 4 rfl ?_
                    refine G_iconst X (v := 3) dL_types_246 (by decide) ?_
                    refine G_ishr X dL_types_247 ?_
                    refine G_bipush X (v := 40) dL_types_248 (by decide) ?_
                    obtain ⟨v120, h121, h122⟩ := bnd h119
                    refine G1_callsi X (As := [.int ((x1 >>> ((3 + (4 * s11.2.1)) &&& 31)) >>> (3 &&& 31)), .int 40]) (rest := [.ref a0]) (wr := [(a0, .inr (5, [.ref a0_now, .ref a0_trial, .ref a0_survey, .ref a0_mending, .ref a0_past, .ref a0_text])), (a0_now, .inr (3, [.ref a0_now_numbers])), (a0_now_numbers, .inl (cI, 352, .inl f_a0_now_numbers)), (a0_survey, .inr (4, [.ref a0_now])), (a0_past, .inr (0, [.ref a0_past_states, .int i_a0_past_oldest, .int i_a0_past_many])), (a0_text, .inr (2, [.ref a0_text_signs, .ref a0_text_numbers, .int v114.2.1, .int i_a0_text_at, .int i_a0_text_faultPosition, .int i_a0_text_faultReason, .int i_a0_text_faultCause])), (a0_text_signs, .inl (cI, 60, .inl v114.2.2))]) (ws' := [(a0, .inr (5, [.ref a0_now, .ref a0_trial, .ref a0_survey, .ref a0_mending, .ref a0_past, .ref a0_text])), (a0_now, .inr (3, [.ref a0_now_numbers])), (a0_now_numbers, .inl (cI, 352, .inl f_a0_now_numbers)), (a0_survey, .inr (4, [.ref a0_now])), (a0_past, .inr (0, [.ref a0_past_states, .int i_a0_past_oldest, .int i_a0_past_many])), (a0_text, .inr (2, [.ref a0_text_signs, .ref a0_text_numbers, .int v114.2.1, .int i_a0_text_at, .int i_a0_text_faultPosition, .int i_a0_text_faultReason, .int i_a0_text_faultCause])), (a0_text_signs, .inl (cI, 60, .inl v114.2.2))]) dL_types_250 pkL_low gL_types_L_low (kkL_low l D cI cR ((x1 >>> ((3 + (4 * s11.2.1)) &&& 31)) >>> (3 &&& 31)) 40 v120 h121) ⟨rfl, rfl⟩ ⟨Nat.le_of_ble_eq_true rfl, Nat.le_of_ble_eq_true rfl⟩ rfl rfl (Nat.le_of_ble_eq_true rfl) [] [0, 1, 2, 3, 4, 5, 6] rfl rfl ⟨rfl, rfl, by decide⟩ ⟨Nat.zero_le _, Nat.zero_le _⟩ [0, 1, 2, 3, 4, 5, 6] rfl rfl ?_
                    obtain ⟨v123, h124, h125⟩ := bnd h122
                    refine G1_callsi X (As := [.ref a0, .int v120]) (rest := []) (wr := [(a0_now, .inr (3, [.ref a0_now_numbers])), (a0_now_numbers, .inl (cI, 352, .inl f_a0_now_numbers)), (a0_survey, .inr (4, [.ref a0_now])), (a0_past, .inr (0, [.ref a0_past_states, .int i_a0_past_oldest, .int i_a0_past_many]))]) (ws' := [(a0, .inr (5, [.ref a0_now, .ref a0_trial, .ref a0_survey, .ref a0_mending, .ref a0_past, .ref a0_text])), (a0_now, .inr (3, [.ref a0_now_numbers])), (a0_now_numbers, .inl (cI, 352, .inl f_a0_now_numbers)), (a0_survey, .inr (4, [.ref a0_now])), (a0_past, .inr (0, [.ref a0_past_states, .int i_a0_past_oldest, .int i_a0_past_many])), (a0_text, .inr (2, [.ref a0_text_signs, .ref a0_text_numbers, .int v123.2.1, .int i_a0_text_at, .int i_a0_text_faultPosition, .int i_a0_text_faultReason, .int i_a0_text_faultCause])), (a0_text_signs, .inl (cI, 60, .inl v123.2.2))]) dL_types_253 pkL_number gL_types_L_number (kkL_number l D cI cR a0 a0_now a0_trial a0_survey a0_mending a0_past a0_text a0_text_signs a0_text_numbers v114.2.1 i_a0_text_at i_a0_text_faultPosition i_a0_text_faultReason i_a0_text_faultCause v114.2.2 v120 v123 h124) ⟨rfl, rfl⟩ ⟨Nat.le_of_ble_eq_true rfl, Nat.le_of_ble_eq_true rfl⟩ rfl rfl (Nat.le_of_ble_eq_true rfl) [0, 5, 6] [1, 2, 3, 4] rfl rfl ⟨rfl, rfl, by decide⟩ ⟨Nat.zero_le _, Nat.zero_le _⟩ [4, 0, 1, 2, 3, 5, 6] rfl rfl ?_
                    refine G_if_eq X (tgt := 263) dL_types_256 (by decide) (fun h126 => ?_) (fun h126 => ?_)
                    · have h127 := ifp h126 h125
                      refine G_iconst X (v := 0) dL_types_263 (by decide) ?_
                      refine G_istore_n X (lv' := [(3, .int 0), (0, .ref a0), (1, .int x1), (2, .int v1), (4, .int s11.2.1), (5, .int (x1 >>> ((3 + (4 * s11.2.1)) &&& 31)))]) dL_types_264 (by decide) rfl ?_
                      refine G_goto X (tgt := 313) dL_types_265 (by decide) ?_
                      cases h127
                      exact G_lv [1, 2, 3, 0, 4] rfl (J39)
                    · have h128 := ifn h126 h125
                      refine G_iconst X (v := 1) dL_types_259 (by decide) ?_
                      refine G_goto X (tgt := 264) dL_types_260 (by decide) ?_
                      refine G_istore_n X (lv' := [(3, .int 1), (0, .ref a0), (1, .int x1), (2, .int v1), (4, .int s11.2.1), (5, .int (x1 >>> ((3 + (4 * s11.2.1)) &&& 31)))]) dL_types_264 (by decide) rfl ?_
                      refine G_goto X (tgt := 313) dL_types_265 (by decide) ?_
                      cases h128
                      exact G_lv [1, 2, 3, 0, 4] rfl (J39)
              refine G_if_ne X (tgt := 223) dL_types_215 (by decide) (fun h129 => ?_) (fun h129 => ?_)
              · have h130 := ifp h129 h102
                refine G_bipush X (v := 9) dL_types_218 (by decide) ?_
                refine G_goto X (tgt := 225) dL_types_220 (by decide) ?_
                cases h130
                exact G_lv [1, 2, 3, 4, 5] rfl (J104)
              · have h131 := ifn h129 h102
                refine G_bipush X (v := 8) dL_types_223 (by decide) ?_
                cases h131
                exact G_lv [1, 2, 3, 4, 5] rfl (J104)
      refine G_if_eq X (tgt := 180) dL_types_49 (by decide) (fun h132 => ?_) (fun h132 => ?_)
      · have h133 := ifp h132 h33
        refine G_iconst X (v := 0) dL_types_180 (by decide) ?_
        cases h133
        exact G_lv [2, 3, 4, 6, 1, 0] rfl (J35)
      · have h134 := ifn h132 h33
        refine G_aload_n X dL_types_52 2 rfl ?_
        refine G_iload X dL_types_53 0 rfl ?_
        refine G_iconst X (v := 3) dL_types_55 (by decide) ?_
        obtain ⟨j135, h136, h137⟩ := bnd h134
        have J138 : G p l e rmL_types s m args below meth c D A 7 Q 0 0 113 [(0, .ref a0), (1, .int x1), (2, .int v1), (4, .int s11.2.1), (5, .int (x1 >>> ((3 + (4 * s11.2.1)) &&& 31))), (6, .int v29)] [.int j135, .ref a0] [(a0, .inr (5, [.ref a0_now, .ref a0_trial, .ref a0_survey, .ref a0_mending, .ref a0_past, .ref a0_text])), (a0_now, .inr (3, [.ref a0_now_numbers])), (a0_now_numbers, .inl (cI, 352, .inl f_a0_now_numbers)), (a0_survey, .inr (4, [.ref a0_now])), (a0_past, .inr (0, [.ref a0_past_states, .int i_a0_past_oldest, .int i_a0_past_many])), (a0_text, .inr (2, [.ref a0_text_signs, .ref a0_text_numbers, .int s11.2.2.1, .int i_a0_text_at, .int i_a0_text_faultPosition, .int i_a0_text_faultReason, .int i_a0_text_faultCause])), (a0_text_signs, .inl (cI, 60, .inl s11.2.2.2))] := by
          obtain ⟨v139, h140, h141⟩ := bnd h137
          refine G1_calli X (As := [.int j135]) (rest := []) (wr := [(a0_now, .inr (3, [.ref a0_now_numbers])), (a0_now_numbers, .inl (cI, 352, .inl f_a0_now_numbers)), (a0_survey, .inr (4, [.ref a0_now])), (a0_past, .inr (0, [.ref a0_past_states, .int i_a0_past_oldest, .int i_a0_past_many]))]) (ws' := [(a0, .inr (5, [.ref a0_now, .ref a0_trial, .ref a0_survey, .ref a0_mending, .ref a0_past, .ref a0_text])), (a0_now, .inr (3, [.ref a0_now_numbers])), (a0_now_numbers, .inl (cI, 352, .inl f_a0_now_numbers)), (a0_survey, .inr (4, [.ref a0_now])), (a0_past, .inr (0, [.ref a0_past_states, .int i_a0_past_oldest, .int i_a0_past_many])), (a0_text, .inr (2, [.ref a0_text_signs, .ref a0_text_numbers, .int v139.2.1, .int i_a0_text_at, .int i_a0_text_faultPosition, .int i_a0_text_faultReason, .int i_a0_text_faultCause])), (a0_text_signs, .inl (cI, 60, .inl v139.2.2))]) dL_types_113 pkX5_type gL_types_X5_type (kkX5_type l D cI cR a0 a0_now a0_trial a0_survey a0_mending a0_past a0_text a0_text_signs a0_text_numbers s11.2.2.1 i_a0_text_at i_a0_text_faultPosition i_a0_text_faultReason i_a0_text_faultCause s11.2.2.2 j135 v139 h140) ⟨rfl, rfl⟩ ⟨Nat.le_of_ble_eq_true rfl, Nat.le_of_ble_eq_true rfl⟩ rfl rfl (Nat.le_of_ble_eq_true rfl) 0 rfl rfl [0, 5, 6] [1, 2, 3, 4] rfl rfl ⟨rfl, rfl, by decide⟩ ⟨Nat.zero_le _, Nat.zero_le _⟩ [4, 0, 1, 2, 3, 5, 6] rfl rfl ?_
          refine G_if_le X (tgt := 180) dL_types_116 (by decide) (fun h142 => ?_) (fun h142 => ?_)
          · have h143 := ifp h142 h141
            refine G_iconst X (v := 0) dL_types_180 (by decide) ?_
            cases h143
            exact J35
          · have h144 := ifn h142 h141
            refine G_aload_n X dL_types_119 0 rfl ?_
            refine G_iload X dL_types_120 5 rfl ?_
            refine G_bipush X (v := 8) dL_types_122 (by decide) ?_
            obtain ⟨j145, h146, h147⟩ := bnd h144
            have J148 : G p l e rmL_types s m args below meth c D A 7 Q 0 0 170 [(0, .ref a0), (1, .int x1), (2, .int v1), (4, .int s11.2.1), (5, .int (x1 >>> ((3 + (4 * s11.2.1)) &&& 31))), (6, .int v29)] [.int j145, .ref a0] [(a0, .inr (5, [.ref a0_now, .ref a0_trial, .ref a0_survey, .ref a0_mending, .ref a0_past, .ref a0_text])), (a0_now, .inr (3, [.ref a0_now_numbers])), (a0_now_numbers, .inl (cI, 352, .inl f_a0_now_numbers)), (a0_survey, .inr (4, [.ref a0_now])), (a0_past, .inr (0, [.ref a0_past_states, .int i_a0_past_oldest, .int i_a0_past_many])), (a0_text, .inr (2, [.ref a0_text_signs, .ref a0_text_numbers, .int v139.2.1, .int i_a0_text_at, .int i_a0_text_faultPosition, .int i_a0_text_faultReason, .int i_a0_text_faultCause])), (a0_text_signs, .inl (cI, 60, .inl v139.2.2))] := by
              obtain ⟨v149, h150, h151⟩ := bnd h147
              refine G1_callsi X (As := [.ref a0, .int j145]) (rest := []) (wr := [(a0_now, .inr (3, [.ref a0_now_numbers])), (a0_now_numbers, .inl (cI, 352, .inl f_a0_now_numbers)), (a0_survey, .inr (4, [.ref a0_now])), (a0_past, .inr (0, [.ref a0_past_states, .int i_a0_past_oldest, .int i_a0_past_many]))]) (ws' := [(a0, .inr (5, [.ref a0_now, .ref a0_trial, .ref a0_survey, .ref a0_mending, .ref a0_past, .ref a0_text])), (a0_now, .inr (3, [.ref a0_now_numbers])), (a0_now_numbers, .inl (cI, 352, .inl f_a0_now_numbers)), (a0_survey, .inr (4, [.ref a0_now])), (a0_past, .inr (0, [.ref a0_past_states, .int i_a0_past_oldest, .int i_a0_past_many])), (a0_text, .inr (2, [.ref a0_text_signs, .ref a0_text_numbers, .int v149.2.1, .int i_a0_text_at, .int i_a0_text_faultPosition, .int i_a0_text_faultReason, .int i_a0_text_faultCause])), (a0_text_signs, .inl (cI, 60, .inl v149.2.2))]) dL_types_170 pkL_number gL_types_L_number (kkL_number l D cI cR a0 a0_now a0_trial a0_survey a0_mending a0_past a0_text a0_text_signs a0_text_numbers v139.2.1 i_a0_text_at i_a0_text_faultPosition i_a0_text_faultReason i_a0_text_faultCause v139.2.2 j145 v149 h150) ⟨rfl, rfl⟩ ⟨Nat.le_of_ble_eq_true rfl, Nat.le_of_ble_eq_true rfl⟩ rfl rfl (Nat.le_of_ble_eq_true rfl) [0, 5, 6] [1, 2, 3, 4] rfl rfl ⟨rfl, rfl, by decide⟩ ⟨Nat.zero_le _, Nat.zero_le _⟩ [4, 0, 1, 2, 3, 5, 6] rfl rfl ?_
              refine G_if_eq X (tgt := 180) dL_types_173 (by decide) (fun h152 => ?_) (fun h152 => ?_)
              · have h153 := ifp h152 h151
                refine G_iconst X (v := 0) dL_types_180 (by decide) ?_
                cases h153
                exact J35
              · have h154 := ifn h152 h151
                refine G_iconst X (v := 1) dL_types_176 (by decide) ?_
                refine G_goto X (tgt := 181) dL_types_177 (by decide) ?_
                cases h154
                exact J35
            refine G_icmp_ne X (tgt := 158) dL_types_124 (by decide) (fun h155 => ?_) (fun h155 => ?_)
            · have h156 := ifp h155 h146
              refine G_iconst X (v := 1) dL_types_127 (by decide) ?_
              refine G_iload X dL_types_128 4 rfl ?_
              refine G_iconst X (v := 2) dL_types_130 (by decide) ?_
              refine G_ishr X dL_types_131 ?_
              refine G_iload_n X dL_types_132 1 rfl ?_
              refine G_bipush X (v := 25) dL_types_133 (by decide) ?_
              refine G_ishr X dL_types_135 ?_
              refine G_bipush X (v := 9) dL_types_136 (by decide) ?_
              obtain ⟨v157, h158, h159⟩ := bnd h156
              refine G1_callsi X (As := [.int (x1 >>> (25 &&& 31)), .int 9]) (rest := [.int ((x1 >>> ((3 + (4 * s11.2.1)) &&& 31)) >>> (2 &&& 31)), .int 1, .ref a0]) (wr := [(a0, .inr (5, [.ref a0_now, .ref a0_trial, .ref a0_survey, .ref a0_mending, .ref a0_past, .ref a0_text])), (a0_now, .inr (3, [.ref a0_now_numbers])), (a0_now_numbers, .inl (cI, 352, .inl f_a0_now_numbers)), (a0_survey, .inr (4, [.ref a0_now])), (a0_past, .inr (0, [.ref a0_past_states, .int i_a0_past_oldest, .int i_a0_past_many])), (a0_text, .inr (2, [.ref a0_text_signs, .ref a0_text_numbers, .int v139.2.1, .int i_a0_text_at, .int i_a0_text_faultPosition, .int i_a0_text_faultReason, .int i_a0_text_faultCause])), (a0_text_signs, .inl (cI, 60, .inl v139.2.2))]) (ws' := [(a0, .inr (5, [.ref a0_now, .ref a0_trial, .ref a0_survey, .ref a0_mending, .ref a0_past, .ref a0_text])), (a0_now, .inr (3, [.ref a0_now_numbers])), (a0_now_numbers, .inl (cI, 352, .inl f_a0_now_numbers)), (a0_survey, .inr (4, [.ref a0_now])), (a0_past, .inr (0, [.ref a0_past_states, .int i_a0_past_oldest, .int i_a0_past_many])), (a0_text, .inr (2, [.ref a0_text_signs, .ref a0_text_numbers, .int v139.2.1, .int i_a0_text_at, .int i_a0_text_faultPosition, .int i_a0_text_faultReason, .int i_a0_text_faultCause])), (a0_text_signs, .inl (cI, 60, .inl v139.2.2))]) dL_types_138 pkL_low gL_types_L_low (kkL_low l D cI cR (x1 >>> (25 &&& 31)) 9 v157 h158) ⟨rfl, rfl⟩ ⟨Nat.le_of_ble_eq_true rfl, Nat.le_of_ble_eq_true rfl⟩ rfl rfl (Nat.le_of_ble_eq_true rfl) [] [0, 1, 2, 3, 4, 5, 6] rfl rfl ⟨rfl, rfl, by decide⟩ ⟨Nat.zero_le _, Nat.zero_le _⟩ [0, 1, 2, 3, 4, 5, 6] rfl rfl ?_
              obtain ⟨j160, h161, h162⟩ := bnd h159
              have J163 : G p l e rmL_types s m args below meth c D A 7 Q 0 0 151 [(0, .ref a0), (1, .int x1), (2, .int v1), (4, .int s11.2.1), (5, .int (x1 >>> ((3 + (4 * s11.2.1)) &&& 31))), (6, .int v29)] [.int j160, .int ((x1 >>> ((3 + (4 * s11.2.1)) &&& 31)) >>> (2 &&& 31)), .int 1, .ref a0] [(a0, .inr (5, [.ref a0_now, .ref a0_trial, .ref a0_survey, .ref a0_mending, .ref a0_past, .ref a0_text])), (a0_now, .inr (3, [.ref a0_now_numbers])), (a0_now_numbers, .inl (cI, 352, .inl f_a0_now_numbers)), (a0_survey, .inr (4, [.ref a0_now])), (a0_past, .inr (0, [.ref a0_past_states, .int i_a0_past_oldest, .int i_a0_past_many])), (a0_text, .inr (2, [.ref a0_text_signs, .ref a0_text_numbers, .int v139.2.1, .int i_a0_text_at, .int i_a0_text_faultPosition, .int i_a0_text_faultReason, .int i_a0_text_faultCause])), (a0_text_signs, .inl (cI, 60, .inl v139.2.2))] := by
                obtain ⟨v164, h165, h166⟩ := bnd h162
                refine G1_callsi X (As := [.int ((x1 >>> ((3 + (4 * s11.2.1)) &&& 31)) >>> (2 &&& 31)), .int j160]) (rest := [.int 1, .ref a0]) (wr := [(a0, .inr (5, [.ref a0_now, .ref a0_trial, .ref a0_survey, .ref a0_mending, .ref a0_past, .ref a0_text])), (a0_now, .inr (3, [.ref a0_now_numbers])), (a0_now_numbers, .inl (cI, 352, .inl f_a0_now_numbers)), (a0_survey, .inr (4, [.ref a0_now])), (a0_past, .inr (0, [.ref a0_past_states, .int i_a0_past_oldest, .int i_a0_past_many])), (a0_text, .inr (2, [.ref a0_text_signs, .ref a0_text_numbers, .int v139.2.1, .int i_a0_text_at, .int i_a0_text_faultPosition, .int i_a0_text_faultReason, .int i_a0_text_faultCause])), (a0_text_signs, .inl (cI, 60, .inl v139.2.2))]) (ws' := [(a0, .inr (5, [.ref a0_now, .ref a0_trial, .ref a0_survey, .ref a0_mending, .ref a0_past, .ref a0_text])), (a0_now, .inr (3, [.ref a0_now_numbers])), (a0_now_numbers, .inl (cI, 352, .inl f_a0_now_numbers)), (a0_survey, .inr (4, [.ref a0_now])), (a0_past, .inr (0, [.ref a0_past_states, .int i_a0_past_oldest, .int i_a0_past_many])), (a0_text, .inr (2, [.ref a0_text_signs, .ref a0_text_numbers, .int v139.2.1, .int i_a0_text_at, .int i_a0_text_faultPosition, .int i_a0_text_faultReason, .int i_a0_text_faultCause])), (a0_text_signs, .inl (cI, 60, .inl v139.2.2))]) dL_types_151 pkL_low gL_types_L_low (kkL_low l D cI cR ((x1 >>> ((3 + (4 * s11.2.1)) &&& 31)) >>> (2 &&& 31)) j160 v164 h165) ⟨rfl, rfl⟩ ⟨Nat.le_of_ble_eq_true rfl, Nat.le_of_ble_eq_true rfl⟩ rfl rfl (Nat.le_of_ble_eq_true rfl) [] [0, 1, 2, 3, 4, 5, 6] rfl rfl ⟨rfl, rfl, by decide⟩ ⟨Nat.zero_le _, Nat.zero_le _⟩ [0, 1, 2, 3, 4, 5, 6] rfl rfl ?_
                refine G_iadd X dL_types_154 ?_
                refine G_goto X (tgt := 170) dL_types_155 (by decide) ?_
                cases h166
                exact J148
              refine G_if_ne X (tgt := 149) dL_types_141 (by decide) (fun h167 => ?_) (fun h167 => ?_)
              · have h168 := ifp h167 h161
                refine G_bipush X (v := 120) dL_types_144 (by decide) ?_
                refine G_goto X (tgt := 151) dL_types_146 (by decide) ?_
                cases h168
                exact J163
              · have h169 := ifn h167 h161
                refine G_bipush X (v := 9) dL_types_149 (by decide) ?_
                cases h169
                exact J163
            · have h170 := ifn h155 h146
              refine G_iload X dL_types_158 4 rfl ?_
              refine G_iconst X (v := 1) dL_types_160 (by decide) ?_
              refine G_ishr X dL_types_161 ?_
              refine G_aload_n X dL_types_162 0 rfl ?_
              refine G_iconst X (v := 0) dL_types_163 (by decide) ?_
              obtain ⟨v171, h172, h173⟩ := bnd h170
              refine G1_calli X (As := [.int 0]) (rest := [.int ((x1 >>> ((3 + (4 * s11.2.1)) &&& 31)) >>> (1 &&& 31)), .ref a0]) (wr := [(a0_text_signs, .inl (cI, 60, .inl v139.2.2))]) (ws' := [(a0, .inr (5, [.ref a0_now, .ref a0_trial, .ref a0_survey, .ref a0_mending, .ref a0_past, .ref a0_text])), (a0_now, .inr (3, [.ref a0_now_numbers])), (a0_now_numbers, .inl (cI, 352, .inl f_a0_now_numbers)), (a0_survey, .inr (4, [.ref a0_now])), (a0_past, .inr (0, [.ref a0_past_states, .int i_a0_past_oldest, .int i_a0_past_many])), (a0_text, .inr (2, [.ref a0_text_signs, .ref a0_text_numbers, .int v139.2.1, .int i_a0_text_at, .int i_a0_text_faultPosition, .int i_a0_text_faultReason, .int i_a0_text_faultCause])), (a0_text_signs, .inl (cI, 60, .inl v139.2.2))]) dL_types_164 pkX5_count gL_types_X5_count (kkX5_count l D cI cR a0 a0_now a0_trial a0_survey a0_mending a0_past a0_text a0_now a0_now_numbers a0_past_states a0_text_signs a0_text_numbers f_a0_now_numbers i_a0_past_oldest i_a0_past_many v139.2.1 i_a0_text_at i_a0_text_faultPosition i_a0_text_faultReason i_a0_text_faultCause 0 v171 h172) ⟨rfl, rfl⟩ ⟨Nat.le_of_ble_eq_true rfl, Nat.le_of_ble_eq_true rfl⟩ rfl rfl (Nat.le_of_ble_eq_true rfl) 0 rfl rfl [0, 3, 1, 2, 4, 5] [6] rfl rfl ⟨rfl, rfl, by decide⟩ ⟨Nat.zero_le _, Nat.zero_le _⟩ [1, 3, 4, 2, 5, 6, 0] rfl rfl ?_
              obtain ⟨v174, h175, h176⟩ := bnd h173
              refine G1_callsi X (As := [.int ((x1 >>> ((3 + (4 * s11.2.1)) &&& 31)) >>> (1 &&& 31)), .int v171]) (rest := [.ref a0]) (wr := [(a0, .inr (5, [.ref a0_now, .ref a0_trial, .ref a0_survey, .ref a0_mending, .ref a0_past, .ref a0_text])), (a0_now, .inr (3, [.ref a0_now_numbers])), (a0_now_numbers, .inl (cI, 352, .inl f_a0_now_numbers)), (a0_survey, .inr (4, [.ref a0_now])), (a0_past, .inr (0, [.ref a0_past_states, .int i_a0_past_oldest, .int i_a0_past_many])), (a0_text, .inr (2, [.ref a0_text_signs, .ref a0_text_numbers, .int v139.2.1, .int i_a0_text_at, .int i_a0_text_faultPosition, .int i_a0_text_faultReason, .int i_a0_text_faultCause])), (a0_text_signs, .inl (cI, 60, .inl v139.2.2))]) (ws' := [(a0, .inr (5, [.ref a0_now, .ref a0_trial, .ref a0_survey, .ref a0_mending, .ref a0_past, .ref a0_text])), (a0_now, .inr (3, [.ref a0_now_numbers])), (a0_now_numbers, .inl (cI, 352, .inl f_a0_now_numbers)), (a0_survey, .inr (4, [.ref a0_now])), (a0_past, .inr (0, [.ref a0_past_states, .int i_a0_past_oldest, .int i_a0_past_many])), (a0_text, .inr (2, [.ref a0_text_signs, .ref a0_text_numbers, .int v139.2.1, .int i_a0_text_at, .int i_a0_text_faultPosition, .int i_a0_text_faultReason, .int i_a0_text_faultCause])), (a0_text_signs, .inl (cI, 60, .inl v139.2.2))]) dL_types_167 pkL_low gL_types_L_low (kkL_low l D cI cR ((x1 >>> ((3 + (4 * s11.2.1)) &&& 31)) >>> (1 &&& 31)) v171 v174 h175) ⟨rfl, rfl⟩ ⟨Nat.le_of_ble_eq_true rfl, Nat.le_of_ble_eq_true rfl⟩ rfl rfl (Nat.le_of_ble_eq_true rfl) [] [0, 1, 2, 3, 4, 5, 6] rfl rfl ⟨rfl, rfl, by decide⟩ ⟨Nat.zero_le _, Nat.zero_le _⟩ [0, 1, 2, 3, 4, 5, 6] rfl rfl ?_
              cases h176
              exact J148
        refine G_icmp_ge X (tgt := 64) dL_types_56 (by decide) (fun h177 => ?_) (fun h177 => ?_)
        · have h178 := ifp h177 h136
          refine G_iload X dL_types_64 0 rfl ?_
          refine G_iconst X (v := 3) dL_types_66 (by decide) ?_
          refine G_icmp_ne X (tgt := 75) dL_types_67 (by decide) (fun h179 => ?_) (fun h179 => ?_)
          · have h180 := ifp h179 h178
            refine G_bipush X (v := 108) dL_types_70 (by decide) ?_
            refine G_goto X (tgt := 113) dL_types_72 (by decide) ?_
            cases h180
            exact G_lv [2, 3, 4, 6, 1, 0] rfl (J138)
          · have h181 := ifn h179 h178
            refine G_iload X dL_types_75 0 rfl ?_
            refine G_bipush X (v := 6) dL_types_77 (by decide) ?_
            refine G_icmp_ge X (tgt := 87) dL_types_79 (by decide) (fun h182 => ?_) (fun h182 => ?_)
            · have h183 := ifp h182 h181
              refine G_iload X dL_types_87 0 rfl ?_
              refine G_bipush X (v := 6) dL_types_89 (by decide) ?_
              refine G_icmp_ne X (tgt := 99) dL_types_91 (by decide) (fun h184 => ?_) (fun h184 => ?_)
              · have h185 := ifp h184 h183
                refine G_bipush X (v := 115) dL_types_94 (by decide) ?_
                refine G_goto X (tgt := 113) dL_types_96 (by decide) ?_
                cases h185
                exact G_lv [2, 3, 4, 6, 1, 0] rfl (J138)
              · have h186 := ifn h184 h183
                refine G_iload X dL_types_99 0 rfl ?_
                refine G_bipush X (v := 7) dL_types_101 (by decide) ?_
                refine G_icmp_ne X (tgt := 111) dL_types_103 (by decide) (fun h187 => ?_) (fun h187 => ?_)
                · have h188 := ifp h187 h186
                  refine G_bipush X (v := 97) dL_types_106 (by decide) ?_
                  refine G_goto X (tgt := 113) dL_types_108 (by decide) ?_
                  cases h188
                  exact G_lv [2, 3, 4, 6, 1, 0] rfl (J138)
                · have h189 := ifn h187 h186
                  refine G_bipush X (v := 100) dL_types_111 (by decide) ?_
                  cases h189
                  exact G_lv [2, 3, 4, 6, 1, 0] rfl (J138)
            · have h190 := ifn h182 h181
              refine G_bipush X (v := 109) dL_types_82 (by decide) ?_
              refine G_goto X (tgt := 113) dL_types_84 (by decide) ?_
              cases h190
              exact G_lv [2, 3, 4, 6, 1, 0] rfl (J138)
        · have h191 := ifn h177 h136
          refine G_bipush X (v := 119) dL_types_59 (by decide) ?_
          refine G_goto X (tgt := 113) dL_types_61 (by decide) ?_
          cases h191
          exact G_lv [2, 3, 4, 6, 1, 0] rfl (J138)
  refine G_if_lt X (tgt := 18) dL_types_11 (by decide) (fun h192 => ?_) (fun h192 => ?_)
  · have h193 := ifp h192 h8
    refine G_iconst X (v := 0) dL_types_18 (by decide) ?_
    cases h193
    exact G_lv [1, 2, 0] rfl (J10)
  · have h194 := ifn h192 h8
    refine G_iconst X (v := 1) dL_types_14 (by decide) ?_
    refine G_goto X (tgt := 19) dL_types_15 (by decide) ?_
    cases h194
    exact G_lv [1, 2, 0] rfl (J10)
def rmL_reads : Room := { frames := 8, cells := 0, slots := 0, locals := 235 }
theorem pkL_reads : cK yL_reads wsL_reads cL_reads 10 (some .boolean) 2 RL := ⟨⟨_, rfl⟩, by decide +kernel⟩
theorem flL_reads_38 : Cond.constant RL 38 (-1000004) ∈ wsL_reads := by decide +kernel
theorem flL_reads_59 : Cond.constant RL 59 (-1000002) ∈ wsL_reads := by decide +kernel
theorem flL_reads_58 : Cond.constant RL 58 (-1000001) ∈ wsL_reads := by decide +kernel
theorem flL_reads_60 : Cond.constant RL 60 (-1000003) ∈ wsL_reads := by decide +kernel
set_option maxHeartbeats 4000000 in
set_option maxRecDepth 100000 in
theorem kkL_reads (l : Launch) (D : va_G) (cI cR : ClassId) (a0 a0_now a0_trial a0_survey a0_mending a0_past a0_text a0_now_numbers a0_trial_numbers a0_past_states a0_text_signs a0_text_numbers : Nat) (a0_past_states_r a0_past_states_a : Nat → Nat) (f_a0_now_numbers : Nat → Int32) (f_a0_trial_numbers : Nat → Int32) (i_a0_past_oldest : Int32) (i_a0_past_many : Int32) (gs_a0_past_states : Nat → Nat → Int32) (i_a0_text_length : Int32) (i_a0_text_at : Int32) (i_a0_text_faultPosition : Int32) (i_a0_text_faultReason : Int32) (i_a0_text_faultCause : Int32) (f_a0_text_signs : Nat → Int32) (f_a0_text_numbers : Nat → Int32) (x1 : Int32) (z : (Int32 × (Nat → Int32) × (Nat → Int32) × Int32 × Int32 × (Nat → Nat → Int32) × Int32 × Int32 × Int32 × Int32 × Int32 × (Nat → Int32) × (Nat → Int32))) (hz : ML_reads f_a0_now_numbers f_a0_trial_numbers i_a0_past_oldest i_a0_past_many gs_a0_past_states i_a0_text_length i_a0_text_at i_a0_text_faultPosition i_a0_text_faultReason i_a0_text_faultCause f_a0_text_signs f_a0_text_numbers x1 = some z) : cI1 l yL_reads wsL_reads rmL_reads D cI cR [.ref a0, .int x1] [(a0, .inr (5, [.ref a0_now, .ref a0_trial, .ref a0_survey, .ref a0_mending, .ref a0_past, .ref a0_text])), (a0_now, .inr (3, [.ref a0_now_numbers])), (a0_now_numbers, .inl (cI, 352, .inl f_a0_now_numbers)), (a0_trial, .inr (3, [.ref a0_trial_numbers])), (a0_trial_numbers, .inl (cI, 352, .inl f_a0_trial_numbers)), (a0_survey, .inr (4, [.ref a0_now])), (a0_past, .inr (0, [.ref a0_past_states, .int i_a0_past_oldest, .int i_a0_past_many])), (a0_past_states, .inl (cR, 5, .inr (.inr (.inr (.inr (fun j => some (a0_past_states_r j))))))), ((a0_past_states_r 0), .inr (3, [.ref (a0_past_states_a 0)])), ((a0_past_states_a 0), .inl (cI, 352, .inl (gs_a0_past_states 0))), ((a0_past_states_r 1), .inr (3, [.ref (a0_past_states_a 1)])), ((a0_past_states_a 1), .inl (cI, 352, .inl (gs_a0_past_states 1))), ((a0_past_states_r 2), .inr (3, [.ref (a0_past_states_a 2)])), ((a0_past_states_a 2), .inl (cI, 352, .inl (gs_a0_past_states 2))), ((a0_past_states_r 3), .inr (3, [.ref (a0_past_states_a 3)])), ((a0_past_states_a 3), .inl (cI, 352, .inl (gs_a0_past_states 3))), ((a0_past_states_r 4), .inr (3, [.ref (a0_past_states_a 4)])), ((a0_past_states_a 4), .inl (cI, 352, .inl (gs_a0_past_states 4))), (a0_text, .inr (2, [.ref a0_text_signs, .ref a0_text_numbers, .int i_a0_text_length, .int i_a0_text_at, .int i_a0_text_faultPosition, .int i_a0_text_faultReason, .int i_a0_text_faultCause])), (a0_text_signs, .inl (cI, 60, .inl f_a0_text_signs)), (a0_text_numbers, .inl (cI, 3, .inl f_a0_text_numbers))] z.1 [(a0, .inr (5, [.ref a0_now, .ref a0_trial, .ref a0_survey, .ref a0_mending, .ref a0_past, .ref a0_text])), (a0_now, .inr (3, [.ref a0_now_numbers])), (a0_now_numbers, .inl (cI, 352, .inl z.2.1)), (a0_trial, .inr (3, [.ref a0_trial_numbers])), (a0_trial_numbers, .inl (cI, 352, .inl z.2.2.1)), (a0_survey, .inr (4, [.ref a0_now])), (a0_past, .inr (0, [.ref a0_past_states, .int z.2.2.2.1, .int z.2.2.2.2.1])), (a0_past_states, .inl (cR, 5, .inr (.inr (.inr (.inr (fun j => some (a0_past_states_r j))))))), ((a0_past_states_r 0), .inr (3, [.ref (a0_past_states_a 0)])), ((a0_past_states_a 0), .inl (cI, 352, .inl (z.2.2.2.2.2.1 0))), ((a0_past_states_r 1), .inr (3, [.ref (a0_past_states_a 1)])), ((a0_past_states_a 1), .inl (cI, 352, .inl (z.2.2.2.2.2.1 1))), ((a0_past_states_r 2), .inr (3, [.ref (a0_past_states_a 2)])), ((a0_past_states_a 2), .inl (cI, 352, .inl (z.2.2.2.2.2.1 2))), ((a0_past_states_r 3), .inr (3, [.ref (a0_past_states_a 3)])), ((a0_past_states_a 3), .inl (cI, 352, .inl (z.2.2.2.2.2.1 3))), ((a0_past_states_r 4), .inr (3, [.ref (a0_past_states_a 4)])), ((a0_past_states_a 4), .inl (cI, 352, .inl (z.2.2.2.2.2.1 4))), (a0_text, .inr (2, [.ref a0_text_signs, .ref a0_text_numbers, .int z.2.2.2.2.2.2.1, .int z.2.2.2.2.2.2.2.1, .int z.2.2.2.2.2.2.2.2.1, .int z.2.2.2.2.2.2.2.2.2.1, .int z.2.2.2.2.2.2.2.2.2.2.1])), (a0_text_signs, .inl (cI, 60, .inl z.2.2.2.2.2.2.2.2.2.2.2.1)), (a0_text_numbers, .inl (cI, 3, .inl z.2.2.2.2.2.2.2.2.2.2.2.2))] := by
  unfold ML_reads at hz
  refine kZ_of (cc := cL_reads) (maxL := 10) (own := RL) (by decide +kernel) rfl rfl (Nat.le_of_ble_eq_true rfl) (lv0 := [(0, .ref a0), (1, .int x1)]) rfl (fun p e s m args below meth c A Q X rt => ?_)
  refine G_aload_n X dL_reads_0 0 rfl ?_
  refine G_iload_n X dL_reads_1 1 rfl ?_
  obtain ⟨v1, h2, h3⟩ := bnd hz
  refine G1_callsi X (As := [.ref a0, .int x1]) (rest := []) (wr := [(a0_trial, .inr (3, [.ref a0_trial_numbers])), (a0_trial_numbers, .inl (cI, 352, .inl f_a0_trial_numbers)), (a0_past_states, .inl (cR, 5, .inr (.inr (.inr (.inr (fun j => some (a0_past_states_r j))))))), ((a0_past_states_r 0), .inr (3, [.ref (a0_past_states_a 0)])), ((a0_past_states_a 0), .inl (cI, 352, .inl (gs_a0_past_states 0))), ((a0_past_states_r 1), .inr (3, [.ref (a0_past_states_a 1)])), ((a0_past_states_a 1), .inl (cI, 352, .inl (gs_a0_past_states 1))), ((a0_past_states_r 2), .inr (3, [.ref (a0_past_states_a 2)])), ((a0_past_states_a 2), .inl (cI, 352, .inl (gs_a0_past_states 2))), ((a0_past_states_r 3), .inr (3, [.ref (a0_past_states_a 3)])), ((a0_past_states_a 3), .inl (cI, 352, .inl (gs_a0_past_states 3))), ((a0_past_states_r 4), .inr (3, [.ref (a0_past_states_a 4)])), ((a0_past_states_a 4), .inl (cI, 352, .inl (gs_a0_past_states 4))), (a0_text_numbers, .inl (cI, 3, .inl f_a0_text_numbers))]) (ws' := [(a0, .inr (5, [.ref a0_now, .ref a0_trial, .ref a0_survey, .ref a0_mending, .ref a0_past, .ref a0_text])), (a0_now, .inr (3, [.ref a0_now_numbers])), (a0_now_numbers, .inl (cI, 352, .inl f_a0_now_numbers)), (a0_trial, .inr (3, [.ref a0_trial_numbers])), (a0_trial_numbers, .inl (cI, 352, .inl f_a0_trial_numbers)), (a0_survey, .inr (4, [.ref a0_now])), (a0_past, .inr (0, [.ref a0_past_states, .int i_a0_past_oldest, .int i_a0_past_many])), (a0_past_states, .inl (cR, 5, .inr (.inr (.inr (.inr (fun j => some (a0_past_states_r j))))))), ((a0_past_states_r 0), .inr (3, [.ref (a0_past_states_a 0)])), ((a0_past_states_a 0), .inl (cI, 352, .inl (gs_a0_past_states 0))), ((a0_past_states_r 1), .inr (3, [.ref (a0_past_states_a 1)])), ((a0_past_states_a 1), .inl (cI, 352, .inl (gs_a0_past_states 1))), ((a0_past_states_r 2), .inr (3, [.ref (a0_past_states_a 2)])), ((a0_past_states_a 2), .inl (cI, 352, .inl (gs_a0_past_states 2))), ((a0_past_states_r 3), .inr (3, [.ref (a0_past_states_a 3)])), ((a0_past_states_a 3), .inl (cI, 352, .inl (gs_a0_past_states 3))), ((a0_past_states_r 4), .inr (3, [.ref (a0_past_states_a 4)])), ((a0_past_states_a 4), .inl (cI, 352, .inl (gs_a0_past_states 4))), (a0_text, .inr (2, [.ref a0_text_signs, .ref a0_text_numbers, .int v1.2.1, .int i_a0_text_at, .int i_a0_text_faultPosition, .int i_a0_text_faultReason, .int i_a0_text_faultCause])), (a0_text_signs, .inl (cI, 60, .inl v1.2.2)), (a0_text_numbers, .inl (cI, 3, .inl f_a0_text_numbers))]) dL_reads_2 pkL_types gL_reads_L_types (kkL_types l D cI cR a0 a0_now a0_trial a0_survey a0_mending a0_past a0_text a0_now_numbers a0_past_states a0_text_signs a0_text_numbers f_a0_now_numbers i_a0_past_oldest i_a0_past_many i_a0_text_length i_a0_text_at i_a0_text_faultPosition i_a0_text_faultReason i_a0_text_faultCause f_a0_text_signs x1 v1 h2) ⟨rfl, rfl⟩ ⟨Nat.le_of_ble_eq_true rfl, Nat.le_of_ble_eq_true rfl⟩ rfl rfl (Nat.le_of_ble_eq_true rfl) [0, 1, 2, 5, 6, 18, 19] [3, 4, 7, 8, 9, 10, 11, 12, 13, 14, 15, 16, 17, 20] rfl rfl ⟨rfl, rfl, by decide⟩ ⟨Nat.zero_le _, Nat.zero_le _⟩ [14, 15, 16, 0, 1, 17, 18, 2, 3, 4, 5, 6, 7, 8, 9, 10, 11, 12, 19, 20, 13] rfl rfl ?_
  refine G_istore_n X (lv' := [(2, .int v1.1), (0, .ref a0), (1, .int x1)]) dL_reads_5 (by decide) rfl ?_
  refine G_aload_n X dL_reads_6 1 rfl ?_
  refine G_bipush X (v := 15) dL_reads_7 (by decide) ?_
  obtain ⟨v4, h5, h6⟩ := bnd h3
  refine G1_calli X (As := [.int 15]) (rest := []) (wr := [(a0_trial, .inr (3, [.ref a0_trial_numbers])), (a0_trial_numbers, .inl (cI, 352, .inl f_a0_trial_numbers)), (a0_past_states, .inl (cR, 5, .inr (.inr (.inr (.inr (fun j => some (a0_past_states_r j))))))), ((a0_past_states_r 0), .inr (3, [.ref (a0_past_states_a 0)])), ((a0_past_states_a 0), .inl (cI, 352, .inl (gs_a0_past_states 0))), ((a0_past_states_r 1), .inr (3, [.ref (a0_past_states_a 1)])), ((a0_past_states_a 1), .inl (cI, 352, .inl (gs_a0_past_states 1))), ((a0_past_states_r 2), .inr (3, [.ref (a0_past_states_a 2)])), ((a0_past_states_a 2), .inl (cI, 352, .inl (gs_a0_past_states 2))), ((a0_past_states_r 3), .inr (3, [.ref (a0_past_states_a 3)])), ((a0_past_states_a 3), .inl (cI, 352, .inl (gs_a0_past_states 3))), ((a0_past_states_r 4), .inr (3, [.ref (a0_past_states_a 4)])), ((a0_past_states_a 4), .inl (cI, 352, .inl (gs_a0_past_states 4))), (a0_text_signs, .inl (cI, 60, .inl v1.2.2)), (a0_text_numbers, .inl (cI, 3, .inl f_a0_text_numbers))]) (ws' := [(a0, .inr (5, [.ref a0_now, .ref a0_trial, .ref a0_survey, .ref a0_mending, .ref a0_past, .ref a0_text])), (a0_now, .inr (3, [.ref a0_now_numbers])), (a0_now_numbers, .inl (cI, 352, .inl f_a0_now_numbers)), (a0_trial, .inr (3, [.ref a0_trial_numbers])), (a0_trial_numbers, .inl (cI, 352, .inl f_a0_trial_numbers)), (a0_survey, .inr (4, [.ref a0_now])), (a0_past, .inr (0, [.ref a0_past_states, .int i_a0_past_oldest, .int i_a0_past_many])), (a0_past_states, .inl (cR, 5, .inr (.inr (.inr (.inr (fun j => some (a0_past_states_r j))))))), ((a0_past_states_r 0), .inr (3, [.ref (a0_past_states_a 0)])), ((a0_past_states_a 0), .inl (cI, 352, .inl (gs_a0_past_states 0))), ((a0_past_states_r 1), .inr (3, [.ref (a0_past_states_a 1)])), ((a0_past_states_a 1), .inl (cI, 352, .inl (gs_a0_past_states 1))), ((a0_past_states_r 2), .inr (3, [.ref (a0_past_states_a 2)])), ((a0_past_states_a 2), .inl (cI, 352, .inl (gs_a0_past_states 2))), ((a0_past_states_r 3), .inr (3, [.ref (a0_past_states_a 3)])), ((a0_past_states_a 3), .inl (cI, 352, .inl (gs_a0_past_states 3))), ((a0_past_states_r 4), .inr (3, [.ref (a0_past_states_a 4)])), ((a0_past_states_a 4), .inl (cI, 352, .inl (gs_a0_past_states 4))), (a0_text, .inr (2, [.ref a0_text_signs, .ref a0_text_numbers, .int v1.2.1, .int i_a0_text_at, .int i_a0_text_faultPosition, .int i_a0_text_faultReason, .int i_a0_text_faultCause])), (a0_text_signs, .inl (cI, 60, .inl v1.2.2)), (a0_text_numbers, .inl (cI, 3, .inl f_a0_text_numbers))]) dL_reads_9 pkX5_count gL_reads_X5_count (kkX5_count l D cI cR a0 a0_now a0_trial a0_survey a0_mending a0_past a0_text a0_now a0_now_numbers a0_past_states a0_text_signs a0_text_numbers f_a0_now_numbers i_a0_past_oldest i_a0_past_many v1.2.1 i_a0_text_at i_a0_text_faultPosition i_a0_text_faultReason i_a0_text_faultCause 15 v4 h5) ⟨rfl, rfl⟩ ⟨Nat.le_of_ble_eq_true rfl, Nat.le_of_ble_eq_true rfl⟩ rfl rfl (Nat.le_of_ble_eq_true rfl) 0 rfl rfl [0, 5, 1, 2, 6, 18] [3, 4, 7, 8, 9, 10, 11, 12, 13, 14, 15, 16, 17, 19, 20] rfl rfl ⟨rfl, rfl, by decide⟩ ⟨Nat.zero_le _, Nat.zero_le _⟩ [15, 17, 18, 0, 1, 16, 19, 2, 3, 4, 5, 6, 7, 8, 9, 10, 11, 12, 20, 13, 14] rfl rfl ?_
  refine G_istore_n X (lv' := [(3, .int v4), (2, .int v1.1), (0, .ref a0), (1, .int x1)]) dL_reads_12 (by decide) rfl ?_
  refine G_aload_n X dL_reads_13 2 rfl ?_
  refine G_bipush X (v := 14) dL_reads_14 (by decide) ?_
  obtain ⟨v7, h8, h9⟩ := bnd h6
  refine G1_calli X (As := [.int 14]) (rest := []) (wr := [(a0_trial, .inr (3, [.ref a0_trial_numbers])), (a0_trial_numbers, .inl (cI, 352, .inl f_a0_trial_numbers)), (a0_past_states, .inl (cR, 5, .inr (.inr (.inr (.inr (fun j => some (a0_past_states_r j))))))), ((a0_past_states_r 0), .inr (3, [.ref (a0_past_states_a 0)])), ((a0_past_states_a 0), .inl (cI, 352, .inl (gs_a0_past_states 0))), ((a0_past_states_r 1), .inr (3, [.ref (a0_past_states_a 1)])), ((a0_past_states_a 1), .inl (cI, 352, .inl (gs_a0_past_states 1))), ((a0_past_states_r 2), .inr (3, [.ref (a0_past_states_a 2)])), ((a0_past_states_a 2), .inl (cI, 352, .inl (gs_a0_past_states 2))), ((a0_past_states_r 3), .inr (3, [.ref (a0_past_states_a 3)])), ((a0_past_states_a 3), .inl (cI, 352, .inl (gs_a0_past_states 3))), ((a0_past_states_r 4), .inr (3, [.ref (a0_past_states_a 4)])), ((a0_past_states_a 4), .inl (cI, 352, .inl (gs_a0_past_states 4))), (a0_text_signs, .inl (cI, 60, .inl v1.2.2)), (a0_text_numbers, .inl (cI, 3, .inl f_a0_text_numbers))]) (ws' := [(a0, .inr (5, [.ref a0_now, .ref a0_trial, .ref a0_survey, .ref a0_mending, .ref a0_past, .ref a0_text])), (a0_now, .inr (3, [.ref a0_now_numbers])), (a0_now_numbers, .inl (cI, 352, .inl f_a0_now_numbers)), (a0_trial, .inr (3, [.ref a0_trial_numbers])), (a0_trial_numbers, .inl (cI, 352, .inl f_a0_trial_numbers)), (a0_survey, .inr (4, [.ref a0_now])), (a0_past, .inr (0, [.ref a0_past_states, .int i_a0_past_oldest, .int i_a0_past_many])), (a0_past_states, .inl (cR, 5, .inr (.inr (.inr (.inr (fun j => some (a0_past_states_r j))))))), ((a0_past_states_r 0), .inr (3, [.ref (a0_past_states_a 0)])), ((a0_past_states_a 0), .inl (cI, 352, .inl (gs_a0_past_states 0))), ((a0_past_states_r 1), .inr (3, [.ref (a0_past_states_a 1)])), ((a0_past_states_a 1), .inl (cI, 352, .inl (gs_a0_past_states 1))), ((a0_past_states_r 2), .inr (3, [.ref (a0_past_states_a 2)])), ((a0_past_states_a 2), .inl (cI, 352, .inl (gs_a0_past_states 2))), ((a0_past_states_r 3), .inr (3, [.ref (a0_past_states_a 3)])), ((a0_past_states_a 3), .inl (cI, 352, .inl (gs_a0_past_states 3))), ((a0_past_states_r 4), .inr (3, [.ref (a0_past_states_a 4)])), ((a0_past_states_a 4), .inl (cI, 352, .inl (gs_a0_past_states 4))), (a0_text, .inr (2, [.ref a0_text_signs, .ref a0_text_numbers, .int v1.2.1, .int i_a0_text_at, .int i_a0_text_faultPosition, .int i_a0_text_faultReason, .int i_a0_text_faultCause])), (a0_text_signs, .inl (cI, 60, .inl v1.2.2)), (a0_text_numbers, .inl (cI, 3, .inl f_a0_text_numbers))]) dL_reads_16 pkX5_count gL_reads_X5_count (kkX5_count l D cI cR a0 a0_now a0_trial a0_survey a0_mending a0_past a0_text a0_now a0_now_numbers a0_past_states a0_text_signs a0_text_numbers f_a0_now_numbers i_a0_past_oldest i_a0_past_many v1.2.1 i_a0_text_at i_a0_text_faultPosition i_a0_text_faultReason i_a0_text_faultCause 14 v7 h8) ⟨rfl, rfl⟩ ⟨Nat.le_of_ble_eq_true rfl, Nat.le_of_ble_eq_true rfl⟩ rfl rfl (Nat.le_of_ble_eq_true rfl) 0 rfl rfl [0, 5, 1, 2, 6, 18] [3, 4, 7, 8, 9, 10, 11, 12, 13, 14, 15, 16, 17, 19, 20] rfl rfl ⟨rfl, rfl, by decide⟩ ⟨Nat.zero_le _, Nat.zero_le _⟩ [15, 17, 18, 0, 1, 16, 19, 2, 3, 4, 5, 6, 7, 8, 9, 10, 11, 12, 20, 13, 14] rfl rfl ?_
  refine G_istore X (lv' := [(4, .int v7), (3, .int v4), (2, .int v1.1), (0, .ref a0), (1, .int x1)]) dL_reads_19 (by decide) rfl ?_
  refine G_aload_n X dL_reads_21 3 rfl ?_
  refine G_iconst X (v := 0) dL_reads_22 (by decide) ?_
  obtain ⟨v10, h11, h12⟩ := bnd h9
  refine G1_calli X (As := [.int 0]) (rest := []) (wr := [(a0_survey, .inr (4, [.ref a0_now])), (a0_past, .inr (0, [.ref a0_past_states, .int i_a0_past_oldest, .int i_a0_past_many])), (a0_past_states, .inl (cR, 5, .inr (.inr (.inr (.inr (fun j => some (a0_past_states_r j))))))), ((a0_past_states_r 0), .inr (3, [.ref (a0_past_states_a 0)])), ((a0_past_states_a 0), .inl (cI, 352, .inl (gs_a0_past_states 0))), ((a0_past_states_r 1), .inr (3, [.ref (a0_past_states_a 1)])), ((a0_past_states_a 1), .inl (cI, 352, .inl (gs_a0_past_states 1))), ((a0_past_states_r 2), .inr (3, [.ref (a0_past_states_a 2)])), ((a0_past_states_a 2), .inl (cI, 352, .inl (gs_a0_past_states 2))), ((a0_past_states_r 3), .inr (3, [.ref (a0_past_states_a 3)])), ((a0_past_states_a 3), .inl (cI, 352, .inl (gs_a0_past_states 3))), ((a0_past_states_r 4), .inr (3, [.ref (a0_past_states_a 4)])), ((a0_past_states_a 4), .inl (cI, 352, .inl (gs_a0_past_states 4)))]) (ws' := [(a0, .inr (5, [.ref a0_now, .ref a0_trial, .ref a0_survey, .ref a0_mending, .ref a0_past, .ref a0_text])), (a0_now, .inr (3, [.ref a0_now_numbers])), (a0_now_numbers, .inl (cI, 352, .inl f_a0_now_numbers)), (a0_trial, .inr (3, [.ref a0_trial_numbers])), (a0_trial_numbers, .inl (cI, 352, .inl v10.2.1)), (a0_survey, .inr (4, [.ref a0_now])), (a0_past, .inr (0, [.ref a0_past_states, .int i_a0_past_oldest, .int i_a0_past_many])), (a0_past_states, .inl (cR, 5, .inr (.inr (.inr (.inr (fun j => some (a0_past_states_r j))))))), ((a0_past_states_r 0), .inr (3, [.ref (a0_past_states_a 0)])), ((a0_past_states_a 0), .inl (cI, 352, .inl (gs_a0_past_states 0))), ((a0_past_states_r 1), .inr (3, [.ref (a0_past_states_a 1)])), ((a0_past_states_a 1), .inl (cI, 352, .inl (gs_a0_past_states 1))), ((a0_past_states_r 2), .inr (3, [.ref (a0_past_states_a 2)])), ((a0_past_states_a 2), .inl (cI, 352, .inl (gs_a0_past_states 2))), ((a0_past_states_r 3), .inr (3, [.ref (a0_past_states_a 3)])), ((a0_past_states_a 3), .inl (cI, 352, .inl (gs_a0_past_states 3))), ((a0_past_states_r 4), .inr (3, [.ref (a0_past_states_a 4)])), ((a0_past_states_a 4), .inl (cI, 352, .inl (gs_a0_past_states 4))), (a0_text, .inr (2, [.ref a0_text_signs, .ref a0_text_numbers, .int v1.2.1, .int v10.2.2.1, .int v10.2.2.2.1, .int v10.2.2.2.2.1, .int v10.2.2.2.2.2.1])), (a0_text_signs, .inl (cI, 60, .inl v1.2.2)), (a0_text_numbers, .inl (cI, 3, .inl v10.2.2.2.2.2.2))]) dL_reads_23 pkX5_fault gL_reads_X5_fault (kkX5_fault l D cI cR a0 a0_now a0_trial a0_survey a0_mending a0_past a0_text a0_now_numbers a0_trial_numbers a0_text_signs a0_text_numbers f_a0_now_numbers f_a0_trial_numbers v1.2.1 i_a0_text_at i_a0_text_faultPosition i_a0_text_faultReason i_a0_text_faultCause v1.2.2 f_a0_text_numbers 0 v10 h11) ⟨rfl, rfl⟩ ⟨Nat.le_of_ble_eq_true rfl, Nat.le_of_ble_eq_true rfl⟩ rfl rfl (Nat.le_of_ble_eq_true rfl) 0 rfl rfl [0, 1, 2, 3, 4, 18, 19, 20] [5, 6, 7, 8, 9, 10, 11, 12, 13, 14, 15, 16, 17] rfl rfl ⟨rfl, rfl, by decide⟩ ⟨Nat.zero_le _, Nat.zero_le _⟩ [13, 14, 15, 16, 17, 0, 1, 2, 3, 4, 5, 6, 7, 8, 9, 10, 11, 12, 18, 19, 20] rfl rfl ?_
  refine G_istore X (lv' := [(5, .int v10.1), (4, .int v7), (3, .int v4), (2, .int v1.1), (0, .ref a0), (1, .int x1)]) dL_reads_26 (by decide) rfl ?_
  refine G_aload_n X dL_reads_28 4 rfl ?_
  refine G_iconst X (v := 1) dL_reads_29 (by decide) ?_
  obtain ⟨v13, h14, h15⟩ := bnd h12
  refine G1_calli X (As := [.int 1]) (rest := []) (wr := [(a0_survey, .inr (4, [.ref a0_now])), (a0_past, .inr (0, [.ref a0_past_states, .int i_a0_past_oldest, .int i_a0_past_many])), (a0_past_states, .inl (cR, 5, .inr (.inr (.inr (.inr (fun j => some (a0_past_states_r j))))))), ((a0_past_states_r 0), .inr (3, [.ref (a0_past_states_a 0)])), ((a0_past_states_a 0), .inl (cI, 352, .inl (gs_a0_past_states 0))), ((a0_past_states_r 1), .inr (3, [.ref (a0_past_states_a 1)])), ((a0_past_states_a 1), .inl (cI, 352, .inl (gs_a0_past_states 1))), ((a0_past_states_r 2), .inr (3, [.ref (a0_past_states_a 2)])), ((a0_past_states_a 2), .inl (cI, 352, .inl (gs_a0_past_states 2))), ((a0_past_states_r 3), .inr (3, [.ref (a0_past_states_a 3)])), ((a0_past_states_a 3), .inl (cI, 352, .inl (gs_a0_past_states 3))), ((a0_past_states_r 4), .inr (3, [.ref (a0_past_states_a 4)])), ((a0_past_states_a 4), .inl (cI, 352, .inl (gs_a0_past_states 4)))]) (ws' := [(a0, .inr (5, [.ref a0_now, .ref a0_trial, .ref a0_survey, .ref a0_mending, .ref a0_past, .ref a0_text])), (a0_now, .inr (3, [.ref a0_now_numbers])), (a0_now_numbers, .inl (cI, 352, .inl f_a0_now_numbers)), (a0_trial, .inr (3, [.ref a0_trial_numbers])), (a0_trial_numbers, .inl (cI, 352, .inl v13.2.1)), (a0_survey, .inr (4, [.ref a0_now])), (a0_past, .inr (0, [.ref a0_past_states, .int i_a0_past_oldest, .int i_a0_past_many])), (a0_past_states, .inl (cR, 5, .inr (.inr (.inr (.inr (fun j => some (a0_past_states_r j))))))), ((a0_past_states_r 0), .inr (3, [.ref (a0_past_states_a 0)])), ((a0_past_states_a 0), .inl (cI, 352, .inl (gs_a0_past_states 0))), ((a0_past_states_r 1), .inr (3, [.ref (a0_past_states_a 1)])), ((a0_past_states_a 1), .inl (cI, 352, .inl (gs_a0_past_states 1))), ((a0_past_states_r 2), .inr (3, [.ref (a0_past_states_a 2)])), ((a0_past_states_a 2), .inl (cI, 352, .inl (gs_a0_past_states 2))), ((a0_past_states_r 3), .inr (3, [.ref (a0_past_states_a 3)])), ((a0_past_states_a 3), .inl (cI, 352, .inl (gs_a0_past_states 3))), ((a0_past_states_r 4), .inr (3, [.ref (a0_past_states_a 4)])), ((a0_past_states_a 4), .inl (cI, 352, .inl (gs_a0_past_states 4))), (a0_text, .inr (2, [.ref a0_text_signs, .ref a0_text_numbers, .int v1.2.1, .int v13.2.2.1, .int v13.2.2.2.1, .int v13.2.2.2.2.1, .int v13.2.2.2.2.2.1])), (a0_text_signs, .inl (cI, 60, .inl v1.2.2)), (a0_text_numbers, .inl (cI, 3, .inl v13.2.2.2.2.2.2))]) dL_reads_30 pkX5_fault gL_reads_X5_fault (kkX5_fault l D cI cR a0 a0_now a0_trial a0_survey a0_mending a0_past a0_text a0_now_numbers a0_trial_numbers a0_text_signs a0_text_numbers f_a0_now_numbers v10.2.1 v1.2.1 v10.2.2.1 v10.2.2.2.1 v10.2.2.2.2.1 v10.2.2.2.2.2.1 v1.2.2 v10.2.2.2.2.2.2 1 v13 h14) ⟨rfl, rfl⟩ ⟨Nat.le_of_ble_eq_true rfl, Nat.le_of_ble_eq_true rfl⟩ rfl rfl (Nat.le_of_ble_eq_true rfl) 0 rfl rfl [0, 1, 2, 3, 4, 18, 19, 20] [5, 6, 7, 8, 9, 10, 11, 12, 13, 14, 15, 16, 17] rfl rfl ⟨rfl, rfl, by decide⟩ ⟨Nat.zero_le _, Nat.zero_le _⟩ [13, 14, 15, 16, 17, 0, 1, 2, 3, 4, 5, 6, 7, 8, 9, 10, 11, 12, 18, 19, 20] rfl rfl ?_
  refine G_istore X (lv' := [(6, .int v13.1), (5, .int v10.1), (4, .int v7), (3, .int v4), (2, .int v1.1), (0, .ref a0), (1, .int x1)]) dL_reads_33 (by decide) rfl ?_
  refine G_aload_n X dL_reads_35 5 rfl ?_
  refine G_iconst X (v := 2) dL_reads_36 (by decide) ?_
  obtain ⟨v16, h17, h18⟩ := bnd h15
  refine G1_calli X (As := [.int 2]) (rest := []) (wr := [(a0_survey, .inr (4, [.ref a0_now])), (a0_past, .inr (0, [.ref a0_past_states, .int i_a0_past_oldest, .int i_a0_past_many])), (a0_past_states, .inl (cR, 5, .inr (.inr (.inr (.inr (fun j => some (a0_past_states_r j))))))), ((a0_past_states_r 0), .inr (3, [.ref (a0_past_states_a 0)])), ((a0_past_states_a 0), .inl (cI, 352, .inl (gs_a0_past_states 0))), ((a0_past_states_r 1), .inr (3, [.ref (a0_past_states_a 1)])), ((a0_past_states_a 1), .inl (cI, 352, .inl (gs_a0_past_states 1))), ((a0_past_states_r 2), .inr (3, [.ref (a0_past_states_a 2)])), ((a0_past_states_a 2), .inl (cI, 352, .inl (gs_a0_past_states 2))), ((a0_past_states_r 3), .inr (3, [.ref (a0_past_states_a 3)])), ((a0_past_states_a 3), .inl (cI, 352, .inl (gs_a0_past_states 3))), ((a0_past_states_r 4), .inr (3, [.ref (a0_past_states_a 4)])), ((a0_past_states_a 4), .inl (cI, 352, .inl (gs_a0_past_states 4)))]) (ws' := [(a0, .inr (5, [.ref a0_now, .ref a0_trial, .ref a0_survey, .ref a0_mending, .ref a0_past, .ref a0_text])), (a0_now, .inr (3, [.ref a0_now_numbers])), (a0_now_numbers, .inl (cI, 352, .inl f_a0_now_numbers)), (a0_trial, .inr (3, [.ref a0_trial_numbers])), (a0_trial_numbers, .inl (cI, 352, .inl v16.2.1)), (a0_survey, .inr (4, [.ref a0_now])), (a0_past, .inr (0, [.ref a0_past_states, .int i_a0_past_oldest, .int i_a0_past_many])), (a0_past_states, .inl (cR, 5, .inr (.inr (.inr (.inr (fun j => some (a0_past_states_r j))))))), ((a0_past_states_r 0), .inr (3, [.ref (a0_past_states_a 0)])), ((a0_past_states_a 0), .inl (cI, 352, .inl (gs_a0_past_states 0))), ((a0_past_states_r 1), .inr (3, [.ref (a0_past_states_a 1)])), ((a0_past_states_a 1), .inl (cI, 352, .inl (gs_a0_past_states 1))), ((a0_past_states_r 2), .inr (3, [.ref (a0_past_states_a 2)])), ((a0_past_states_a 2), .inl (cI, 352, .inl (gs_a0_past_states 2))), ((a0_past_states_r 3), .inr (3, [.ref (a0_past_states_a 3)])), ((a0_past_states_a 3), .inl (cI, 352, .inl (gs_a0_past_states 3))), ((a0_past_states_r 4), .inr (3, [.ref (a0_past_states_a 4)])), ((a0_past_states_a 4), .inl (cI, 352, .inl (gs_a0_past_states 4))), (a0_text, .inr (2, [.ref a0_text_signs, .ref a0_text_numbers, .int v1.2.1, .int v16.2.2.1, .int v16.2.2.2.1, .int v16.2.2.2.2.1, .int v16.2.2.2.2.2.1])), (a0_text_signs, .inl (cI, 60, .inl v1.2.2)), (a0_text_numbers, .inl (cI, 3, .inl v16.2.2.2.2.2.2))]) dL_reads_37 pkX5_fault gL_reads_X5_fault (kkX5_fault l D cI cR a0 a0_now a0_trial a0_survey a0_mending a0_past a0_text a0_now_numbers a0_trial_numbers a0_text_signs a0_text_numbers f_a0_now_numbers v13.2.1 v1.2.1 v13.2.2.1 v13.2.2.2.1 v13.2.2.2.2.1 v13.2.2.2.2.2.1 v1.2.2 v13.2.2.2.2.2.2 2 v16 h17) ⟨rfl, rfl⟩ ⟨Nat.le_of_ble_eq_true rfl, Nat.le_of_ble_eq_true rfl⟩ rfl rfl (Nat.le_of_ble_eq_true rfl) 0 rfl rfl [0, 1, 2, 3, 4, 18, 19, 20] [5, 6, 7, 8, 9, 10, 11, 12, 13, 14, 15, 16, 17] rfl rfl ⟨rfl, rfl, by decide⟩ ⟨Nat.zero_le _, Nat.zero_le _⟩ [13, 14, 15, 16, 17, 0, 1, 2, 3, 4, 5, 6, 7, 8, 9, 10, 11, 12, 18, 19, 20] rfl rfl ?_
  refine G_istore X (lv' := [(7, .int v16.1), (6, .int v13.1), (5, .int v10.1), (4, .int v7), (3, .int v4), (2, .int v1.1), (0, .ref a0), (1, .int x1)]) dL_reads_40 (by decide) rfl ?_
  refine G_aload_n X dL_reads_42 6 rfl ?_
  obtain ⟨v19, h20, h21⟩ := bnd h18
  refine G1_calli X (As := []) (rest := []) (wr := [(a0_survey, .inr (4, [.ref a0_now]))]) (ws' := [(a0, .inr (5, [.ref a0_now, .ref a0_trial, .ref a0_survey, .ref a0_mending, .ref a0_past, .ref a0_text])), (a0_now, .inr (3, [.ref a0_now_numbers])), (a0_now_numbers, .inl (cI, 352, .inl v19.2.1)), (a0_trial, .inr (3, [.ref a0_trial_numbers])), (a0_trial_numbers, .inl (cI, 352, .inl v19.2.2.1)), (a0_survey, .inr (4, [.ref a0_now])), (a0_past, .inr (0, [.ref a0_past_states, .int v19.2.2.2.1, .int v19.2.2.2.2.1])), (a0_past_states, .inl (cR, 5, .inr (.inr (.inr (.inr (fun j => some (a0_past_states_r j))))))), ((a0_past_states_r 0), .inr (3, [.ref (a0_past_states_a 0)])), ((a0_past_states_a 0), .inl (cI, 352, .inl (v19.2.2.2.2.2.1 0))), ((a0_past_states_r 1), .inr (3, [.ref (a0_past_states_a 1)])), ((a0_past_states_a 1), .inl (cI, 352, .inl (v19.2.2.2.2.2.1 1))), ((a0_past_states_r 2), .inr (3, [.ref (a0_past_states_a 2)])), ((a0_past_states_a 2), .inl (cI, 352, .inl (v19.2.2.2.2.2.1 2))), ((a0_past_states_r 3), .inr (3, [.ref (a0_past_states_a 3)])), ((a0_past_states_a 3), .inl (cI, 352, .inl (v19.2.2.2.2.2.1 3))), ((a0_past_states_r 4), .inr (3, [.ref (a0_past_states_a 4)])), ((a0_past_states_a 4), .inl (cI, 352, .inl (v19.2.2.2.2.2.1 4))), (a0_text, .inr (2, [.ref a0_text_signs, .ref a0_text_numbers, .int v1.2.1, .int v19.2.2.2.2.2.2.1, .int v19.2.2.2.2.2.2.2.1, .int v19.2.2.2.2.2.2.2.2.1, .int v19.2.2.2.2.2.2.2.2.2.1])), (a0_text_signs, .inl (cI, 60, .inl v1.2.2)), (a0_text_numbers, .inl (cI, 3, .inl v19.2.2.2.2.2.2.2.2.2.2))]) dL_reads_43 pkX5_play gL_reads_X5_play (kkX5_play l D cI cR a0 a0_now a0_trial a0_survey a0_mending a0_past a0_text a0_now_numbers a0_trial_numbers a0_past_states a0_text_signs a0_text_numbers a0_past_states_r a0_past_states_a f_a0_now_numbers v16.2.1 i_a0_past_oldest i_a0_past_many gs_a0_past_states v1.2.1 v16.2.2.1 v16.2.2.2.1 v16.2.2.2.2.1 v16.2.2.2.2.2.1 v1.2.2 v16.2.2.2.2.2.2 v19 h20) ⟨rfl, rfl⟩ ⟨Nat.le_of_ble_eq_true rfl, Nat.le_of_ble_eq_true rfl⟩ rfl rfl (Nat.le_of_ble_eq_true rfl) 0 rfl rfl [0, 1, 2, 3, 4, 6, 7, 8, 9, 10, 11, 12, 13, 14, 15, 16, 17, 18, 19, 20] [5] rfl rfl ⟨rfl, rfl, by decide⟩ ⟨Nat.zero_le _, Nat.zero_le _⟩ [1, 2, 3, 4, 5, 0, 6, 7, 8, 9, 10, 11, 12, 13, 14, 15, 16, 17, 18, 19, 20] rfl rfl ?_
  refine G_istore X (lv' := [(8, .int v19.1), (7, .int v16.1), (6, .int v13.1), (5, .int v10.1), (4, .int v7), (3, .int v4), (2, .int v1.1), (0, .ref a0), (1, .int x1)]) dL_reads_46 (by decide) rfl ?_
  refine G_iload_n X dL_reads_48 6 rfl ?_
  obtain ⟨j22, h23, h24⟩ := bnd h21
  have J25 : G p l e rmL_reads s m args below meth c D A 10 Q 0 0 146 [(0, .ref a0), (1, .int x1), (3, .int v4), (4, .int v7), (5, .int v10.1), (6, .int v13.1), (7, .int v16.1), (8, .int v19.1)] [.int j22] [(a0, .inr (5, [.ref a0_now, .ref a0_trial, .ref a0_survey, .ref a0_mending, .ref a0_past, .ref a0_text])), (a0_now, .inr (3, [.ref a0_now_numbers])), (a0_now_numbers, .inl (cI, 352, .inl v19.2.1)), (a0_trial, .inr (3, [.ref a0_trial_numbers])), (a0_trial_numbers, .inl (cI, 352, .inl v19.2.2.1)), (a0_survey, .inr (4, [.ref a0_now])), (a0_past, .inr (0, [.ref a0_past_states, .int v19.2.2.2.1, .int v19.2.2.2.2.1])), (a0_past_states, .inl (cR, 5, .inr (.inr (.inr (.inr (fun j => some (a0_past_states_r j))))))), ((a0_past_states_r 0), .inr (3, [.ref (a0_past_states_a 0)])), ((a0_past_states_a 0), .inl (cI, 352, .inl (v19.2.2.2.2.2.1 0))), ((a0_past_states_r 1), .inr (3, [.ref (a0_past_states_a 1)])), ((a0_past_states_a 1), .inl (cI, 352, .inl (v19.2.2.2.2.2.1 1))), ((a0_past_states_r 2), .inr (3, [.ref (a0_past_states_a 2)])), ((a0_past_states_a 2), .inl (cI, 352, .inl (v19.2.2.2.2.2.1 2))), ((a0_past_states_r 3), .inr (3, [.ref (a0_past_states_a 3)])), ((a0_past_states_a 3), .inl (cI, 352, .inl (v19.2.2.2.2.2.1 3))), ((a0_past_states_r 4), .inr (3, [.ref (a0_past_states_a 4)])), ((a0_past_states_a 4), .inl (cI, 352, .inl (v19.2.2.2.2.2.1 4))), (a0_text, .inr (2, [.ref a0_text_signs, .ref a0_text_numbers, .int v1.2.1, .int v19.2.2.2.2.2.2.1, .int v19.2.2.2.2.2.2.2.1, .int v19.2.2.2.2.2.2.2.2.1, .int v19.2.2.2.2.2.2.2.2.2.1])), (a0_text_signs, .inl (cI, 60, .inl v1.2.2)), (a0_text_numbers, .inl (cI, 3, .inl v19.2.2.2.2.2.2.2.2.2.2))] := by
    refine G_istore X (lv' := [(9, .int j22), (0, .ref a0), (1, .int x1), (3, .int v4), (4, .int v7), (5, .int v10.1), (6, .int v13.1), (7, .int v16.1), (8, .int v19.1)]) dL_reads_146 (by decide) rfl ?_
    refine G_iload X dL_reads_148 0 rfl ?_
    refine G_if_eq X (tgt := 266) dL_reads_150 (by decide) (fun h26 => ?_) (fun h26 => ?_)
    · have h27 := ifp h26 h24
      refine G_iconst X (v := 0) dL_reads_266 (by decide) ?_
      cases h27
      exact rt _ _ _ _ dL_reads_267 rfl ⟨rfl, rfl⟩
    · have h28 := ifn h26 h24
      refine G_iload X dL_reads_153 5 rfl ?_
      refine G_if_lt X (tgt := 228) dL_reads_155 (by decide) (fun h29 => ?_) (fun h29 => ?_)
      · have h30 := ifp h29 h28
        refine G_iload X dL_reads_228 8 rfl ?_
        refine G_iload_n X dL_reads_230 2 rfl ?_
        refine G_bipush X (v := 6) dL_reads_231 (by decide) ?_
        obtain ⟨v31, h32, h33⟩ := bnd h30
        refine G1_callsi X (As := [.int x1, .int 6]) (rest := [.int v19.1]) (wr := [(a0, .inr (5, [.ref a0_now, .ref a0_trial, .ref a0_survey, .ref a0_mending, .ref a0_past, .ref a0_text])), (a0_now, .inr (3, [.ref a0_now_numbers])), (a0_now_numbers, .inl (cI, 352, .inl v19.2.1)), (a0_trial, .inr (3, [.ref a0_trial_numbers])), (a0_trial_numbers, .inl (cI, 352, .inl v19.2.2.1)), (a0_survey, .inr (4, [.ref a0_now])), (a0_past, .inr (0, [.ref a0_past_states, .int v19.2.2.2.1, .int v19.2.2.2.2.1])), (a0_past_states, .inl (cR, 5, .inr (.inr (.inr (.inr (fun j => some (a0_past_states_r j))))))), ((a0_past_states_r 0), .inr (3, [.ref (a0_past_states_a 0)])), ((a0_past_states_a 0), .inl (cI, 352, .inl (v19.2.2.2.2.2.1 0))), ((a0_past_states_r 1), .inr (3, [.ref (a0_past_states_a 1)])), ((a0_past_states_a 1), .inl (cI, 352, .inl (v19.2.2.2.2.2.1 1))), ((a0_past_states_r 2), .inr (3, [.ref (a0_past_states_a 2)])), ((a0_past_states_a 2), .inl (cI, 352, .inl (v19.2.2.2.2.2.1 2))), ((a0_past_states_r 3), .inr (3, [.ref (a0_past_states_a 3)])), ((a0_past_states_a 3), .inl (cI, 352, .inl (v19.2.2.2.2.2.1 3))), ((a0_past_states_r 4), .inr (3, [.ref (a0_past_states_a 4)])), ((a0_past_states_a 4), .inl (cI, 352, .inl (v19.2.2.2.2.2.1 4))), (a0_text, .inr (2, [.ref a0_text_signs, .ref a0_text_numbers, .int v1.2.1, .int v19.2.2.2.2.2.2.1, .int v19.2.2.2.2.2.2.2.1, .int v19.2.2.2.2.2.2.2.2.1, .int v19.2.2.2.2.2.2.2.2.2.1])), (a0_text_signs, .inl (cI, 60, .inl v1.2.2)), (a0_text_numbers, .inl (cI, 3, .inl v19.2.2.2.2.2.2.2.2.2.2))]) (ws' := [(a0, .inr (5, [.ref a0_now, .ref a0_trial, .ref a0_survey, .ref a0_mending, .ref a0_past, .ref a0_text])), (a0_now, .inr (3, [.ref a0_now_numbers])), (a0_now_numbers, .inl (cI, 352, .inl v19.2.1)), (a0_trial, .inr (3, [.ref a0_trial_numbers])), (a0_trial_numbers, .inl (cI, 352, .inl v19.2.2.1)), (a0_survey, .inr (4, [.ref a0_now])), (a0_past, .inr (0, [.ref a0_past_states, .int v19.2.2.2.1, .int v19.2.2.2.2.1])), (a0_past_states, .inl (cR, 5, .inr (.inr (.inr (.inr (fun j => some (a0_past_states_r j))))))), ((a0_past_states_r 0), .inr (3, [.ref (a0_past_states_a 0)])), ((a0_past_states_a 0), .inl (cI, 352, .inl (v19.2.2.2.2.2.1 0))), ((a0_past_states_r 1), .inr (3, [.ref (a0_past_states_a 1)])), ((a0_past_states_a 1), .inl (cI, 352, .inl (v19.2.2.2.2.2.1 1))), ((a0_past_states_r 2), .inr (3, [.ref (a0_past_states_a 2)])), ((a0_past_states_a 2), .inl (cI, 352, .inl (v19.2.2.2.2.2.1 2))), ((a0_past_states_r 3), .inr (3, [.ref (a0_past_states_a 3)])), ((a0_past_states_a 3), .inl (cI, 352, .inl (v19.2.2.2.2.2.1 3))), ((a0_past_states_r 4), .inr (3, [.ref (a0_past_states_a 4)])), ((a0_past_states_a 4), .inl (cI, 352, .inl (v19.2.2.2.2.2.1 4))), (a0_text, .inr (2, [.ref a0_text_signs, .ref a0_text_numbers, .int v1.2.1, .int v19.2.2.2.2.2.2.1, .int v19.2.2.2.2.2.2.2.1, .int v19.2.2.2.2.2.2.2.2.1, .int v19.2.2.2.2.2.2.2.2.2.1])), (a0_text_signs, .inl (cI, 60, .inl v1.2.2)), (a0_text_numbers, .inl (cI, 3, .inl v19.2.2.2.2.2.2.2.2.2.2))]) dL_reads_233 pkL_low gL_reads_L_low (kkL_low l D cI cR x1 6 v31 h32) ⟨rfl, rfl⟩ ⟨Nat.le_of_ble_eq_true rfl, Nat.le_of_ble_eq_true rfl⟩ rfl rfl (Nat.le_of_ble_eq_true rfl) [] [0, 1, 2, 3, 4, 5, 6, 7, 8, 9, 10, 11, 12, 13, 14, 15, 16, 17, 18, 19, 20] rfl rfl ⟨rfl, rfl, by decide⟩ ⟨Nat.zero_le _, Nat.zero_le _⟩ [0, 1, 2, 3, 4, 5, 6, 7, 8, 9, 10, 11, 12, 13, 14, 15, 16, 17, 18, 19, 20] rfl rfl ?_
        refine G_icmp_ne X (tgt := 266) dL_reads_236 (by decide) (fun h34 => ?_) (fun h34 => ?_)
        · have h35 := ifp h34 h33
          refine G_aload_n X dL_reads_239 1 rfl ?_
          refine G_bipush X (v := 14) dL_reads_240 (by decide) ?_
          obtain ⟨v36, h37, h38⟩ := bnd h35
          refine G1_calli X (As := [.int 14]) (rest := []) (wr := [(a0_trial, .inr (3, [.ref a0_trial_numbers])), (a0_trial_numbers, .inl (cI, 352, .inl v19.2.2.1)), (a0_past_states, .inl (cR, 5, .inr (.inr (.inr (.inr (fun j => some (a0_past_states_r j))))))), ((a0_past_states_r 0), .inr (3, [.ref (a0_past_states_a 0)])), ((a0_past_states_a 0), .inl (cI, 352, .inl (v19.2.2.2.2.2.1 0))), ((a0_past_states_r 1), .inr (3, [.ref (a0_past_states_a 1)])), ((a0_past_states_a 1), .inl (cI, 352, .inl (v19.2.2.2.2.2.1 1))), ((a0_past_states_r 2), .inr (3, [.ref (a0_past_states_a 2)])), ((a0_past_states_a 2), .inl (cI, 352, .inl (v19.2.2.2.2.2.1 2))), ((a0_past_states_r 3), .inr (3, [.ref (a0_past_states_a 3)])), ((a0_past_states_a 3), .inl (cI, 352, .inl (v19.2.2.2.2.2.1 3))), ((a0_past_states_r 4), .inr (3, [.ref (a0_past_states_a 4)])), ((a0_past_states_a 4), .inl (cI, 352, .inl (v19.2.2.2.2.2.1 4))), (a0_text_signs, .inl (cI, 60, .inl v1.2.2)), (a0_text_numbers, .inl (cI, 3, .inl v19.2.2.2.2.2.2.2.2.2.2))]) (ws' := [(a0, .inr (5, [.ref a0_now, .ref a0_trial, .ref a0_survey, .ref a0_mending, .ref a0_past, .ref a0_text])), (a0_now, .inr (3, [.ref a0_now_numbers])), (a0_now_numbers, .inl (cI, 352, .inl v19.2.1)), (a0_trial, .inr (3, [.ref a0_trial_numbers])), (a0_trial_numbers, .inl (cI, 352, .inl v19.2.2.1)), (a0_survey, .inr (4, [.ref a0_now])), (a0_past, .inr (0, [.ref a0_past_states, .int v19.2.2.2.1, .int v19.2.2.2.2.1])), (a0_past_states, .inl (cR, 5, .inr (.inr (.inr (.inr (fun j => some (a0_past_states_r j))))))), ((a0_past_states_r 0), .inr (3, [.ref (a0_past_states_a 0)])), ((a0_past_states_a 0), .inl (cI, 352, .inl (v19.2.2.2.2.2.1 0))), ((a0_past_states_r 1), .inr (3, [.ref (a0_past_states_a 1)])), ((a0_past_states_a 1), .inl (cI, 352, .inl (v19.2.2.2.2.2.1 1))), ((a0_past_states_r 2), .inr (3, [.ref (a0_past_states_a 2)])), ((a0_past_states_a 2), .inl (cI, 352, .inl (v19.2.2.2.2.2.1 2))), ((a0_past_states_r 3), .inr (3, [.ref (a0_past_states_a 3)])), ((a0_past_states_a 3), .inl (cI, 352, .inl (v19.2.2.2.2.2.1 3))), ((a0_past_states_r 4), .inr (3, [.ref (a0_past_states_a 4)])), ((a0_past_states_a 4), .inl (cI, 352, .inl (v19.2.2.2.2.2.1 4))), (a0_text, .inr (2, [.ref a0_text_signs, .ref a0_text_numbers, .int v1.2.1, .int v19.2.2.2.2.2.2.1, .int v19.2.2.2.2.2.2.2.1, .int v19.2.2.2.2.2.2.2.2.1, .int v19.2.2.2.2.2.2.2.2.2.1])), (a0_text_signs, .inl (cI, 60, .inl v1.2.2)), (a0_text_numbers, .inl (cI, 3, .inl v19.2.2.2.2.2.2.2.2.2.2))]) dL_reads_242 pkX5_count gL_reads_X5_count (kkX5_count l D cI cR a0 a0_now a0_trial a0_survey a0_mending a0_past a0_text a0_now a0_now_numbers a0_past_states a0_text_signs a0_text_numbers v19.2.1 v19.2.2.2.1 v19.2.2.2.2.1 v1.2.1 v19.2.2.2.2.2.2.1 v19.2.2.2.2.2.2.2.1 v19.2.2.2.2.2.2.2.2.1 v19.2.2.2.2.2.2.2.2.2.1 14 v36 h37) ⟨rfl, rfl⟩ ⟨Nat.le_of_ble_eq_true rfl, Nat.le_of_ble_eq_true rfl⟩ rfl rfl (Nat.le_of_ble_eq_true rfl) 0 rfl rfl [0, 5, 1, 2, 6, 18] [3, 4, 7, 8, 9, 10, 11, 12, 13, 14, 15, 16, 17, 19, 20] rfl rfl ⟨rfl, rfl, by decide⟩ ⟨Nat.zero_le _, Nat.zero_le _⟩ [15, 17, 18, 0, 1, 16, 19, 2, 3, 4, 5, 6, 7, 8, 9, 10, 11, 12, 20, 13, 14] rfl rfl ?_
          refine G_iload X dL_reads_245 4 rfl ?_
          refine G_iconst X (v := 4) dL_reads_247 (by decide) ?_
          refine G_icmp_ge X (tgt := 258) dL_reads_248 (by decide) (fun h39 => ?_) (fun h39 => ?_)
          · have h40 := ifp h39 h38
            refine G_iconst X (v := 4) dL_reads_258 (by decide) ?_
            refine G_icmp_ne X (tgt := 266) dL_reads_259 (by decide) (fun h41 => ?_) (fun h41 => ?_)
            · have h42 := ifp h41 h40
              refine G_iconst X (v := 1) dL_reads_262 (by decide) ?_
              refine G_goto X (tgt := 267) dL_reads_263 (by decide) ?_
              cases h42
              exact rt _ _ _ _ dL_reads_267 rfl ⟨rfl, rfl⟩
            · have h43 := ifn h41 h40
              refine G_iconst X (v := 0) dL_reads_266 (by decide) ?_
              cases h43
              exact rt _ _ _ _ dL_reads_267 rfl ⟨rfl, rfl⟩
          · have h44 := ifn h39 h38
            refine G_iload X dL_reads_251 4 rfl ?_
            refine G_iconst X (v := 1) dL_reads_253 (by decide) ?_
            refine G_iadd X dL_reads_254 ?_
            refine G_goto X (tgt := 259) dL_reads_255 (by decide) ?_
            refine G_icmp_ne X (tgt := 266) dL_reads_259 (by decide) (fun h45 => ?_) (fun h45 => ?_)
            · have h46 := ifp h45 h44
              refine G_iconst X (v := 1) dL_reads_262 (by decide) ?_
              refine G_goto X (tgt := 267) dL_reads_263 (by decide) ?_
              cases h46
              exact rt _ _ _ _ dL_reads_267 rfl ⟨rfl, rfl⟩
            · have h47 := ifn h45 h44
              refine G_iconst X (v := 0) dL_reads_266 (by decide) ?_
              cases h47
              exact rt _ _ _ _ dL_reads_267 rfl ⟨rfl, rfl⟩
        · have h48 := ifn h34 h33
          refine G_iconst X (v := 0) dL_reads_266 (by decide) ?_
          cases h48
          exact rt _ _ _ _ dL_reads_267 rfl ⟨rfl, rfl⟩
      · have h49 := ifn h29 h28
        refine G_iload X dL_reads_158 5 rfl ?_
        refine G_iload_n X dL_reads_160 3 rfl ?_
        refine G_icmp_ge X (tgt := 266) dL_reads_161 (by decide) (fun h50 => ?_) (fun h50 => ?_)
        · have h51 := ifp h50 h49
          refine G_iconst X (v := 0) dL_reads_266 (by decide) ?_
          cases h51
          exact rt _ _ _ _ dL_reads_267 rfl ⟨rfl, rfl⟩
        · have h52 := ifn h50 h49
          refine G_iload X dL_reads_164 6 rfl ?_
          refine G_iconst X (v := 1) dL_reads_166 (by decide) ?_
          refine G_icmp_ne X (tgt := 187) dL_reads_167 (by decide) (fun h53 => ?_) (fun h53 => ?_)
          · have h54 := ifp h53 h52
            refine G_iload X dL_reads_170 7 rfl ?_
            refine G_if_lt X (tgt := 266) dL_reads_172 (by decide) (fun h55 => ?_) (fun h55 => ?_)
            · have h56 := ifp h55 h54
              refine G_iconst X (v := 0) dL_reads_266 (by decide) ?_
              cases h56
              exact rt _ _ _ _ dL_reads_267 rfl ⟨rfl, rfl⟩
            · have h57 := ifn h55 h54
              refine G_iload X dL_reads_175 5 rfl ?_
              refine G_iload X dL_reads_177 7 rfl ?_
              refine G_iadd X dL_reads_179 ?_
              refine G_iload_n X dL_reads_180 3 rfl ?_
              refine G_icmp_gt X (tgt := 266) dL_reads_181 (by decide) (fun h58 => ?_) (fun h58 => ?_)
              · have h59 := ifp h58 h57
                refine G_iconst X (v := 0) dL_reads_266 (by decide) ?_
                cases h59
                exact rt _ _ _ _ dL_reads_267 rfl ⟨rfl, rfl⟩
              · have h60 := ifn h58 h57
                refine G_goto X (tgt := 214) dL_reads_184 (by decide) ?_
                refine G_aload_n X dL_reads_214 1 rfl ?_
                refine G_bipush X (v := 14) dL_reads_215 (by decide) ?_
                obtain ⟨v61, h62, h63⟩ := bnd h60
                refine G1_calli X (As := [.int 14]) (rest := []) (wr := [(a0_trial, .inr (3, [.ref a0_trial_numbers])), (a0_trial_numbers, .inl (cI, 352, .inl v19.2.2.1)), (a0_past_states, .inl (cR, 5, .inr (.inr (.inr (.inr (fun j => some (a0_past_states_r j))))))), ((a0_past_states_r 0), .inr (3, [.ref (a0_past_states_a 0)])), ((a0_past_states_a 0), .inl (cI, 352, .inl (v19.2.2.2.2.2.1 0))), ((a0_past_states_r 1), .inr (3, [.ref (a0_past_states_a 1)])), ((a0_past_states_a 1), .inl (cI, 352, .inl (v19.2.2.2.2.2.1 1))), ((a0_past_states_r 2), .inr (3, [.ref (a0_past_states_a 2)])), ((a0_past_states_a 2), .inl (cI, 352, .inl (v19.2.2.2.2.2.1 2))), ((a0_past_states_r 3), .inr (3, [.ref (a0_past_states_a 3)])), ((a0_past_states_a 3), .inl (cI, 352, .inl (v19.2.2.2.2.2.1 3))), ((a0_past_states_r 4), .inr (3, [.ref (a0_past_states_a 4)])), ((a0_past_states_a 4), .inl (cI, 352, .inl (v19.2.2.2.2.2.1 4))), (a0_text_signs, .inl (cI, 60, .inl v1.2.2)), (a0_text_numbers, .inl (cI, 3, .inl v19.2.2.2.2.2.2.2.2.2.2))]) (ws' := [(a0, .inr (5, [.ref a0_now, .ref a0_trial, .ref a0_survey, .ref a0_mending, .ref a0_past, .ref a0_text])), (a0_now, .inr (3, [.ref a0_now_numbers])), (a0_now_numbers, .inl (cI, 352, .inl v19.2.1)), (a0_trial, .inr (3, [.ref a0_trial_numbers])), (a0_trial_numbers, .inl (cI, 352, .inl v19.2.2.1)), (a0_survey, .inr (4, [.ref a0_now])), (a0_past, .inr (0, [.ref a0_past_states, .int v19.2.2.2.1, .int v19.2.2.2.2.1])), (a0_past_states, .inl (cR, 5, .inr (.inr (.inr (.inr (fun j => some (a0_past_states_r j))))))), ((a0_past_states_r 0), .inr (3, [.ref (a0_past_states_a 0)])), ((a0_past_states_a 0), .inl (cI, 352, .inl (v19.2.2.2.2.2.1 0))), ((a0_past_states_r 1), .inr (3, [.ref (a0_past_states_a 1)])), ((a0_past_states_a 1), .inl (cI, 352, .inl (v19.2.2.2.2.2.1 1))), ((a0_past_states_r 2), .inr (3, [.ref (a0_past_states_a 2)])), ((a0_past_states_a 2), .inl (cI, 352, .inl (v19.2.2.2.2.2.1 2))), ((a0_past_states_r 3), .inr (3, [.ref (a0_past_states_a 3)])), ((a0_past_states_a 3), .inl (cI, 352, .inl (v19.2.2.2.2.2.1 3))), ((a0_past_states_r 4), .inr (3, [.ref (a0_past_states_a 4)])), ((a0_past_states_a 4), .inl (cI, 352, .inl (v19.2.2.2.2.2.1 4))), (a0_text, .inr (2, [.ref a0_text_signs, .ref a0_text_numbers, .int v1.2.1, .int v19.2.2.2.2.2.2.1, .int v19.2.2.2.2.2.2.2.1, .int v19.2.2.2.2.2.2.2.2.1, .int v19.2.2.2.2.2.2.2.2.2.1])), (a0_text_signs, .inl (cI, 60, .inl v1.2.2)), (a0_text_numbers, .inl (cI, 3, .inl v19.2.2.2.2.2.2.2.2.2.2))]) dL_reads_217 pkX5_count gL_reads_X5_count (kkX5_count l D cI cR a0 a0_now a0_trial a0_survey a0_mending a0_past a0_text a0_now a0_now_numbers a0_past_states a0_text_signs a0_text_numbers v19.2.1 v19.2.2.2.1 v19.2.2.2.2.1 v1.2.1 v19.2.2.2.2.2.2.1 v19.2.2.2.2.2.2.2.1 v19.2.2.2.2.2.2.2.2.1 v19.2.2.2.2.2.2.2.2.2.1 14 v61 h62) ⟨rfl, rfl⟩ ⟨Nat.le_of_ble_eq_true rfl, Nat.le_of_ble_eq_true rfl⟩ rfl rfl (Nat.le_of_ble_eq_true rfl) 0 rfl rfl [0, 5, 1, 2, 6, 18] [3, 4, 7, 8, 9, 10, 11, 12, 13, 14, 15, 16, 17, 19, 20] rfl rfl ⟨rfl, rfl, by decide⟩ ⟨Nat.zero_le _, Nat.zero_le _⟩ [15, 17, 18, 0, 1, 16, 19, 2, 3, 4, 5, 6, 7, 8, 9, 10, 11, 12, 20, 13, 14] rfl rfl ?_
                refine G_iload X dL_reads_220 4 rfl ?_
                refine G_icmp_ne X (tgt := 266) dL_reads_222 (by decide) (fun h64 => ?_) (fun h64 => ?_)
                · have h65 := ifp h64 h63
                  refine G_goto X (tgt := 262) dL_reads_225 (by decide) ?_
                  refine G_iconst X (v := 1) dL_reads_262 (by decide) ?_
                  refine G_goto X (tgt := 267) dL_reads_263 (by decide) ?_
                  cases h65
                  exact rt _ _ _ _ dL_reads_267 rfl ⟨rfl, rfl⟩
                · have h66 := ifn h64 h63
                  refine G_iconst X (v := 0) dL_reads_266 (by decide) ?_
                  cases h66
                  exact rt _ _ _ _ dL_reads_267 rfl ⟨rfl, rfl⟩
          · have h67 := ifn h53 h52
            refine G_iload X dL_reads_187 6 rfl ?_
            refine G_iconst X (v := 2) dL_reads_189 (by decide) ?_
            refine G_icmp_ne X (tgt := 266) dL_reads_190 (by decide) (fun h68 => ?_) (fun h68 => ?_)
            · have h69 := ifp h68 h67
              refine G_iload X dL_reads_193 7 rfl ?_
              refine G_ldc X dL_reads_195 flL_reads_58 ?_
              refine G_icmp_eq X (tgt := 214) dL_reads_197 (by decide) (fun h70 => ?_) (fun h70 => ?_)
              · have h71 := ifp h70 h69
                refine G_aload_n X dL_reads_214 1 rfl ?_
                refine G_bipush X (v := 14) dL_reads_215 (by decide) ?_
                obtain ⟨v72, h73, h74⟩ := bnd h71
                refine G1_calli X (As := [.int 14]) (rest := []) (wr := [(a0_trial, .inr (3, [.ref a0_trial_numbers])), (a0_trial_numbers, .inl (cI, 352, .inl v19.2.2.1)), (a0_past_states, .inl (cR, 5, .inr (.inr (.inr (.inr (fun j => some (a0_past_states_r j))))))), ((a0_past_states_r 0), .inr (3, [.ref (a0_past_states_a 0)])), ((a0_past_states_a 0), .inl (cI, 352, .inl (v19.2.2.2.2.2.1 0))), ((a0_past_states_r 1), .inr (3, [.ref (a0_past_states_a 1)])), ((a0_past_states_a 1), .inl (cI, 352, .inl (v19.2.2.2.2.2.1 1))), ((a0_past_states_r 2), .inr (3, [.ref (a0_past_states_a 2)])), ((a0_past_states_a 2), .inl (cI, 352, .inl (v19.2.2.2.2.2.1 2))), ((a0_past_states_r 3), .inr (3, [.ref (a0_past_states_a 3)])), ((a0_past_states_a 3), .inl (cI, 352, .inl (v19.2.2.2.2.2.1 3))), ((a0_past_states_r 4), .inr (3, [.ref (a0_past_states_a 4)])), ((a0_past_states_a 4), .inl (cI, 352, .inl (v19.2.2.2.2.2.1 4))), (a0_text_signs, .inl (cI, 60, .inl v1.2.2)), (a0_text_numbers, .inl (cI, 3, .inl v19.2.2.2.2.2.2.2.2.2.2))]) (ws' := [(a0, .inr (5, [.ref a0_now, .ref a0_trial, .ref a0_survey, .ref a0_mending, .ref a0_past, .ref a0_text])), (a0_now, .inr (3, [.ref a0_now_numbers])), (a0_now_numbers, .inl (cI, 352, .inl v19.2.1)), (a0_trial, .inr (3, [.ref a0_trial_numbers])), (a0_trial_numbers, .inl (cI, 352, .inl v19.2.2.1)), (a0_survey, .inr (4, [.ref a0_now])), (a0_past, .inr (0, [.ref a0_past_states, .int v19.2.2.2.1, .int v19.2.2.2.2.1])), (a0_past_states, .inl (cR, 5, .inr (.inr (.inr (.inr (fun j => some (a0_past_states_r j))))))), ((a0_past_states_r 0), .inr (3, [.ref (a0_past_states_a 0)])), ((a0_past_states_a 0), .inl (cI, 352, .inl (v19.2.2.2.2.2.1 0))), ((a0_past_states_r 1), .inr (3, [.ref (a0_past_states_a 1)])), ((a0_past_states_a 1), .inl (cI, 352, .inl (v19.2.2.2.2.2.1 1))), ((a0_past_states_r 2), .inr (3, [.ref (a0_past_states_a 2)])), ((a0_past_states_a 2), .inl (cI, 352, .inl (v19.2.2.2.2.2.1 2))), ((a0_past_states_r 3), .inr (3, [.ref (a0_past_states_a 3)])), ((a0_past_states_a 3), .inl (cI, 352, .inl (v19.2.2.2.2.2.1 3))), ((a0_past_states_r 4), .inr (3, [.ref (a0_past_states_a 4)])), ((a0_past_states_a 4), .inl (cI, 352, .inl (v19.2.2.2.2.2.1 4))), (a0_text, .inr (2, [.ref a0_text_signs, .ref a0_text_numbers, .int v1.2.1, .int v19.2.2.2.2.2.2.1, .int v19.2.2.2.2.2.2.2.1, .int v19.2.2.2.2.2.2.2.2.1, .int v19.2.2.2.2.2.2.2.2.2.1])), (a0_text_signs, .inl (cI, 60, .inl v1.2.2)), (a0_text_numbers, .inl (cI, 3, .inl v19.2.2.2.2.2.2.2.2.2.2))]) dL_reads_217 pkX5_count gL_reads_X5_count (kkX5_count l D cI cR a0 a0_now a0_trial a0_survey a0_mending a0_past a0_text a0_now a0_now_numbers a0_past_states a0_text_signs a0_text_numbers v19.2.1 v19.2.2.2.1 v19.2.2.2.2.1 v1.2.1 v19.2.2.2.2.2.2.1 v19.2.2.2.2.2.2.2.1 v19.2.2.2.2.2.2.2.2.1 v19.2.2.2.2.2.2.2.2.2.1 14 v72 h73) ⟨rfl, rfl⟩ ⟨Nat.le_of_ble_eq_true rfl, Nat.le_of_ble_eq_true rfl⟩ rfl rfl (Nat.le_of_ble_eq_true rfl) 0 rfl rfl [0, 5, 1, 2, 6, 18] [3, 4, 7, 8, 9, 10, 11, 12, 13, 14, 15, 16, 17, 19, 20] rfl rfl ⟨rfl, rfl, by decide⟩ ⟨Nat.zero_le _, Nat.zero_le _⟩ [15, 17, 18, 0, 1, 16, 19, 2, 3, 4, 5, 6, 7, 8, 9, 10, 11, 12, 20, 13, 14] rfl rfl ?_
                refine G_iload X dL_reads_220 4 rfl ?_
                refine G_icmp_ne X (tgt := 266) dL_reads_222 (by decide) (fun h75 => ?_) (fun h75 => ?_)
                · have h76 := ifp h75 h74
                  refine G_goto X (tgt := 262) dL_reads_225 (by decide) ?_
                  refine G_iconst X (v := 1) dL_reads_262 (by decide) ?_
                  refine G_goto X (tgt := 267) dL_reads_263 (by decide) ?_
                  cases h76
                  exact rt _ _ _ _ dL_reads_267 rfl ⟨rfl, rfl⟩
                · have h77 := ifn h75 h74
                  refine G_iconst X (v := 0) dL_reads_266 (by decide) ?_
                  cases h77
                  exact rt _ _ _ _ dL_reads_267 rfl ⟨rfl, rfl⟩
              · have h78 := ifn h70 h69
                refine G_iload X dL_reads_200 7 rfl ?_
                refine G_ldc X dL_reads_202 flL_reads_59 ?_
                refine G_icmp_eq X (tgt := 214) dL_reads_204 (by decide) (fun h79 => ?_) (fun h79 => ?_)
                · have h80 := ifp h79 h78
                  refine G_aload_n X dL_reads_214 1 rfl ?_
                  refine G_bipush X (v := 14) dL_reads_215 (by decide) ?_
                  obtain ⟨v81, h82, h83⟩ := bnd h80
                  refine G1_calli X (As := [.int 14]) (rest := []) (wr := [(a0_trial, .inr (3, [.ref a0_trial_numbers])), (a0_trial_numbers, .inl (cI, 352, .inl v19.2.2.1)), (a0_past_states, .inl (cR, 5, .inr (.inr (.inr (.inr (fun j => some (a0_past_states_r j))))))), ((a0_past_states_r 0), .inr (3, [.ref (a0_past_states_a 0)])), ((a0_past_states_a 0), .inl (cI, 352, .inl (v19.2.2.2.2.2.1 0))), ((a0_past_states_r 1), .inr (3, [.ref (a0_past_states_a 1)])), ((a0_past_states_a 1), .inl (cI, 352, .inl (v19.2.2.2.2.2.1 1))), ((a0_past_states_r 2), .inr (3, [.ref (a0_past_states_a 2)])), ((a0_past_states_a 2), .inl (cI, 352, .inl (v19.2.2.2.2.2.1 2))), ((a0_past_states_r 3), .inr (3, [.ref (a0_past_states_a 3)])), ((a0_past_states_a 3), .inl (cI, 352, .inl (v19.2.2.2.2.2.1 3))), ((a0_past_states_r 4), .inr (3, [.ref (a0_past_states_a 4)])), ((a0_past_states_a 4), .inl (cI, 352, .inl (v19.2.2.2.2.2.1 4))), (a0_text_signs, .inl (cI, 60, .inl v1.2.2)), (a0_text_numbers, .inl (cI, 3, .inl v19.2.2.2.2.2.2.2.2.2.2))]) (ws' := [(a0, .inr (5, [.ref a0_now, .ref a0_trial, .ref a0_survey, .ref a0_mending, .ref a0_past, .ref a0_text])), (a0_now, .inr (3, [.ref a0_now_numbers])), (a0_now_numbers, .inl (cI, 352, .inl v19.2.1)), (a0_trial, .inr (3, [.ref a0_trial_numbers])), (a0_trial_numbers, .inl (cI, 352, .inl v19.2.2.1)), (a0_survey, .inr (4, [.ref a0_now])), (a0_past, .inr (0, [.ref a0_past_states, .int v19.2.2.2.1, .int v19.2.2.2.2.1])), (a0_past_states, .inl (cR, 5, .inr (.inr (.inr (.inr (fun j => some (a0_past_states_r j))))))), ((a0_past_states_r 0), .inr (3, [.ref (a0_past_states_a 0)])), ((a0_past_states_a 0), .inl (cI, 352, .inl (v19.2.2.2.2.2.1 0))), ((a0_past_states_r 1), .inr (3, [.ref (a0_past_states_a 1)])), ((a0_past_states_a 1), .inl (cI, 352, .inl (v19.2.2.2.2.2.1 1))), ((a0_past_states_r 2), .inr (3, [.ref (a0_past_states_a 2)])), ((a0_past_states_a 2), .inl (cI, 352, .inl (v19.2.2.2.2.2.1 2))), ((a0_past_states_r 3), .inr (3, [.ref (a0_past_states_a 3)])), ((a0_past_states_a 3), .inl (cI, 352, .inl (v19.2.2.2.2.2.1 3))), ((a0_past_states_r 4), .inr (3, [.ref (a0_past_states_a 4)])), ((a0_past_states_a 4), .inl (cI, 352, .inl (v19.2.2.2.2.2.1 4))), (a0_text, .inr (2, [.ref a0_text_signs, .ref a0_text_numbers, .int v1.2.1, .int v19.2.2.2.2.2.2.1, .int v19.2.2.2.2.2.2.2.1, .int v19.2.2.2.2.2.2.2.2.1, .int v19.2.2.2.2.2.2.2.2.2.1])), (a0_text_signs, .inl (cI, 60, .inl v1.2.2)), (a0_text_numbers, .inl (cI, 3, .inl v19.2.2.2.2.2.2.2.2.2.2))]) dL_reads_217 pkX5_count gL_reads_X5_count (kkX5_count l D cI cR a0 a0_now a0_trial a0_survey a0_mending a0_past a0_text a0_now a0_now_numbers a0_past_states a0_text_signs a0_text_numbers v19.2.1 v19.2.2.2.1 v19.2.2.2.2.1 v1.2.1 v19.2.2.2.2.2.2.1 v19.2.2.2.2.2.2.2.1 v19.2.2.2.2.2.2.2.2.1 v19.2.2.2.2.2.2.2.2.2.1 14 v81 h82) ⟨rfl, rfl⟩ ⟨Nat.le_of_ble_eq_true rfl, Nat.le_of_ble_eq_true rfl⟩ rfl rfl (Nat.le_of_ble_eq_true rfl) 0 rfl rfl [0, 5, 1, 2, 6, 18] [3, 4, 7, 8, 9, 10, 11, 12, 13, 14, 15, 16, 17, 19, 20] rfl rfl ⟨rfl, rfl, by decide⟩ ⟨Nat.zero_le _, Nat.zero_le _⟩ [15, 17, 18, 0, 1, 16, 19, 2, 3, 4, 5, 6, 7, 8, 9, 10, 11, 12, 20, 13, 14] rfl rfl ?_
                  refine G_iload X dL_reads_220 4 rfl ?_
                  refine G_icmp_ne X (tgt := 266) dL_reads_222 (by decide) (fun h84 => ?_) (fun h84 => ?_)
                  · have h85 := ifp h84 h83
                    refine G_goto X (tgt := 262) dL_reads_225 (by decide) ?_
                    refine G_iconst X (v := 1) dL_reads_262 (by decide) ?_
                    refine G_goto X (tgt := 267) dL_reads_263 (by decide) ?_
                    cases h85
                    exact rt _ _ _ _ dL_reads_267 rfl ⟨rfl, rfl⟩
                  · have h86 := ifn h84 h83
                    refine G_iconst X (v := 0) dL_reads_266 (by decide) ?_
                    cases h86
                    exact rt _ _ _ _ dL_reads_267 rfl ⟨rfl, rfl⟩
                · have h87 := ifn h79 h78
                  refine G_iload X dL_reads_207 7 rfl ?_
                  refine G_ldc X dL_reads_209 flL_reads_60 ?_
                  refine G_icmp_ne X (tgt := 266) dL_reads_211 (by decide) (fun h88 => ?_) (fun h88 => ?_)
                  · have h89 := ifp h88 h87
                    refine G_aload_n X dL_reads_214 1 rfl ?_
                    refine G_bipush X (v := 14) dL_reads_215 (by decide) ?_
                    obtain ⟨v90, h91, h92⟩ := bnd h89
                    refine G1_calli X (As := [.int 14]) (rest := []) (wr := [(a0_trial, .inr (3, [.ref a0_trial_numbers])), (a0_trial_numbers, .inl (cI, 352, .inl v19.2.2.1)), (a0_past_states, .inl (cR, 5, .inr (.inr (.inr (.inr (fun j => some (a0_past_states_r j))))))), ((a0_past_states_r 0), .inr (3, [.ref (a0_past_states_a 0)])), ((a0_past_states_a 0), .inl (cI, 352, .inl (v19.2.2.2.2.2.1 0))), ((a0_past_states_r 1), .inr (3, [.ref (a0_past_states_a 1)])), ((a0_past_states_a 1), .inl (cI, 352, .inl (v19.2.2.2.2.2.1 1))), ((a0_past_states_r 2), .inr (3, [.ref (a0_past_states_a 2)])), ((a0_past_states_a 2), .inl (cI, 352, .inl (v19.2.2.2.2.2.1 2))), ((a0_past_states_r 3), .inr (3, [.ref (a0_past_states_a 3)])), ((a0_past_states_a 3), .inl (cI, 352, .inl (v19.2.2.2.2.2.1 3))), ((a0_past_states_r 4), .inr (3, [.ref (a0_past_states_a 4)])), ((a0_past_states_a 4), .inl (cI, 352, .inl (v19.2.2.2.2.2.1 4))), (a0_text_signs, .inl (cI, 60, .inl v1.2.2)), (a0_text_numbers, .inl (cI, 3, .inl v19.2.2.2.2.2.2.2.2.2.2))]) (ws' := [(a0, .inr (5, [.ref a0_now, .ref a0_trial, .ref a0_survey, .ref a0_mending, .ref a0_past, .ref a0_text])), (a0_now, .inr (3, [.ref a0_now_numbers])), (a0_now_numbers, .inl (cI, 352, .inl v19.2.1)), (a0_trial, .inr (3, [.ref a0_trial_numbers])), (a0_trial_numbers, .inl (cI, 352, .inl v19.2.2.1)), (a0_survey, .inr (4, [.ref a0_now])), (a0_past, .inr (0, [.ref a0_past_states, .int v19.2.2.2.1, .int v19.2.2.2.2.1])), (a0_past_states, .inl (cR, 5, .inr (.inr (.inr (.inr (fun j => some (a0_past_states_r j))))))), ((a0_past_states_r 0), .inr (3, [.ref (a0_past_states_a 0)])), ((a0_past_states_a 0), .inl (cI, 352, .inl (v19.2.2.2.2.2.1 0))), ((a0_past_states_r 1), .inr (3, [.ref (a0_past_states_a 1)])), ((a0_past_states_a 1), .inl (cI, 352, .inl (v19.2.2.2.2.2.1 1))), ((a0_past_states_r 2), .inr (3, [.ref (a0_past_states_a 2)])), ((a0_past_states_a 2), .inl (cI, 352, .inl (v19.2.2.2.2.2.1 2))), ((a0_past_states_r 3), .inr (3, [.ref (a0_past_states_a 3)])), ((a0_past_states_a 3), .inl (cI, 352, .inl (v19.2.2.2.2.2.1 3))), ((a0_past_states_r 4), .inr (3, [.ref (a0_past_states_a 4)])), ((a0_past_states_a 4), .inl (cI, 352, .inl (v19.2.2.2.2.2.1 4))), (a0_text, .inr (2, [.ref a0_text_signs, .ref a0_text_numbers, .int v1.2.1, .int v19.2.2.2.2.2.2.1, .int v19.2.2.2.2.2.2.2.1, .int v19.2.2.2.2.2.2.2.2.1, .int v19.2.2.2.2.2.2.2.2.2.1])), (a0_text_signs, .inl (cI, 60, .inl v1.2.2)), (a0_text_numbers, .inl (cI, 3, .inl v19.2.2.2.2.2.2.2.2.2.2))]) dL_reads_217 pkX5_count gL_reads_X5_count (kkX5_count l D cI cR a0 a0_now a0_trial a0_survey a0_mending a0_past a0_text a0_now a0_now_numbers a0_past_states a0_text_signs a0_text_numbers v19.2.1 v19.2.2.2.1 v19.2.2.2.2.1 v1.2.1 v19.2.2.2.2.2.2.1 v19.2.2.2.2.2.2.2.1 v19.2.2.2.2.2.2.2.2.1 v19.2.2.2.2.2.2.2.2.2.1 14 v90 h91) ⟨rfl, rfl⟩ ⟨Nat.le_of_ble_eq_true rfl, Nat.le_of_ble_eq_true rfl⟩ rfl rfl (Nat.le_of_ble_eq_true rfl) 0 rfl rfl [0, 5, 1, 2, 6, 18] [3, 4, 7, 8, 9, 10, 11, 12, 13, 14, 15, 16, 17, 19, 20] rfl rfl ⟨rfl, rfl, by decide⟩ ⟨Nat.zero_le _, Nat.zero_le _⟩ [15, 17, 18, 0, 1, 16, 19, 2, 3, 4, 5, 6, 7, 8, 9, 10, 11, 12, 20, 13, 14] rfl rfl ?_
                    refine G_iload X dL_reads_220 4 rfl ?_
                    refine G_icmp_ne X (tgt := 266) dL_reads_222 (by decide) (fun h93 => ?_) (fun h93 => ?_)
                    · have h94 := ifp h93 h92
                      refine G_goto X (tgt := 262) dL_reads_225 (by decide) ?_
                      refine G_iconst X (v := 1) dL_reads_262 (by decide) ?_
                      refine G_goto X (tgt := 267) dL_reads_263 (by decide) ?_
                      cases h94
                      exact rt _ _ _ _ dL_reads_267 rfl ⟨rfl, rfl⟩
                    · have h95 := ifn h93 h92
                      refine G_iconst X (v := 0) dL_reads_266 (by decide) ?_
                      cases h95
                      exact rt _ _ _ _ dL_reads_267 rfl ⟨rfl, rfl⟩
                  · have h96 := ifn h88 h87
                    refine G_iconst X (v := 0) dL_reads_266 (by decide) ?_
                    cases h96
                    exact rt _ _ _ _ dL_reads_267 rfl ⟨rfl, rfl⟩
            · have h97 := ifn h68 h67
              refine G_iconst X (v := 0) dL_reads_266 (by decide) ?_
              cases h97
              exact rt _ _ _ _ dL_reads_267 rfl ⟨rfl, rfl⟩
  refine G_if_eq X (tgt := 145) dL_reads_49 (by decide) (fun h98 => ?_) (fun h98 => ?_)
  · have h99 := ifp h98 h23
    refine G_iconst X (v := 0) dL_reads_145 (by decide) ?_
    cases h99
    exact G_lv [7, 8, 5, 4, 3, 2, 1, 0] rfl (J25)
  · have h100 := ifn h98 h23
    refine G_aload_n X dL_reads_52 7 rfl ?_
    refine G_bipush X (v := 15) dL_reads_53 (by decide) ?_
    obtain ⟨v101, h102, h103⟩ := bnd h100
    refine G1_calli X (As := [.int 15]) (rest := []) (wr := [(a0_trial, .inr (3, [.ref a0_trial_numbers])), (a0_trial_numbers, .inl (cI, 352, .inl v19.2.2.1)), (a0_past_states, .inl (cR, 5, .inr (.inr (.inr (.inr (fun j => some (a0_past_states_r j))))))), ((a0_past_states_r 0), .inr (3, [.ref (a0_past_states_a 0)])), ((a0_past_states_a 0), .inl (cI, 352, .inl (v19.2.2.2.2.2.1 0))), ((a0_past_states_r 1), .inr (3, [.ref (a0_past_states_a 1)])), ((a0_past_states_a 1), .inl (cI, 352, .inl (v19.2.2.2.2.2.1 1))), ((a0_past_states_r 2), .inr (3, [.ref (a0_past_states_a 2)])), ((a0_past_states_a 2), .inl (cI, 352, .inl (v19.2.2.2.2.2.1 2))), ((a0_past_states_r 3), .inr (3, [.ref (a0_past_states_a 3)])), ((a0_past_states_a 3), .inl (cI, 352, .inl (v19.2.2.2.2.2.1 3))), ((a0_past_states_r 4), .inr (3, [.ref (a0_past_states_a 4)])), ((a0_past_states_a 4), .inl (cI, 352, .inl (v19.2.2.2.2.2.1 4))), (a0_text_signs, .inl (cI, 60, .inl v1.2.2)), (a0_text_numbers, .inl (cI, 3, .inl v19.2.2.2.2.2.2.2.2.2.2))]) (ws' := [(a0, .inr (5, [.ref a0_now, .ref a0_trial, .ref a0_survey, .ref a0_mending, .ref a0_past, .ref a0_text])), (a0_now, .inr (3, [.ref a0_now_numbers])), (a0_now_numbers, .inl (cI, 352, .inl v19.2.1)), (a0_trial, .inr (3, [.ref a0_trial_numbers])), (a0_trial_numbers, .inl (cI, 352, .inl v19.2.2.1)), (a0_survey, .inr (4, [.ref a0_now])), (a0_past, .inr (0, [.ref a0_past_states, .int v19.2.2.2.1, .int v19.2.2.2.2.1])), (a0_past_states, .inl (cR, 5, .inr (.inr (.inr (.inr (fun j => some (a0_past_states_r j))))))), ((a0_past_states_r 0), .inr (3, [.ref (a0_past_states_a 0)])), ((a0_past_states_a 0), .inl (cI, 352, .inl (v19.2.2.2.2.2.1 0))), ((a0_past_states_r 1), .inr (3, [.ref (a0_past_states_a 1)])), ((a0_past_states_a 1), .inl (cI, 352, .inl (v19.2.2.2.2.2.1 1))), ((a0_past_states_r 2), .inr (3, [.ref (a0_past_states_a 2)])), ((a0_past_states_a 2), .inl (cI, 352, .inl (v19.2.2.2.2.2.1 2))), ((a0_past_states_r 3), .inr (3, [.ref (a0_past_states_a 3)])), ((a0_past_states_a 3), .inl (cI, 352, .inl (v19.2.2.2.2.2.1 3))), ((a0_past_states_r 4), .inr (3, [.ref (a0_past_states_a 4)])), ((a0_past_states_a 4), .inl (cI, 352, .inl (v19.2.2.2.2.2.1 4))), (a0_text, .inr (2, [.ref a0_text_signs, .ref a0_text_numbers, .int v1.2.1, .int v19.2.2.2.2.2.2.1, .int v19.2.2.2.2.2.2.2.1, .int v19.2.2.2.2.2.2.2.2.1, .int v19.2.2.2.2.2.2.2.2.2.1])), (a0_text_signs, .inl (cI, 60, .inl v1.2.2)), (a0_text_numbers, .inl (cI, 3, .inl v19.2.2.2.2.2.2.2.2.2.2))]) dL_reads_55 pkX5_count gL_reads_X5_count (kkX5_count l D cI cR a0 a0_now a0_trial a0_survey a0_mending a0_past a0_text a0_now a0_now_numbers a0_past_states a0_text_signs a0_text_numbers v19.2.1 v19.2.2.2.1 v19.2.2.2.2.1 v1.2.1 v19.2.2.2.2.2.2.1 v19.2.2.2.2.2.2.2.1 v19.2.2.2.2.2.2.2.2.1 v19.2.2.2.2.2.2.2.2.2.1 15 v101 h102) ⟨rfl, rfl⟩ ⟨Nat.le_of_ble_eq_true rfl, Nat.le_of_ble_eq_true rfl⟩ rfl rfl (Nat.le_of_ble_eq_true rfl) 0 rfl rfl [0, 5, 1, 2, 6, 18] [3, 4, 7, 8, 9, 10, 11, 12, 13, 14, 15, 16, 17, 19, 20] rfl rfl ⟨rfl, rfl, by decide⟩ ⟨Nat.zero_le _, Nat.zero_le _⟩ [15, 17, 18, 0, 1, 16, 19, 2, 3, 4, 5, 6, 7, 8, 9, 10, 11, 12, 20, 13, 14] rfl rfl ?_
    refine G_iload_n X dL_reads_58 5 rfl ?_
    refine G_icmp_ne X (tgt := 145) dL_reads_59 (by decide) (fun h104 => ?_) (fun h104 => ?_)
    · have h105 := ifp h104 h103
      refine G_iload X dL_reads_62 3 rfl ?_
      refine G_ldc X dL_reads_64 flL_reads_38 ?_
      obtain ⟨j106, h107, h108⟩ := bnd h105
      have J109 : G p l e rmL_reads s m args below meth c D A 10 Q 0 0 74 [(0, .ref a0), (1, .int x1), (3, .int v4), (4, .int v7), (5, .int v10.1), (6, .int v13.1), (7, .int v16.1), (8, .int v19.1)] [.int j106] [(a0, .inr (5, [.ref a0_now, .ref a0_trial, .ref a0_survey, .ref a0_mending, .ref a0_past, .ref a0_text])), (a0_now, .inr (3, [.ref a0_now_numbers])), (a0_now_numbers, .inl (cI, 352, .inl v19.2.1)), (a0_trial, .inr (3, [.ref a0_trial_numbers])), (a0_trial_numbers, .inl (cI, 352, .inl v19.2.2.1)), (a0_survey, .inr (4, [.ref a0_now])), (a0_past, .inr (0, [.ref a0_past_states, .int v19.2.2.2.1, .int v19.2.2.2.2.1])), (a0_past_states, .inl (cR, 5, .inr (.inr (.inr (.inr (fun j => some (a0_past_states_r j))))))), ((a0_past_states_r 0), .inr (3, [.ref (a0_past_states_a 0)])), ((a0_past_states_a 0), .inl (cI, 352, .inl (v19.2.2.2.2.2.1 0))), ((a0_past_states_r 1), .inr (3, [.ref (a0_past_states_a 1)])), ((a0_past_states_a 1), .inl (cI, 352, .inl (v19.2.2.2.2.2.1 1))), ((a0_past_states_r 2), .inr (3, [.ref (a0_past_states_a 2)])), ((a0_past_states_a 2), .inl (cI, 352, .inl (v19.2.2.2.2.2.1 2))), ((a0_past_states_r 3), .inr (3, [.ref (a0_past_states_a 3)])), ((a0_past_states_a 3), .inl (cI, 352, .inl (v19.2.2.2.2.2.1 3))), ((a0_past_states_r 4), .inr (3, [.ref (a0_past_states_a 4)])), ((a0_past_states_a 4), .inl (cI, 352, .inl (v19.2.2.2.2.2.1 4))), (a0_text, .inr (2, [.ref a0_text_signs, .ref a0_text_numbers, .int v1.2.1, .int v19.2.2.2.2.2.2.1, .int v19.2.2.2.2.2.2.2.1, .int v19.2.2.2.2.2.2.2.2.1, .int v19.2.2.2.2.2.2.2.2.2.1])), (a0_text_signs, .inl (cI, 60, .inl v1.2.2)), (a0_text_numbers, .inl (cI, 3, .inl v19.2.2.2.2.2.2.2.2.2.2))] := by
        refine G_iload X dL_reads_74 5 rfl ?_
        refine G_ldc X dL_reads_76 flL_reads_38 ?_
        obtain ⟨j110, h111, h112⟩ := bnd h108
        have J113 : G p l e rmL_reads s m args below meth c D A 10 Q 0 0 86 [(0, .ref a0), (1, .int x1), (3, .int v4), (4, .int v7), (5, .int v10.1), (6, .int v13.1), (7, .int v16.1), (8, .int v19.1)] [.int j110, .int j106] [(a0, .inr (5, [.ref a0_now, .ref a0_trial, .ref a0_survey, .ref a0_mending, .ref a0_past, .ref a0_text])), (a0_now, .inr (3, [.ref a0_now_numbers])), (a0_now_numbers, .inl (cI, 352, .inl v19.2.1)), (a0_trial, .inr (3, [.ref a0_trial_numbers])), (a0_trial_numbers, .inl (cI, 352, .inl v19.2.2.1)), (a0_survey, .inr (4, [.ref a0_now])), (a0_past, .inr (0, [.ref a0_past_states, .int v19.2.2.2.1, .int v19.2.2.2.2.1])), (a0_past_states, .inl (cR, 5, .inr (.inr (.inr (.inr (fun j => some (a0_past_states_r j))))))), ((a0_past_states_r 0), .inr (3, [.ref (a0_past_states_a 0)])), ((a0_past_states_a 0), .inl (cI, 352, .inl (v19.2.2.2.2.2.1 0))), ((a0_past_states_r 1), .inr (3, [.ref (a0_past_states_a 1)])), ((a0_past_states_a 1), .inl (cI, 352, .inl (v19.2.2.2.2.2.1 1))), ((a0_past_states_r 2), .inr (3, [.ref (a0_past_states_a 2)])), ((a0_past_states_a 2), .inl (cI, 352, .inl (v19.2.2.2.2.2.1 2))), ((a0_past_states_r 3), .inr (3, [.ref (a0_past_states_a 3)])), ((a0_past_states_a 3), .inl (cI, 352, .inl (v19.2.2.2.2.2.1 3))), ((a0_past_states_r 4), .inr (3, [.ref (a0_past_states_a 4)])), ((a0_past_states_a 4), .inl (cI, 352, .inl (v19.2.2.2.2.2.1 4))), (a0_text, .inr (2, [.ref a0_text_signs, .ref a0_text_numbers, .int v1.2.1, .int v19.2.2.2.2.2.2.1, .int v19.2.2.2.2.2.2.2.1, .int v19.2.2.2.2.2.2.2.2.1, .int v19.2.2.2.2.2.2.2.2.2.1])), (a0_text_signs, .inl (cI, 60, .inl v1.2.2)), (a0_text_numbers, .inl (cI, 3, .inl v19.2.2.2.2.2.2.2.2.2.2))] := by
          refine G_icmp_ne X (tgt := 145) dL_reads_86 (by decide) (fun h114 => ?_) (fun h114 => ?_)
          · have h115 := ifp h114 h112
            refine G_iload X dL_reads_89 4 rfl ?_
            refine G_ldc X dL_reads_91 flL_reads_38 ?_
            obtain ⟨j116, h117, h118⟩ := bnd h115
            have J119 : G p l e rmL_reads s m args below meth c D A 10 Q 0 0 101 [(0, .ref a0), (1, .int x1), (3, .int v4), (4, .int v7), (5, .int v10.1), (6, .int v13.1), (7, .int v16.1), (8, .int v19.1)] [.int j116] [(a0, .inr (5, [.ref a0_now, .ref a0_trial, .ref a0_survey, .ref a0_mending, .ref a0_past, .ref a0_text])), (a0_now, .inr (3, [.ref a0_now_numbers])), (a0_now_numbers, .inl (cI, 352, .inl v19.2.1)), (a0_trial, .inr (3, [.ref a0_trial_numbers])), (a0_trial_numbers, .inl (cI, 352, .inl v19.2.2.1)), (a0_survey, .inr (4, [.ref a0_now])), (a0_past, .inr (0, [.ref a0_past_states, .int v19.2.2.2.1, .int v19.2.2.2.2.1])), (a0_past_states, .inl (cR, 5, .inr (.inr (.inr (.inr (fun j => some (a0_past_states_r j))))))), ((a0_past_states_r 0), .inr (3, [.ref (a0_past_states_a 0)])), ((a0_past_states_a 0), .inl (cI, 352, .inl (v19.2.2.2.2.2.1 0))), ((a0_past_states_r 1), .inr (3, [.ref (a0_past_states_a 1)])), ((a0_past_states_a 1), .inl (cI, 352, .inl (v19.2.2.2.2.2.1 1))), ((a0_past_states_r 2), .inr (3, [.ref (a0_past_states_a 2)])), ((a0_past_states_a 2), .inl (cI, 352, .inl (v19.2.2.2.2.2.1 2))), ((a0_past_states_r 3), .inr (3, [.ref (a0_past_states_a 3)])), ((a0_past_states_a 3), .inl (cI, 352, .inl (v19.2.2.2.2.2.1 3))), ((a0_past_states_r 4), .inr (3, [.ref (a0_past_states_a 4)])), ((a0_past_states_a 4), .inl (cI, 352, .inl (v19.2.2.2.2.2.1 4))), (a0_text, .inr (2, [.ref a0_text_signs, .ref a0_text_numbers, .int v1.2.1, .int v19.2.2.2.2.2.2.1, .int v19.2.2.2.2.2.2.2.1, .int v19.2.2.2.2.2.2.2.2.1, .int v19.2.2.2.2.2.2.2.2.2.1])), (a0_text_signs, .inl (cI, 60, .inl v1.2.2)), (a0_text_numbers, .inl (cI, 3, .inl v19.2.2.2.2.2.2.2.2.2.2))] := by
              refine G_iload X dL_reads_101 6 rfl ?_
              refine G_ldc X dL_reads_103 flL_reads_38 ?_
              obtain ⟨j120, h121, h122⟩ := bnd h118
              have J123 : G p l e rmL_reads s m args below meth c D A 10 Q 0 0 113 [(0, .ref a0), (1, .int x1), (3, .int v4), (4, .int v7), (5, .int v10.1), (6, .int v13.1), (7, .int v16.1), (8, .int v19.1)] [.int j120, .int j116] [(a0, .inr (5, [.ref a0_now, .ref a0_trial, .ref a0_survey, .ref a0_mending, .ref a0_past, .ref a0_text])), (a0_now, .inr (3, [.ref a0_now_numbers])), (a0_now_numbers, .inl (cI, 352, .inl v19.2.1)), (a0_trial, .inr (3, [.ref a0_trial_numbers])), (a0_trial_numbers, .inl (cI, 352, .inl v19.2.2.1)), (a0_survey, .inr (4, [.ref a0_now])), (a0_past, .inr (0, [.ref a0_past_states, .int v19.2.2.2.1, .int v19.2.2.2.2.1])), (a0_past_states, .inl (cR, 5, .inr (.inr (.inr (.inr (fun j => some (a0_past_states_r j))))))), ((a0_past_states_r 0), .inr (3, [.ref (a0_past_states_a 0)])), ((a0_past_states_a 0), .inl (cI, 352, .inl (v19.2.2.2.2.2.1 0))), ((a0_past_states_r 1), .inr (3, [.ref (a0_past_states_a 1)])), ((a0_past_states_a 1), .inl (cI, 352, .inl (v19.2.2.2.2.2.1 1))), ((a0_past_states_r 2), .inr (3, [.ref (a0_past_states_a 2)])), ((a0_past_states_a 2), .inl (cI, 352, .inl (v19.2.2.2.2.2.1 2))), ((a0_past_states_r 3), .inr (3, [.ref (a0_past_states_a 3)])), ((a0_past_states_a 3), .inl (cI, 352, .inl (v19.2.2.2.2.2.1 3))), ((a0_past_states_r 4), .inr (3, [.ref (a0_past_states_a 4)])), ((a0_past_states_a 4), .inl (cI, 352, .inl (v19.2.2.2.2.2.1 4))), (a0_text, .inr (2, [.ref a0_text_signs, .ref a0_text_numbers, .int v1.2.1, .int v19.2.2.2.2.2.2.1, .int v19.2.2.2.2.2.2.2.1, .int v19.2.2.2.2.2.2.2.2.1, .int v19.2.2.2.2.2.2.2.2.2.1])), (a0_text_signs, .inl (cI, 60, .inl v1.2.2)), (a0_text_numbers, .inl (cI, 3, .inl v19.2.2.2.2.2.2.2.2.2.2))] := by
                refine G_icmp_ne X (tgt := 145) dL_reads_113 (by decide) (fun h124 => ?_) (fun h124 => ?_)
                · have h125 := ifp h124 h122
                  refine G_iload X dL_reads_116 7 rfl ?_
                  refine G_ldc X dL_reads_118 flL_reads_59 ?_
                  obtain ⟨j126, h127, h128⟩ := bnd h125
                  have J129 : G p l e rmL_reads s m args below meth c D A 10 Q 0 0 128 [(0, .ref a0), (1, .int x1), (3, .int v4), (4, .int v7), (5, .int v10.1), (6, .int v13.1), (7, .int v16.1), (8, .int v19.1)] [.int j126] [(a0, .inr (5, [.ref a0_now, .ref a0_trial, .ref a0_survey, .ref a0_mending, .ref a0_past, .ref a0_text])), (a0_now, .inr (3, [.ref a0_now_numbers])), (a0_now_numbers, .inl (cI, 352, .inl v19.2.1)), (a0_trial, .inr (3, [.ref a0_trial_numbers])), (a0_trial_numbers, .inl (cI, 352, .inl v19.2.2.1)), (a0_survey, .inr (4, [.ref a0_now])), (a0_past, .inr (0, [.ref a0_past_states, .int v19.2.2.2.1, .int v19.2.2.2.2.1])), (a0_past_states, .inl (cR, 5, .inr (.inr (.inr (.inr (fun j => some (a0_past_states_r j))))))), ((a0_past_states_r 0), .inr (3, [.ref (a0_past_states_a 0)])), ((a0_past_states_a 0), .inl (cI, 352, .inl (v19.2.2.2.2.2.1 0))), ((a0_past_states_r 1), .inr (3, [.ref (a0_past_states_a 1)])), ((a0_past_states_a 1), .inl (cI, 352, .inl (v19.2.2.2.2.2.1 1))), ((a0_past_states_r 2), .inr (3, [.ref (a0_past_states_a 2)])), ((a0_past_states_a 2), .inl (cI, 352, .inl (v19.2.2.2.2.2.1 2))), ((a0_past_states_r 3), .inr (3, [.ref (a0_past_states_a 3)])), ((a0_past_states_a 3), .inl (cI, 352, .inl (v19.2.2.2.2.2.1 3))), ((a0_past_states_r 4), .inr (3, [.ref (a0_past_states_a 4)])), ((a0_past_states_a 4), .inl (cI, 352, .inl (v19.2.2.2.2.2.1 4))), (a0_text, .inr (2, [.ref a0_text_signs, .ref a0_text_numbers, .int v1.2.1, .int v19.2.2.2.2.2.2.1, .int v19.2.2.2.2.2.2.2.1, .int v19.2.2.2.2.2.2.2.2.1, .int v19.2.2.2.2.2.2.2.2.2.1])), (a0_text_signs, .inl (cI, 60, .inl v1.2.2)), (a0_text_numbers, .inl (cI, 3, .inl v19.2.2.2.2.2.2.2.2.2.2))] := by
                    refine G_iload X dL_reads_128 4 rfl ?_
                    refine G_if_lt X (tgt := 137) dL_reads_130 (by decide) (fun h130 => ?_) (fun h130 => ?_)
                    · have h131 := ifp h130 h128
                      refine G_iconst X (v := 0) dL_reads_137 (by decide) ?_
                      refine G_icmp_ne X (tgt := 145) dL_reads_138 (by decide) (fun h132 => ?_) (fun h132 => ?_)
                      · have h133 := ifp h132 h131
                        refine G_iconst X (v := 1) dL_reads_141 (by decide) ?_
                        refine G_goto X (tgt := 146) dL_reads_142 (by decide) ?_
                        cases h133
                        exact J25
                      · have h134 := ifn h132 h131
                        refine G_iconst X (v := 0) dL_reads_145 (by decide) ?_
                        cases h134
                        exact J25
                    · have h135 := ifn h130 h128
                      refine G_iconst X (v := 1) dL_reads_133 (by decide) ?_
                      refine G_goto X (tgt := 138) dL_reads_134 (by decide) ?_
                      refine G_icmp_ne X (tgt := 145) dL_reads_138 (by decide) (fun h136 => ?_) (fun h136 => ?_)
                      · have h137 := ifp h136 h135
                        refine G_iconst X (v := 1) dL_reads_141 (by decide) ?_
                        refine G_goto X (tgt := 146) dL_reads_142 (by decide) ?_
                        cases h137
                        exact J25
                      · have h138 := ifn h136 h135
                        refine G_iconst X (v := 0) dL_reads_145 (by decide) ?_
                        cases h138
                        exact J25
                  refine G_icmp_ne X (tgt := 127) dL_reads_120 (by decide) (fun h139 => ?_) (fun h139 => ?_)
                  · have h140 := ifp h139 h127
                    refine G_iconst X (v := 1) dL_reads_123 (by decide) ?_
                    refine G_goto X (tgt := 128) dL_reads_124 (by decide) ?_
                    cases h140
                    exact J129
                  · have h141 := ifn h139 h127
                    refine G_iconst X (v := 0) dL_reads_127 (by decide) ?_
                    cases h141
                    exact J129
                · have h142 := ifn h124 h122
                  refine G_iconst X (v := 0) dL_reads_145 (by decide) ?_
                  cases h142
                  exact J25
              refine G_icmp_ne X (tgt := 112) dL_reads_105 (by decide) (fun h143 => ?_) (fun h143 => ?_)
              · have h144 := ifp h143 h121
                refine G_iconst X (v := 1) dL_reads_108 (by decide) ?_
                refine G_goto X (tgt := 113) dL_reads_109 (by decide) ?_
                cases h144
                exact J123
              · have h145 := ifn h143 h121
                refine G_iconst X (v := 0) dL_reads_112 (by decide) ?_
                cases h145
                exact J123
            refine G_icmp_ne X (tgt := 100) dL_reads_93 (by decide) (fun h146 => ?_) (fun h146 => ?_)
            · have h147 := ifp h146 h117
              refine G_iconst X (v := 1) dL_reads_96 (by decide) ?_
              refine G_goto X (tgt := 101) dL_reads_97 (by decide) ?_
              cases h147
              exact J119
            · have h148 := ifn h146 h117
              refine G_iconst X (v := 0) dL_reads_100 (by decide) ?_
              cases h148
              exact J119
          · have h149 := ifn h114 h112
            refine G_iconst X (v := 0) dL_reads_145 (by decide) ?_
            cases h149
            exact J25
        refine G_icmp_ne X (tgt := 85) dL_reads_78 (by decide) (fun h150 => ?_) (fun h150 => ?_)
        · have h151 := ifp h150 h111
          refine G_iconst X (v := 1) dL_reads_81 (by decide) ?_
          refine G_goto X (tgt := 86) dL_reads_82 (by decide) ?_
          cases h151
          exact J113
        · have h152 := ifn h150 h111
          refine G_iconst X (v := 0) dL_reads_85 (by decide) ?_
          cases h152
          exact J113
      refine G_icmp_ne X (tgt := 73) dL_reads_66 (by decide) (fun h153 => ?_) (fun h153 => ?_)
      · have h154 := ifp h153 h107
        refine G_iconst X (v := 1) dL_reads_69 (by decide) ?_
        refine G_goto X (tgt := 74) dL_reads_70 (by decide) ?_
        cases h154
        exact G_lv [7, 8, 5, 4, 3, 2, 1, 0] rfl (J109)
      · have h155 := ifn h153 h107
        refine G_iconst X (v := 0) dL_reads_73 (by decide) ?_
        cases h155
        exact G_lv [7, 8, 5, 4, 3, 2, 1, 0] rfl (J109)
    · have h156 := ifn h104 h103
      refine G_iconst X (v := 0) dL_reads_145 (by decide) ?_
      cases h156
      exact G_lv [7, 8, 5, 4, 3, 2, 1, 0] rfl (J25)
