def rmL_low : Room := { frames := 0, cells := 0, slots := 0, locals := 0 }
theorem pkL_low : cK yL_low wsL_low cL_low 2 (some .int) 2 RL := ⟨⟨_, rfl⟩, by decide +kernel⟩
theorem flL_low_8 : Cond.constant RL 8 (2147483647) ∈ wsL_low := by decide +kernel
set_option maxHeartbeats 4000000 in
set_option maxRecDepth 100000 in
theorem kkL_low (l : Launch) (D : va_G) (cI cR : ClassId) (x0 : Int32) (x1 : Int32) (z : Int32) (hz : ML_low x0 x1 = some z) : cI1 l yL_low wsL_low rmL_low D cI cR [.int x0, .int x1] [] z [] := by
  unfold ML_low at hz
  refine kI_of (cc := cL_low) (maxL := 2) (own := RL) (by decide +kernel) rfl rfl (Nat.le_of_ble_eq_true rfl) (lv0 := [(0, .int x0), (1, .int x1)]) rfl (fun p e s m args below meth c A Q X rt => ?_)
  refine G_iload_n X dL_low_0 0 rfl ?_
  refine G_ldc X dL_low_1 flL_low_8 ?_
  refine G_iand X dL_low_3 ?_
  refine G_iload_n X dL_low_4 1 rfl ?_
  obtain ⟨v1, h2, h3⟩ := bnd hz
  refine G_iremA X dL_low_5 h2 ?_
  cases h3
  exact rt _ _ _ _ dL_low_6 ⟨rfl, rfl⟩
def rmL_look : Room := { frames := 7, cells := 0, slots := 0, locals := 160 }
theorem pkL_look : cK yL_look wsL_look cL_look 6 (some .long) 1 RL := ⟨⟨_, rfl⟩, by decide +kernel⟩
theorem flL_look_9 : Cond.constantLong RL 9 (317) ∈ wsL_look := by decide +kernel
theorem flL_look_11 : Cond.constantLong RL 11 (31) ∈ wsL_look := by decide +kernel
set_option maxHeartbeats 4000000 in
set_option maxRecDepth 100000 in
theorem kkL_look (l : Launch) (D : va_G) (cI cR : ClassId) (a0 a0_now a0_trial a0_survey a0_mending a0_past a0_text a0_now_numbers a0_past_states a0_text_signs a0_text_numbers : Nat) (f_a0_now_numbers : Nat → Int32) (i_a0_past_oldest : Int32) (i_a0_past_many : Int32) (i_a0_text_length : Int32) (i_a0_text_at : Int32) (i_a0_text_faultPosition : Int32) (i_a0_text_faultReason : Int32) (i_a0_text_faultCause : Int32) (z : Int64) (hz : ML_look f_a0_now_numbers i_a0_past_many i_a0_text_length = some z) : cJ1 l yL_look wsL_look rmL_look D cI cR [.ref a0] [(a0, .inr (5, [.ref a0_now, .ref a0_trial, .ref a0_survey, .ref a0_mending, .ref a0_past, .ref a0_text])), (a0_now, .inr (3, [.ref a0_now_numbers])), (a0_now_numbers, .inl (cI, 352, .inl f_a0_now_numbers)), (a0_survey, .inr (4, [.ref a0_now])), (a0_past, .inr (0, [.ref a0_past_states, .int i_a0_past_oldest, .int i_a0_past_many])), (a0_text, .inr (2, [.ref a0_text_signs, .ref a0_text_numbers, .int i_a0_text_length, .int i_a0_text_at, .int i_a0_text_faultPosition, .int i_a0_text_faultReason, .int i_a0_text_faultCause]))] z [(a0, .inr (5, [.ref a0_now, .ref a0_trial, .ref a0_survey, .ref a0_mending, .ref a0_past, .ref a0_text])), (a0_now, .inr (3, [.ref a0_now_numbers])), (a0_now_numbers, .inl (cI, 352, .inl f_a0_now_numbers)), (a0_survey, .inr (4, [.ref a0_now])), (a0_past, .inr (0, [.ref a0_past_states, .int i_a0_past_oldest, .int i_a0_past_many])), (a0_text, .inr (2, [.ref a0_text_signs, .ref a0_text_numbers, .int i_a0_text_length, .int i_a0_text_at, .int i_a0_text_faultPosition, .int i_a0_text_faultReason, .int i_a0_text_faultCause]))] := by
  unfold ML_look at hz
  refine kJ_of (cc := cL_look) (maxL := 6) (own := RL) (by decide +kernel) rfl rfl (Nat.le_of_ble_eq_true rfl) (lv0 := [(0, .ref a0)]) rfl (fun p e s m args below meth c A Q X rt => ?_)
  refine G_ldc2 X dL_look_0 flL_look_9 ?_
  refine G_lstore_n X (lv' := [(1, .long 317), (0, .ref a0)]) dL_look_3 (by decide) rfl ?_
  refine G_iconst X (v := 0) dL_look_4 (by decide) ?_
  refine G_istore_n X (lv' := [(3, .int 0), (1, .long 317), (0, .ref a0)]) dL_look_5 (by decide) rfl ?_
  obtain ⟨j2, h3, h4⟩ := bnd hz
  have J9 : G p l e rmL_look s m args below meth c D A 6 Q 0 0 31 [(0, .ref a0), (1, .long j2)] [] [(a0, .inr (5, [.ref a0_now, .ref a0_trial, .ref a0_survey, .ref a0_mending, .ref a0_past, .ref a0_text])), (a0_now, .inr (3, [.ref a0_now_numbers])), (a0_now_numbers, .inl (cI, 352, .inl f_a0_now_numbers)), (a0_survey, .inr (4, [.ref a0_now])), (a0_past, .inr (0, [.ref a0_past_states, .int i_a0_past_oldest, .int i_a0_past_many])), (a0_text, .inr (2, [.ref a0_text_signs, .ref a0_text_numbers, .int i_a0_text_length, .int i_a0_text_at, .int i_a0_text_faultPosition, .int i_a0_text_faultReason, .int i_a0_text_faultCause]))] := by
    refine G_ldc2 X dL_look_31 flL_look_11 ?_
    refine G_ldc2 X dL_look_34 flL_look_11 ?_
    refine G_lload_n X dL_look_37 1 rfl ?_
    refine G_lmul X dL_look_38 ?_
    refine G_aload_n X dL_look_39 0 rfl ?_
    refine G_bipush X (v := 20) dL_look_40 (by decide) ?_
    obtain ⟨v11, h12, h13⟩ := bnd h4
    refine G1_calli X (As := [.int 20]) (rest := [.long (31 * j2), .long 31]) (wr := []) (ws' := [(a0, .inr (5, [.ref a0_now, .ref a0_trial, .ref a0_survey, .ref a0_mending, .ref a0_past, .ref a0_text])), (a0_now, .inr (3, [.ref a0_now_numbers])), (a0_now_numbers, .inl (cI, 352, .inl f_a0_now_numbers)), (a0_survey, .inr (4, [.ref a0_now])), (a0_past, .inr (0, [.ref a0_past_states, .int i_a0_past_oldest, .int i_a0_past_many])), (a0_text, .inr (2, [.ref a0_text_signs, .ref a0_text_numbers, .int i_a0_text_length, .int i_a0_text_at, .int i_a0_text_faultPosition, .int i_a0_text_faultReason, .int i_a0_text_faultCause]))]) dL_look_42 pkX5_count gL_look_X5_count (kkX5_count l D cI cR a0 a0_now a0_trial a0_survey a0_mending a0_past a0_text a0_now a0_now_numbers a0_past_states a0_text_signs a0_text_numbers f_a0_now_numbers i_a0_past_oldest i_a0_past_many i_a0_text_length i_a0_text_at i_a0_text_faultPosition i_a0_text_faultReason i_a0_text_faultCause 20 v11 h12) ⟨rfl, rfl⟩ ⟨Nat.le_of_ble_eq_true rfl, Nat.le_of_ble_eq_true rfl⟩ rfl rfl (Nat.le_of_ble_eq_true rfl) 0 rfl rfl [0, 3, 1, 2, 4, 5] [] rfl rfl ⟨rfl, rfl, by decide⟩ ⟨Nat.zero_le _, Nat.zero_le _⟩ [0, 2, 3, 1, 4, 5] rfl rfl ?_
    refine G_i2l X dL_look_45 ?_
    refine G_ladd X dL_look_46 ?_
    refine G_lmul X dL_look_47 ?_
    refine G_aload_n X dL_look_48 0 rfl ?_
    refine G_bipush X (v := 21) dL_look_49 (by decide) ?_
    obtain ⟨v14, h15, h16⟩ := bnd h13
    refine G1_calli X (As := [.int 21]) (rest := [.long (31 * ((31 * j2) + (v11).toInt64))]) (wr := []) (ws' := [(a0, .inr (5, [.ref a0_now, .ref a0_trial, .ref a0_survey, .ref a0_mending, .ref a0_past, .ref a0_text])), (a0_now, .inr (3, [.ref a0_now_numbers])), (a0_now_numbers, .inl (cI, 352, .inl f_a0_now_numbers)), (a0_survey, .inr (4, [.ref a0_now])), (a0_past, .inr (0, [.ref a0_past_states, .int i_a0_past_oldest, .int i_a0_past_many])), (a0_text, .inr (2, [.ref a0_text_signs, .ref a0_text_numbers, .int i_a0_text_length, .int i_a0_text_at, .int i_a0_text_faultPosition, .int i_a0_text_faultReason, .int i_a0_text_faultCause]))]) dL_look_51 pkX5_count gL_look_X5_count (kkX5_count l D cI cR a0 a0_now a0_trial a0_survey a0_mending a0_past a0_text a0_now a0_now_numbers a0_past_states a0_text_signs a0_text_numbers f_a0_now_numbers i_a0_past_oldest i_a0_past_many i_a0_text_length i_a0_text_at i_a0_text_faultPosition i_a0_text_faultReason i_a0_text_faultCause 21 v14 h15) ⟨rfl, rfl⟩ ⟨Nat.le_of_ble_eq_true rfl, Nat.le_of_ble_eq_true rfl⟩ rfl rfl (Nat.le_of_ble_eq_true rfl) 0 rfl rfl [0, 3, 1, 2, 4, 5] [] rfl rfl ⟨rfl, rfl, by decide⟩ ⟨Nat.zero_le _, Nat.zero_le _⟩ [0, 2, 3, 1, 4, 5] rfl rfl ?_
    refine G_i2l X dL_look_54 ?_
    refine G_ladd X dL_look_55 ?_
    refine G_lstore_n X (lv' := [(1, .long ((31 * ((31 * j2) + (v11).toInt64)) + (v14).toInt64)), (0, .ref a0)]) dL_look_56 (by decide) rfl ?_
    refine G_iconst X (v := 0) dL_look_57 (by decide) ?_
    refine G_istore_n X (lv' := [(3, .int 0), (1, .long ((31 * ((31 * j2) + (v11).toInt64)) + (v14).toInt64)), (0, .ref a0)]) dL_look_58 (by decide) rfl ?_
    obtain ⟨j18, h19, h20⟩ := bnd h16
    have J25 : G p l e rmL_look s m args below meth c D A 6 Q 0 0 240 [(1, .long j18)] [] [(a0, .inr (5, [.ref a0_now, .ref a0_trial, .ref a0_survey, .ref a0_mending, .ref a0_past, .ref a0_text])), (a0_now, .inr (3, [.ref a0_now_numbers])), (a0_now_numbers, .inl (cI, 352, .inl f_a0_now_numbers)), (a0_survey, .inr (4, [.ref a0_now])), (a0_past, .inr (0, [.ref a0_past_states, .int i_a0_past_oldest, .int i_a0_past_many])), (a0_text, .inr (2, [.ref a0_text_signs, .ref a0_text_numbers, .int i_a0_text_length, .int i_a0_text_at, .int i_a0_text_faultPosition, .int i_a0_text_faultReason, .int i_a0_text_faultCause]))] := by
      refine G_lload_n X dL_look_240 0 rfl ?_
      cases h20
      exact rt _ _ _ _ dL_look_241 ⟨rfl, rfl⟩
    refine G_lv [2, 1, 0] rfl ?_
    refine itr_ind (P := fun s17 : (Int64 × Int32) => G p l e rmL_look s m args below meth c D A 6 Q 0 0 59 [(0, .ref a0), (1, .long s17.1), (3, .int s17.2)] [] [(a0, .inr (5, [.ref a0_now, .ref a0_trial, .ref a0_survey, .ref a0_mending, .ref a0_past, .ref a0_text])), (a0_now, .inr (3, [.ref a0_now_numbers])), (a0_now_numbers, .inl (cI, 352, .inl f_a0_now_numbers)), (a0_survey, .inr (4, [.ref a0_now])), (a0_past, .inr (0, [.ref a0_past_states, .int i_a0_past_oldest, .int i_a0_past_many])), (a0_text, .inr (2, [.ref a0_text_signs, .ref a0_text_numbers, .int i_a0_text_length, .int i_a0_text_at, .int i_a0_text_faultPosition, .int i_a0_text_faultReason, .int i_a0_text_faultCause]))]) (fun s17 o24 h21 h22 h23 => ?_) FU _ h19
    unfold SL_look_59 at h21
    refine G_iload_n X dL_look_59 2 rfl ?_
    refine G_aload_n X dL_look_60 0 rfl ?_
    refine G_iconst X (v := 0) dL_look_61 (by decide) ?_
    obtain ⟨v27, h28, h29⟩ := bnd h21
    refine G1_calli X (As := [.int 0]) (rest := [.int s17.2]) (wr := []) (ws' := [(a0, .inr (5, [.ref a0_now, .ref a0_trial, .ref a0_survey, .ref a0_mending, .ref a0_past, .ref a0_text])), (a0_now, .inr (3, [.ref a0_now_numbers])), (a0_now_numbers, .inl (cI, 352, .inl f_a0_now_numbers)), (a0_survey, .inr (4, [.ref a0_now])), (a0_past, .inr (0, [.ref a0_past_states, .int i_a0_past_oldest, .int i_a0_past_many])), (a0_text, .inr (2, [.ref a0_text_signs, .ref a0_text_numbers, .int i_a0_text_length, .int i_a0_text_at, .int i_a0_text_faultPosition, .int i_a0_text_faultReason, .int i_a0_text_faultCause]))]) dL_look_62 pkX5_count gL_look_X5_count (kkX5_count l D cI cR a0 a0_now a0_trial a0_survey a0_mending a0_past a0_text a0_now a0_now_numbers a0_past_states a0_text_signs a0_text_numbers f_a0_now_numbers i_a0_past_oldest i_a0_past_many i_a0_text_length i_a0_text_at i_a0_text_faultPosition i_a0_text_faultReason i_a0_text_faultCause 0 v27 h28) ⟨rfl, rfl⟩ ⟨Nat.le_of_ble_eq_true rfl, Nat.le_of_ble_eq_true rfl⟩ rfl rfl (Nat.le_of_ble_eq_true rfl) 0 rfl rfl [0, 3, 1, 2, 4, 5] [] rfl rfl ⟨rfl, rfl, by decide⟩ ⟨Nat.zero_le _, Nat.zero_le _⟩ [0, 2, 3, 1, 4, 5] rfl rfl ?_
    refine G_icmp_ge X (tgt := 240) dL_look_65 (by decide) (fun h30 => ?_) (fun h30 => ?_)
    · have h31 := ifp h30 h29
      cases h31
      have h32 := h23 _ rfl
      subst h32
      exact G_lv [1] rfl (J25)
    · have h33 := ifn h30 h29
      refine G_ldc2 X dL_look_68 flL_look_11 ?_
      refine G_ldc2 X dL_look_71 flL_look_11 ?_
      refine G_ldc2 X dL_look_74 flL_look_11 ?_
      refine G_lload_n X dL_look_77 1 rfl ?_
      refine G_lmul X dL_look_78 ?_
      refine G_aload_n X dL_look_79 0 rfl ?_
      refine G_iload_n X dL_look_80 2 rfl ?_
      refine G_iconst X (v := 0) dL_look_81 (by decide) ?_
      obtain ⟨v34, h35, h36⟩ := bnd h33
      refine G1_calli X (As := [.int s17.2, .int 0]) (rest := [.long (31 * s17.1), .long 31, .long 31]) (wr := [(a0_past, .inr (0, [.ref a0_past_states, .int i_a0_past_oldest, .int i_a0_past_many])), (a0_text, .inr (2, [.ref a0_text_signs, .ref a0_text_numbers, .int i_a0_text_length, .int i_a0_text_at, .int i_a0_text_faultPosition, .int i_a0_text_faultReason, .int i_a0_text_faultCause]))]) (ws' := [(a0, .inr (5, [.ref a0_now, .ref a0_trial, .ref a0_survey, .ref a0_mending, .ref a0_past, .ref a0_text])), (a0_now, .inr (3, [.ref a0_now_numbers])), (a0_now_numbers, .inl (cI, 352, .inl f_a0_now_numbers)), (a0_survey, .inr (4, [.ref a0_now])), (a0_past, .inr (0, [.ref a0_past_states, .int i_a0_past_oldest, .int i_a0_past_many])), (a0_text, .inr (2, [.ref a0_text_signs, .ref a0_text_numbers, .int i_a0_text_length, .int i_a0_text_at, .int i_a0_text_faultPosition, .int i_a0_text_faultReason, .int i_a0_text_faultCause]))]) dL_look_82 pkX5_row gL_look_X5_row (kkX5_row l D cI cR a0 a0_now a0_trial a0_survey a0_mending a0_past a0_text a0_now a0_now_numbers f_a0_now_numbers s17.2 0 v34 h35) ⟨rfl, rfl⟩ ⟨Nat.le_of_ble_eq_true rfl, Nat.le_of_ble_eq_true rfl⟩ rfl rfl (Nat.le_of_ble_eq_true rfl) 0 rfl rfl [0, 3, 1, 2] [4, 5] rfl rfl ⟨rfl, rfl, by decide⟩ ⟨Nat.zero_le _, Nat.zero_le _⟩ [2, 4, 5, 3, 0, 1] rfl rfl ?_
      refine G_i2l X dL_look_85 ?_
      refine G_ladd X dL_look_86 ?_
      refine G_lmul X dL_look_87 ?_
      refine G_aload_n X dL_look_88 0 rfl ?_
      refine G_iload_n X dL_look_89 2 rfl ?_
      refine G_bipush X (v := 8) dL_look_90 (by decide) ?_
      obtain ⟨v37, h38, h39⟩ := bnd h36
      refine G1_calli X (As := [.int s17.2, .int 8]) (rest := [.long (31 * ((31 * s17.1) + (v34).toInt64)), .long 31]) (wr := [(a0_past, .inr (0, [.ref a0_past_states, .int i_a0_past_oldest, .int i_a0_past_many])), (a0_text, .inr (2, [.ref a0_text_signs, .ref a0_text_numbers, .int i_a0_text_length, .int i_a0_text_at, .int i_a0_text_faultPosition, .int i_a0_text_faultReason, .int i_a0_text_faultCause]))]) (ws' := [(a0, .inr (5, [.ref a0_now, .ref a0_trial, .ref a0_survey, .ref a0_mending, .ref a0_past, .ref a0_text])), (a0_now, .inr (3, [.ref a0_now_numbers])), (a0_now_numbers, .inl (cI, 352, .inl f_a0_now_numbers)), (a0_survey, .inr (4, [.ref a0_now])), (a0_past, .inr (0, [.ref a0_past_states, .int i_a0_past_oldest, .int i_a0_past_many])), (a0_text, .inr (2, [.ref a0_text_signs, .ref a0_text_numbers, .int i_a0_text_length, .int i_a0_text_at, .int i_a0_text_faultPosition, .int i_a0_text_faultReason, .int i_a0_text_faultCause]))]) dL_look_92 pkX5_row gL_look_X5_row (kkX5_row l D cI cR a0 a0_now a0_trial a0_survey a0_mending a0_past a0_text a0_now a0_now_numbers f_a0_now_numbers s17.2 8 v37 h38) ⟨rfl, rfl⟩ ⟨Nat.le_of_ble_eq_true rfl, Nat.le_of_ble_eq_true rfl⟩ rfl rfl (Nat.le_of_ble_eq_true rfl) 0 rfl rfl [0, 3, 1, 2] [4, 5] rfl rfl ⟨rfl, rfl, by decide⟩ ⟨Nat.zero_le _, Nat.zero_le _⟩ [2, 4, 5, 3, 0, 1] rfl rfl ?_
      refine G_i2l X dL_look_95 ?_
      refine G_ladd X dL_look_96 ?_
      refine G_lmul X dL_look_97 ?_
      refine G_aload_n X dL_look_98 0 rfl ?_
      refine G_iload_n X dL_look_99 2 rfl ?_
      refine G_bipush X (v := 9) dL_look_100 (by decide) ?_
      obtain ⟨v40, h41, h42⟩ := bnd h39
      refine G1_calli X (As := [.int s17.2, .int 9]) (rest := [.long (31 * ((31 * ((31 * s17.1) + (v34).toInt64)) + (v37).toInt64))]) (wr := [(a0_past, .inr (0, [.ref a0_past_states, .int i_a0_past_oldest, .int i_a0_past_many])), (a0_text, .inr (2, [.ref a0_text_signs, .ref a0_text_numbers, .int i_a0_text_length, .int i_a0_text_at, .int i_a0_text_faultPosition, .int i_a0_text_faultReason, .int i_a0_text_faultCause]))]) (ws' := [(a0, .inr (5, [.ref a0_now, .ref a0_trial, .ref a0_survey, .ref a0_mending, .ref a0_past, .ref a0_text])), (a0_now, .inr (3, [.ref a0_now_numbers])), (a0_now_numbers, .inl (cI, 352, .inl f_a0_now_numbers)), (a0_survey, .inr (4, [.ref a0_now])), (a0_past, .inr (0, [.ref a0_past_states, .int i_a0_past_oldest, .int i_a0_past_many])), (a0_text, .inr (2, [.ref a0_text_signs, .ref a0_text_numbers, .int i_a0_text_length, .int i_a0_text_at, .int i_a0_text_faultPosition, .int i_a0_text_faultReason, .int i_a0_text_faultCause]))]) dL_look_102 pkX5_row gL_look_X5_row (kkX5_row l D cI cR a0 a0_now a0_trial a0_survey a0_mending a0_past a0_text a0_now a0_now_numbers f_a0_now_numbers s17.2 9 v40 h41) ⟨rfl, rfl⟩ ⟨Nat.le_of_ble_eq_true rfl, Nat.le_of_ble_eq_true rfl⟩ rfl rfl (Nat.le_of_ble_eq_true rfl) 0 rfl rfl [0, 3, 1, 2] [4, 5] rfl rfl ⟨rfl, rfl, by decide⟩ ⟨Nat.zero_le _, Nat.zero_le _⟩ [2, 4, 5, 3, 0, 1] rfl rfl ?_
      refine G_i2l X dL_look_105 ?_
      refine G_ladd X dL_look_106 ?_
      refine G_lstore_n X (lv' := [(1, .long ((31 * ((31 * ((31 * s17.1) + (v34).toInt64)) + (v37).toInt64)) + (v40).toInt64)), (0, .ref a0), (3, .int s17.2)]) dL_look_107 (by decide) rfl ?_
      refine G_iconst X (v := 0) dL_look_108 (by decide) ?_
      refine G_istore X (lv' := [(4, .int 0), (1, .long ((31 * ((31 * ((31 * s17.1) + (v34).toInt64)) + (v37).toInt64)) + (v40).toInt64)), (0, .ref a0), (3, .int s17.2)]) dL_look_109 (by decide) rfl ?_
      obtain ⟨j44, h45, h46⟩ := bnd h42
      have J51 : G p l e rmL_look s m args below meth c D A 6 Q 0 0 154 [(0, .ref a0), (1, .long j44), (3, .int s17.2)] [] [(a0, .inr (5, [.ref a0_now, .ref a0_trial, .ref a0_survey, .ref a0_mending, .ref a0_past, .ref a0_text])), (a0_now, .inr (3, [.ref a0_now_numbers])), (a0_now_numbers, .inl (cI, 352, .inl f_a0_now_numbers)), (a0_survey, .inr (4, [.ref a0_now])), (a0_past, .inr (0, [.ref a0_past_states, .int i_a0_past_oldest, .int i_a0_past_many])), (a0_text, .inr (2, [.ref a0_text_signs, .ref a0_text_numbers, .int i_a0_text_length, .int i_a0_text_at, .int i_a0_text_faultPosition, .int i_a0_text_faultReason, .int i_a0_text_faultCause]))] := by
        refine G_iconst X (v := 0) dL_look_154 (by decide) ?_
        refine G_istore X (lv' := [(4, .int 0), (0, .ref a0), (1, .long j44), (3, .int s17.2)]) dL_look_155 (by decide) rfl ?_
        obtain ⟨j54, h55, h56⟩ := bnd h46
        have J61 : G p l e rmL_look s m args below meth c D A 6 Q 0 0 206 [(0, .ref a0), (1, .long j54), (3, .int s17.2)] [] [(a0, .inr (5, [.ref a0_now, .ref a0_trial, .ref a0_survey, .ref a0_mending, .ref a0_past, .ref a0_text])), (a0_now, .inr (3, [.ref a0_now_numbers])), (a0_now_numbers, .inl (cI, 352, .inl f_a0_now_numbers)), (a0_survey, .inr (4, [.ref a0_now])), (a0_past, .inr (0, [.ref a0_past_states, .int i_a0_past_oldest, .int i_a0_past_many])), (a0_text, .inr (2, [.ref a0_text_signs, .ref a0_text_numbers, .int i_a0_text_length, .int i_a0_text_at, .int i_a0_text_faultPosition, .int i_a0_text_faultReason, .int i_a0_text_faultCause]))] := by
          refine G_ldc2 X dL_look_206 flL_look_11 ?_
          refine G_lload_n X dL_look_209 1 rfl ?_
          refine G_lmul X dL_look_210 ?_
          refine G_aload_n X dL_look_211 0 rfl ?_
          refine G_iload_n X dL_look_212 2 rfl ?_
          refine G_iconst X (v := 1) dL_look_213 (by decide) ?_
          obtain ⟨v63, h64, h65⟩ := bnd h56
          refine G1_calli X (As := [.int s17.2, .int 1]) (rest := [.long (31 * j54)]) (wr := [(a0_past, .inr (0, [.ref a0_past_states, .int i_a0_past_oldest, .int i_a0_past_many])), (a0_text, .inr (2, [.ref a0_text_signs, .ref a0_text_numbers, .int i_a0_text_length, .int i_a0_text_at, .int i_a0_text_faultPosition, .int i_a0_text_faultReason, .int i_a0_text_faultCause]))]) (ws' := [(a0, .inr (5, [.ref a0_now, .ref a0_trial, .ref a0_survey, .ref a0_mending, .ref a0_past, .ref a0_text])), (a0_now, .inr (3, [.ref a0_now_numbers])), (a0_now_numbers, .inl (cI, 352, .inl f_a0_now_numbers)), (a0_survey, .inr (4, [.ref a0_now])), (a0_past, .inr (0, [.ref a0_past_states, .int i_a0_past_oldest, .int i_a0_past_many])), (a0_text, .inr (2, [.ref a0_text_signs, .ref a0_text_numbers, .int i_a0_text_length, .int i_a0_text_at, .int i_a0_text_faultPosition, .int i_a0_text_faultReason, .int i_a0_text_faultCause]))]) dL_look_214 pkX5_row gL_look_X5_row (kkX5_row l D cI cR a0 a0_now a0_trial a0_survey a0_mending a0_past a0_text a0_now a0_now_numbers f_a0_now_numbers s17.2 1 v63 h64) ⟨rfl, rfl⟩ ⟨Nat.le_of_ble_eq_true rfl, Nat.le_of_ble_eq_true rfl⟩ rfl rfl (Nat.le_of_ble_eq_true rfl) 0 rfl rfl [0, 3, 1, 2] [4, 5] rfl rfl ⟨rfl, rfl, by decide⟩ ⟨Nat.zero_le _, Nat.zero_le _⟩ [2, 4, 5, 3, 0, 1] rfl rfl ?_
          refine G_iconst X (v := 1) dL_look_217 (by decide) ?_
          obtain ⟨j66, h67, h68⟩ := bnd h65
          have J69 : G p l e rmL_look s m args below meth c D A 6 Q 0 0 231 [(0, .ref a0), (3, .int s17.2)] [.int j66, .long (31 * j54)] [(a0, .inr (5, [.ref a0_now, .ref a0_trial, .ref a0_survey, .ref a0_mending, .ref a0_past, .ref a0_text])), (a0_now, .inr (3, [.ref a0_now_numbers])), (a0_now_numbers, .inl (cI, 352, .inl f_a0_now_numbers)), (a0_survey, .inr (4, [.ref a0_now])), (a0_past, .inr (0, [.ref a0_past_states, .int i_a0_past_oldest, .int i_a0_past_many])), (a0_text, .inr (2, [.ref a0_text_signs, .ref a0_text_numbers, .int i_a0_text_length, .int i_a0_text_at, .int i_a0_text_faultPosition, .int i_a0_text_faultReason, .int i_a0_text_faultCause]))] := by
            refine G_i2l X dL_look_231 ?_
            refine G_ladd X dL_look_232 ?_
            refine G_lstore_n X (lv' := [(1, .long ((31 * j54) + (j66).toInt64)), (0, .ref a0), (3, .int s17.2)]) dL_look_233 (by decide) rfl ?_
            refine G_iinc X (v := (s17.2 + 1)) (lv' := [(3, .int (s17.2 + 1)), (1, .long ((31 * j54) + (j66).toInt64)), (0, .ref a0)]) dL_look_234 2 rfl rfl (by decide) rfl ?_
            refine G_goto X (tgt := 59) dL_look_237 (by decide) ?_
            cases h68
            exact G_lv [2, 1, 0] rfl (h22 _ rfl)
          refine G_icmp_ne X (tgt := 225) dL_look_218 (by decide) (fun h70 => ?_) (fun h70 => ?_)
          · have h71 := ifp h70 h67
            refine G_iconst X (v := 0) dL_look_221 (by decide) ?_
            refine G_goto X (tgt := 231) dL_look_222 (by decide) ?_
            cases h71
            exact G_lv [0, 2] rfl (J69)
          · have h72 := ifn h70 h67
            refine G_aload_n X dL_look_225 0 rfl ?_
            refine G_iload_n X dL_look_226 2 rfl ?_
            refine G_iconst X (v := 1) dL_look_227 (by decide) ?_
            obtain ⟨v73, h74, h75⟩ := bnd h72
            refine G1_calli X (As := [.int s17.2, .int 1]) (rest := [.long (31 * j54)]) (wr := [(a0_past, .inr (0, [.ref a0_past_states, .int i_a0_past_oldest, .int i_a0_past_many])), (a0_text, .inr (2, [.ref a0_text_signs, .ref a0_text_numbers, .int i_a0_text_length, .int i_a0_text_at, .int i_a0_text_faultPosition, .int i_a0_text_faultReason, .int i_a0_text_faultCause]))]) (ws' := [(a0, .inr (5, [.ref a0_now, .ref a0_trial, .ref a0_survey, .ref a0_mending, .ref a0_past, .ref a0_text])), (a0_now, .inr (3, [.ref a0_now_numbers])), (a0_now_numbers, .inl (cI, 352, .inl f_a0_now_numbers)), (a0_survey, .inr (4, [.ref a0_now])), (a0_past, .inr (0, [.ref a0_past_states, .int i_a0_past_oldest, .int i_a0_past_many])), (a0_text, .inr (2, [.ref a0_text_signs, .ref a0_text_numbers, .int i_a0_text_length, .int i_a0_text_at, .int i_a0_text_faultPosition, .int i_a0_text_faultReason, .int i_a0_text_faultCause]))]) dL_look_228 pkX5_would gL_look_X5_would (kkX5_would l D cI cR a0 a0_now a0_trial a0_survey a0_mending a0_past a0_text a0_now a0_now_numbers f_a0_now_numbers s17.2 1 v73 h74) ⟨rfl, rfl⟩ ⟨Nat.le_of_ble_eq_true rfl, Nat.le_of_ble_eq_true rfl⟩ rfl rfl (Nat.le_of_ble_eq_true rfl) 0 rfl rfl [0, 3, 1, 2] [4, 5] rfl rfl ⟨rfl, rfl, by decide⟩ ⟨Nat.zero_le _, Nat.zero_le _⟩ [2, 4, 5, 3, 0, 1] rfl rfl ?_
            cases h75
            exact G_lv [0, 2] rfl (J69)
        refine G_lv [1, 2, 3, 0] rfl ?_
        refine itr_ind (P := fun s53 : (Int64 × Int32) => G p l e rmL_look s m args below meth c D A 6 Q 0 0 157 [(0, .ref a0), (1, .long s53.1), (3, .int s17.2), (4, .int s53.2)] [] [(a0, .inr (5, [.ref a0_now, .ref a0_trial, .ref a0_survey, .ref a0_mending, .ref a0_past, .ref a0_text])), (a0_now, .inr (3, [.ref a0_now_numbers])), (a0_now_numbers, .inl (cI, 352, .inl f_a0_now_numbers)), (a0_survey, .inr (4, [.ref a0_now])), (a0_past, .inr (0, [.ref a0_past_states, .int i_a0_past_oldest, .int i_a0_past_many])), (a0_text, .inr (2, [.ref a0_text_signs, .ref a0_text_numbers, .int i_a0_text_length, .int i_a0_text_at, .int i_a0_text_faultPosition, .int i_a0_text_faultReason, .int i_a0_text_faultCause]))]) (fun s53 o60 h57 h58 h59 => ?_) FU _ h55
        unfold SL_look_157 at h57
        refine G_iload X dL_look_157 3 rfl ?_
        refine G_aload_n X dL_look_159 0 rfl ?_
        refine G_iload_n X dL_look_160 2 rfl ?_
        refine G_iconst X (v := 4) dL_look_161 (by decide) ?_
        obtain ⟨v76, h77, h78⟩ := bnd h57
        refine G1_calli X (As := [.int s17.2, .int 4]) (rest := [.int s53.2]) (wr := [(a0_past, .inr (0, [.ref a0_past_states, .int i_a0_past_oldest, .int i_a0_past_many])), (a0_text, .inr (2, [.ref a0_text_signs, .ref a0_text_numbers, .int i_a0_text_length, .int i_a0_text_at, .int i_a0_text_faultPosition, .int i_a0_text_faultReason, .int i_a0_text_faultCause]))]) (ws' := [(a0, .inr (5, [.ref a0_now, .ref a0_trial, .ref a0_survey, .ref a0_mending, .ref a0_past, .ref a0_text])), (a0_now, .inr (3, [.ref a0_now_numbers])), (a0_now_numbers, .inl (cI, 352, .inl f_a0_now_numbers)), (a0_survey, .inr (4, [.ref a0_now])), (a0_past, .inr (0, [.ref a0_past_states, .int i_a0_past_oldest, .int i_a0_past_many])), (a0_text, .inr (2, [.ref a0_text_signs, .ref a0_text_numbers, .int i_a0_text_length, .int i_a0_text_at, .int i_a0_text_faultPosition, .int i_a0_text_faultReason, .int i_a0_text_faultCause]))]) dL_look_162 pkX5_row gL_look_X5_row (kkX5_row l D cI cR a0 a0_now a0_trial a0_survey a0_mending a0_past a0_text a0_now a0_now_numbers f_a0_now_numbers s17.2 4 v76 h77) ⟨rfl, rfl⟩ ⟨Nat.le_of_ble_eq_true rfl, Nat.le_of_ble_eq_true rfl⟩ rfl rfl (Nat.le_of_ble_eq_true rfl) 0 rfl rfl [0, 3, 1, 2] [4, 5] rfl rfl ⟨rfl, rfl, by decide⟩ ⟨Nat.zero_le _, Nat.zero_le _⟩ [2, 4, 5, 3, 0, 1] rfl rfl ?_
        refine G_icmp_ge X (tgt := 206) dL_look_165 (by decide) (fun h79 => ?_) (fun h79 => ?_)
        · have h80 := ifp h79 h78
          cases h80
          have h81 := h59 _ rfl
          subst h81
          exact G_lv [0, 1, 2] rfl (J61)
        · have h82 := ifn h79 h78
          refine G_iconst X (v := 0) dL_look_168 (by decide) ?_
          refine G_istore X (lv' := [(5, .int 0), (0, .ref a0), (1, .long s53.1), (3, .int s17.2), (4, .int s53.2)]) dL_look_169 (by decide) rfl ?_
          obtain ⟨j84, h85, h86⟩ := bnd h82
          have J91 : G p l e rmL_look s m args below meth c D A 6 Q 0 0 200 [(0, .ref a0), (1, .long j84), (3, .int s17.2), (4, .int s53.2)] [] [(a0, .inr (5, [.ref a0_now, .ref a0_trial, .ref a0_survey, .ref a0_mending, .ref a0_past, .ref a0_text])), (a0_now, .inr (3, [.ref a0_now_numbers])), (a0_now_numbers, .inl (cI, 352, .inl f_a0_now_numbers)), (a0_survey, .inr (4, [.ref a0_now])), (a0_past, .inr (0, [.ref a0_past_states, .int i_a0_past_oldest, .int i_a0_past_many])), (a0_text, .inr (2, [.ref a0_text_signs, .ref a0_text_numbers, .int i_a0_text_length, .int i_a0_text_at, .int i_a0_text_faultPosition, .int i_a0_text_faultReason, .int i_a0_text_faultCause]))] := by
            refine G_iinc X (v := (s53.2 + 1)) (lv' := [(4, .int (s53.2 + 1)), (0, .ref a0), (1, .long j84), (3, .int s17.2)]) dL_look_200 3 rfl rfl (by decide) rfl ?_
            refine G_goto X (tgt := 157) dL_look_203 (by decide) ?_
            cases h86
            exact G_lv [1, 2, 3, 0] rfl (h58 _ rfl)
          refine G_lv [1, 2, 3, 4, 0] rfl ?_
          refine itr_ind (P := fun s83 : (Int64 × Int32) => G p l e rmL_look s m args below meth c D A 6 Q 0 0 171 [(0, .ref a0), (1, .long s83.1), (3, .int s17.2), (4, .int s53.2), (5, .int s83.2)] [] [(a0, .inr (5, [.ref a0_now, .ref a0_trial, .ref a0_survey, .ref a0_mending, .ref a0_past, .ref a0_text])), (a0_now, .inr (3, [.ref a0_now_numbers])), (a0_now_numbers, .inl (cI, 352, .inl f_a0_now_numbers)), (a0_survey, .inr (4, [.ref a0_now])), (a0_past, .inr (0, [.ref a0_past_states, .int i_a0_past_oldest, .int i_a0_past_many])), (a0_text, .inr (2, [.ref a0_text_signs, .ref a0_text_numbers, .int i_a0_text_length, .int i_a0_text_at, .int i_a0_text_faultPosition, .int i_a0_text_faultReason, .int i_a0_text_faultCause]))]) (fun s83 o90 h87 h88 h89 => ?_) FU _ h85
          unfold SL_look_171 at h87
          refine G_iload X dL_look_171 4 rfl ?_
          refine G_iconst X (v := 4) dL_look_173 (by decide) ?_
          refine G_icmp_ge X (tgt := 200) dL_look_174 (by decide) (fun h93 => ?_) (fun h93 => ?_)
          · have h94 := ifp h93 h87
            cases h94
            have h95 := h89 _ rfl
            subst h95
            exact G_lv [0, 1, 2, 3] rfl (J91)
          · have h96 := ifn h93 h87
            refine G_ldc2 X dL_look_177 flL_look_11 ?_
            refine G_lload_n X dL_look_180 1 rfl ?_
            refine G_lmul X dL_look_181 ?_
            refine G_aload_n X dL_look_182 0 rfl ?_
            refine G_iload_n X dL_look_183 2 rfl ?_
            refine G_iload X dL_look_184 3 rfl ?_
            refine G_iload X dL_look_186 4 rfl ?_
            obtain ⟨v97, h98, h99⟩ := bnd h96
            refine G1_calli X (As := [.int s17.2, .int s53.2, .int s83.2]) (rest := [.long (31 * s83.1)]) (wr := [(a0_past, .inr (0, [.ref a0_past_states, .int i_a0_past_oldest, .int i_a0_past_many])), (a0_text, .inr (2, [.ref a0_text_signs, .ref a0_text_numbers, .int i_a0_text_length, .int i_a0_text_at, .int i_a0_text_faultPosition, .int i_a0_text_faultReason, .int i_a0_text_faultCause]))]) (ws' := [(a0, .inr (5, [.ref a0_now, .ref a0_trial, .ref a0_survey, .ref a0_mending, .ref a0_past, .ref a0_text])), (a0_now, .inr (3, [.ref a0_now_numbers])), (a0_now_numbers, .inl (cI, 352, .inl f_a0_now_numbers)), (a0_survey, .inr (4, [.ref a0_now])), (a0_past, .inr (0, [.ref a0_past_states, .int i_a0_past_oldest, .int i_a0_past_many])), (a0_text, .inr (2, [.ref a0_text_signs, .ref a0_text_numbers, .int i_a0_text_length, .int i_a0_text_at, .int i_a0_text_faultPosition, .int i_a0_text_faultReason, .int i_a0_text_faultCause]))]) dL_look_188 pkX5_margin gL_look_X5_margin (kkX5_margin l D cI cR a0 a0_now a0_trial a0_survey a0_mending a0_past a0_text a0_now a0_now_numbers f_a0_now_numbers s17.2 s53.2 s83.2 v97 h98) ⟨rfl, rfl⟩ ⟨Nat.le_of_ble_eq_true rfl, Nat.le_of_ble_eq_true rfl⟩ rfl rfl (Nat.le_of_ble_eq_true rfl) 0 rfl rfl [0, 3, 1, 2] [4, 5] rfl rfl ⟨rfl, rfl, by decide⟩ ⟨Nat.zero_le _, Nat.zero_le _⟩ [2, 4, 5, 3, 0, 1] rfl rfl ?_
            refine G_i2l X dL_look_191 ?_
            refine G_ladd X dL_look_192 ?_
            refine G_lstore_n X (lv' := [(1, .long ((31 * s83.1) + (v97).toInt64)), (0, .ref a0), (3, .int s17.2), (4, .int s53.2), (5, .int s83.2)]) dL_look_193 (by decide) rfl ?_
            refine G_iinc X (v := (s83.2 + 1)) (lv' := [(5, .int (s83.2 + 1)), (1, .long ((31 * s83.1) + (v97).toInt64)), (0, .ref a0), (3, .int s17.2), (4, .int s53.2)]) dL_look_194 4 rfl rfl (by decide) rfl ?_
            refine G_goto X (tgt := 171) dL_look_197 (by decide) ?_
            cases h99
            exact G_lv [2, 1, 3, 4, 0] rfl (h88 _ rfl)
      refine G_lv [2, 1, 3, 0] rfl ?_
      refine itr_ind (P := fun s43 : (Int64 × Int32) => G p l e rmL_look s m args below meth c D A 6 Q 0 0 111 [(0, .ref a0), (1, .long s43.1), (3, .int s17.2), (4, .int s43.2)] [] [(a0, .inr (5, [.ref a0_now, .ref a0_trial, .ref a0_survey, .ref a0_mending, .ref a0_past, .ref a0_text])), (a0_now, .inr (3, [.ref a0_now_numbers])), (a0_now_numbers, .inl (cI, 352, .inl f_a0_now_numbers)), (a0_survey, .inr (4, [.ref a0_now])), (a0_past, .inr (0, [.ref a0_past_states, .int i_a0_past_oldest, .int i_a0_past_many])), (a0_text, .inr (2, [.ref a0_text_signs, .ref a0_text_numbers, .int i_a0_text_length, .int i_a0_text_at, .int i_a0_text_faultPosition, .int i_a0_text_faultReason, .int i_a0_text_faultCause]))]) (fun s43 o50 h47 h48 h49 => ?_) FU _ h45
      unfold SL_look_111 at h47
      refine G_iload X dL_look_111 3 rfl ?_
      refine G_bipush X (v := 8) dL_look_113 (by decide) ?_
      refine G_icmp_ge X (tgt := 154) dL_look_115 (by decide) (fun h100 => ?_) (fun h100 => ?_)
      · have h101 := ifp h100 h47
        cases h101
        have h102 := h49 _ rfl
        subst h102
        exact G_lv [0, 1, 2] rfl (J51)
      · have h103 := ifn h100 h47
        refine G_ldc2 X dL_look_118 flL_look_11 ?_
        refine G_ldc2 X dL_look_121 flL_look_11 ?_
        refine G_lload_n X dL_look_124 1 rfl ?_
        refine G_lmul X dL_look_125 ?_
        refine G_aload_n X dL_look_126 0 rfl ?_
        refine G_iload_n X dL_look_127 2 rfl ?_
        refine G_iload X dL_look_128 3 rfl ?_
        refine G_iconst X (v := 0) dL_look_130 (by decide) ?_
        obtain ⟨v104, h105, h106⟩ := bnd h103
        refine G1_calli X (As := [.int s17.2, .int s43.2, .int 0]) (rest := [.long (31 * s43.1), .long 31]) (wr := [(a0_past, .inr (0, [.ref a0_past_states, .int i_a0_past_oldest, .int i_a0_past_many])), (a0_text, .inr (2, [.ref a0_text_signs, .ref a0_text_numbers, .int i_a0_text_length, .int i_a0_text_at, .int i_a0_text_faultPosition, .int i_a0_text_faultReason, .int i_a0_text_faultCause]))]) (ws' := [(a0, .inr (5, [.ref a0_now, .ref a0_trial, .ref a0_survey, .ref a0_mending, .ref a0_past, .ref a0_text])), (a0_now, .inr (3, [.ref a0_now_numbers])), (a0_now_numbers, .inl (cI, 352, .inl f_a0_now_numbers)), (a0_survey, .inr (4, [.ref a0_now])), (a0_past, .inr (0, [.ref a0_past_states, .int i_a0_past_oldest, .int i_a0_past_many])), (a0_text, .inr (2, [.ref a0_text_signs, .ref a0_text_numbers, .int i_a0_text_length, .int i_a0_text_at, .int i_a0_text_faultPosition, .int i_a0_text_faultReason, .int i_a0_text_faultCause]))]) dL_look_131 pkX5_cell gL_look_X5_cell (kkX5_cell l D cI cR a0 a0_now a0_trial a0_survey a0_mending a0_past a0_text a0_now a0_now_numbers f_a0_now_numbers s17.2 s43.2 0 v104 h105) ⟨rfl, rfl⟩ ⟨Nat.le_of_ble_eq_true rfl, Nat.le_of_ble_eq_true rfl⟩ rfl rfl (Nat.le_of_ble_eq_true rfl) 0 rfl rfl [0, 3, 1, 2] [4, 5] rfl rfl ⟨rfl, rfl, by decide⟩ ⟨Nat.zero_le _, Nat.zero_le _⟩ [2, 4, 5, 3, 0, 1] rfl rfl ?_
        refine G_i2l X dL_look_134 ?_
        refine G_ladd X dL_look_135 ?_
        refine G_lmul X dL_look_136 ?_
        refine G_aload_n X dL_look_137 0 rfl ?_
        refine G_iload_n X dL_look_138 2 rfl ?_
        refine G_iload X dL_look_139 3 rfl ?_
        refine G_iconst X (v := 1) dL_look_141 (by decide) ?_
        obtain ⟨v107, h108, h109⟩ := bnd h106
        refine G1_calli X (As := [.int s17.2, .int s43.2, .int 1]) (rest := [.long (31 * ((31 * s43.1) + (v104).toInt64))]) (wr := [(a0_past, .inr (0, [.ref a0_past_states, .int i_a0_past_oldest, .int i_a0_past_many])), (a0_text, .inr (2, [.ref a0_text_signs, .ref a0_text_numbers, .int i_a0_text_length, .int i_a0_text_at, .int i_a0_text_faultPosition, .int i_a0_text_faultReason, .int i_a0_text_faultCause]))]) (ws' := [(a0, .inr (5, [.ref a0_now, .ref a0_trial, .ref a0_survey, .ref a0_mending, .ref a0_past, .ref a0_text])), (a0_now, .inr (3, [.ref a0_now_numbers])), (a0_now_numbers, .inl (cI, 352, .inl f_a0_now_numbers)), (a0_survey, .inr (4, [.ref a0_now])), (a0_past, .inr (0, [.ref a0_past_states, .int i_a0_past_oldest, .int i_a0_past_many])), (a0_text, .inr (2, [.ref a0_text_signs, .ref a0_text_numbers, .int i_a0_text_length, .int i_a0_text_at, .int i_a0_text_faultPosition, .int i_a0_text_faultReason, .int i_a0_text_faultCause]))]) dL_look_142 pkX5_cell gL_look_X5_cell (kkX5_cell l D cI cR a0 a0_now a0_trial a0_survey a0_mending a0_past a0_text a0_now a0_now_numbers f_a0_now_numbers s17.2 s43.2 1 v107 h108) ⟨rfl, rfl⟩ ⟨Nat.le_of_ble_eq_true rfl, Nat.le_of_ble_eq_true rfl⟩ rfl rfl (Nat.le_of_ble_eq_true rfl) 0 rfl rfl [0, 3, 1, 2] [4, 5] rfl rfl ⟨rfl, rfl, by decide⟩ ⟨Nat.zero_le _, Nat.zero_le _⟩ [2, 4, 5, 3, 0, 1] rfl rfl ?_
        refine G_i2l X dL_look_145 ?_
        refine G_ladd X dL_look_146 ?_
        refine G_lstore_n X (lv' := [(1, .long ((31 * ((31 * s43.1) + (v104).toInt64)) + (v107).toInt64)), (0, .ref a0), (3, .int s17.2), (4, .int s43.2)]) dL_look_147 (by decide) rfl ?_
        refine G_iinc X (v := (s43.2 + 1)) (lv' := [(4, .int (s43.2 + 1)), (1, .long ((31 * ((31 * s43.1) + (v104).toInt64)) + (v107).toInt64)), (0, .ref a0), (3, .int s17.2)]) dL_look_148 3 rfl rfl (by decide) rfl ?_
        refine G_goto X (tgt := 111) dL_look_151 (by decide) ?_
        cases h109
        exact G_lv [2, 1, 3, 0] rfl (h48 _ rfl)
  refine G_lv [2, 1, 0] rfl ?_
  refine itr_ind (P := fun s1 : (Int64 × Int32) => G p l e rmL_look s m args below meth c D A 6 Q 0 0 6 [(0, .ref a0), (1, .long s1.1), (3, .int s1.2)] [] [(a0, .inr (5, [.ref a0_now, .ref a0_trial, .ref a0_survey, .ref a0_mending, .ref a0_past, .ref a0_text])), (a0_now, .inr (3, [.ref a0_now_numbers])), (a0_now_numbers, .inl (cI, 352, .inl f_a0_now_numbers)), (a0_survey, .inr (4, [.ref a0_now])), (a0_past, .inr (0, [.ref a0_past_states, .int i_a0_past_oldest, .int i_a0_past_many])), (a0_text, .inr (2, [.ref a0_text_signs, .ref a0_text_numbers, .int i_a0_text_length, .int i_a0_text_at, .int i_a0_text_faultPosition, .int i_a0_text_faultReason, .int i_a0_text_faultCause]))]) (fun s1 o8 h5 h6 h7 => ?_) FU _ h3
  unfold SL_look_6 at h5
  refine G_iload_n X dL_look_6 2 rfl ?_
  refine G_bipush X (v := 14) dL_look_7 (by decide) ?_
  refine G_icmp_ge X (tgt := 31) dL_look_9 (by decide) (fun h110 => ?_) (fun h110 => ?_)
  · have h111 := ifp h110 h5
    cases h111
    have h112 := h7 _ rfl
    subst h112
    exact G_lv [0, 1] rfl (J9)
  · have h113 := ifn h110 h5
    refine G_ldc2 X dL_look_12 flL_look_11 ?_
    refine G_lload_n X dL_look_15 1 rfl ?_
    refine G_lmul X dL_look_16 ?_
    refine G_aload_n X dL_look_17 0 rfl ?_
    refine G_iload_n X dL_look_18 2 rfl ?_
    obtain ⟨v114, h115, h116⟩ := bnd h113
    refine G1_calli X (As := [.int s1.2]) (rest := [.long (31 * s1.1)]) (wr := []) (ws' := [(a0, .inr (5, [.ref a0_now, .ref a0_trial, .ref a0_survey, .ref a0_mending, .ref a0_past, .ref a0_text])), (a0_now, .inr (3, [.ref a0_now_numbers])), (a0_now_numbers, .inl (cI, 352, .inl f_a0_now_numbers)), (a0_survey, .inr (4, [.ref a0_now])), (a0_past, .inr (0, [.ref a0_past_states, .int i_a0_past_oldest, .int i_a0_past_many])), (a0_text, .inr (2, [.ref a0_text_signs, .ref a0_text_numbers, .int i_a0_text_length, .int i_a0_text_at, .int i_a0_text_faultPosition, .int i_a0_text_faultReason, .int i_a0_text_faultCause]))]) dL_look_19 pkX5_count gL_look_X5_count (kkX5_count l D cI cR a0 a0_now a0_trial a0_survey a0_mending a0_past a0_text a0_now a0_now_numbers a0_past_states a0_text_signs a0_text_numbers f_a0_now_numbers i_a0_past_oldest i_a0_past_many i_a0_text_length i_a0_text_at i_a0_text_faultPosition i_a0_text_faultReason i_a0_text_faultCause s1.2 v114 h115) ⟨rfl, rfl⟩ ⟨Nat.le_of_ble_eq_true rfl, Nat.le_of_ble_eq_true rfl⟩ rfl rfl (Nat.le_of_ble_eq_true rfl) 0 rfl rfl [0, 3, 1, 2, 4, 5] [] rfl rfl ⟨rfl, rfl, by decide⟩ ⟨Nat.zero_le _, Nat.zero_le _⟩ [0, 2, 3, 1, 4, 5] rfl rfl ?_
    refine G_i2l X dL_look_22 ?_
    refine G_ladd X dL_look_23 ?_
    refine G_lstore_n X (lv' := [(1, .long ((31 * s1.1) + (v114).toInt64)), (0, .ref a0), (3, .int s1.2)]) dL_look_24 (by decide) rfl ?_
    refine G_iinc X (v := (s1.2 + 1)) (lv' := [(3, .int (s1.2 + 1)), (1, .long ((31 * s1.1) + (v114).toInt64)), (0, .ref a0)]) dL_look_25 2 rfl rfl (by decide) rfl ?_
    refine G_goto X (tgt := 6) dL_look_28 (by decide) ?_
    cases h116
    exact G_lv [2, 1, 0] rfl (h6 _ rfl)
def rmL_number : Room := { frames := 2, cells := 0, slots := 0, locals := 42 }
theorem pkL_number : cK yL_number wsL_number cL_number 2 (some .boolean) 2 RL := ⟨⟨_, rfl⟩, by decide +kernel⟩
set_option maxHeartbeats 4000000 in
set_option maxRecDepth 100000 in
theorem kkL_number (l : Launch) (D : va_G) (cI cR : ClassId) (a0 a0_now a0_trial a0_survey a0_mending a0_past a0_text a0_text_signs a0_text_numbers : Nat) (i_a0_text_length : Int32) (i_a0_text_at : Int32) (i_a0_text_faultPosition : Int32) (i_a0_text_faultReason : Int32) (i_a0_text_faultCause : Int32) (f_a0_text_signs : Nat → Int32) (x1 : Int32) (z : (Int32 × Int32 × (Nat → Int32))) (hz : ML_number i_a0_text_length f_a0_text_signs x1 = some z) : cI1 l yL_number wsL_number rmL_number D cI cR [.ref a0, .int x1] [(a0, .inr (5, [.ref a0_now, .ref a0_trial, .ref a0_survey, .ref a0_mending, .ref a0_past, .ref a0_text])), (a0_text, .inr (2, [.ref a0_text_signs, .ref a0_text_numbers, .int i_a0_text_length, .int i_a0_text_at, .int i_a0_text_faultPosition, .int i_a0_text_faultReason, .int i_a0_text_faultCause])), (a0_text_signs, .inl (cI, 60, .inl f_a0_text_signs))] z.1 [(a0, .inr (5, [.ref a0_now, .ref a0_trial, .ref a0_survey, .ref a0_mending, .ref a0_past, .ref a0_text])), (a0_text, .inr (2, [.ref a0_text_signs, .ref a0_text_numbers, .int z.2.1, .int i_a0_text_at, .int i_a0_text_faultPosition, .int i_a0_text_faultReason, .int i_a0_text_faultCause])), (a0_text_signs, .inl (cI, 60, .inl z.2.2))] := by
  unfold ML_number at hz
  refine kZ_of (cc := cL_number) (maxL := 2) (own := RL) (by decide +kernel) rfl rfl (Nat.le_of_ble_eq_true rfl) (lv0 := [(0, .ref a0), (1, .int x1)]) rfl (fun p e s m args below meth c A Q X rt => ?_)
  refine G_iload_n X dL_number_0 1 rfl ?_
  refine G_bipush X (v := 100) dL_number_1 (by decide) ?_
  refine G_icmp_lt X (tgt := 20) dL_number_3 (by decide) (fun h1 => ?_) (fun h1 => ?_)
  · have h2 := ifp h1 hz
    refine G_iload_n X dL_number_20 1 rfl ?_
    refine G_bipush X (v := 10) dL_number_21 (by decide) ?_
    refine G_icmp_lt X (tgt := 43) dL_number_23 (by decide) (fun h3 => ?_) (fun h3 => ?_)
    · have h4 := ifp h3 h2
      refine G_aload_n X dL_number_43 0 rfl ?_
      refine G_bipush X (v := 48) dL_number_44 (by decide) ?_
      refine G_iload_n X dL_number_46 1 rfl ?_
      refine G_bipush X (v := 10) dL_number_47 (by decide) ?_
      refine G_irem X dL_number_49 (by decide) ?_
      refine G_iadd X dL_number_50 ?_
      obtain ⟨v5, h6, h7⟩ := bnd h4
      refine G1_calli X (As := [.int (48 + (x1 - x1 / 10 * 10))]) (rest := []) (wr := []) (ws' := [(a0, .inr (5, [.ref a0_now, .ref a0_trial, .ref a0_survey, .ref a0_mending, .ref a0_past, .ref a0_text])), (a0_text, .inr (2, [.ref a0_text_signs, .ref a0_text_numbers, .int v5.2.1, .int i_a0_text_at, .int i_a0_text_faultPosition, .int i_a0_text_faultReason, .int i_a0_text_faultCause])), (a0_text_signs, .inl (cI, 60, .inl v5.2.2))]) dL_number_51 pkX5_type gL_number_X5_type (kkX5_type l D cI cR a0 a0_now a0_trial a0_survey a0_mending a0_past a0_text a0_text_signs a0_text_numbers i_a0_text_length i_a0_text_at i_a0_text_faultPosition i_a0_text_faultReason i_a0_text_faultCause f_a0_text_signs (48 + (x1 - x1 / 10 * 10)) v5 h6) ⟨rfl, rfl⟩ ⟨Nat.le_of_ble_eq_true rfl, Nat.le_of_ble_eq_true rfl⟩ rfl rfl (Nat.le_of_ble_eq_true rfl) 0 rfl rfl [0, 1, 2] [] rfl rfl ⟨rfl, rfl, by decide⟩ ⟨Nat.zero_le _, Nat.zero_le _⟩ [0, 1, 2] rfl rfl ?_
      refine G_if_le X (tgt := 61) dL_number_54 (by decide) (fun h8 => ?_) (fun h8 => ?_)
      · have h9 := ifp h8 h7
        refine G_iconst X (v := 0) dL_number_61 (by decide) ?_
        cases h9
        exact rt _ _ _ _ dL_number_62 rfl ⟨rfl, rfl⟩
      · have h10 := ifn h8 h7
        refine G_iconst X (v := 1) dL_number_57 (by decide) ?_
        refine G_goto X (tgt := 62) dL_number_58 (by decide) ?_
        cases h10
        exact rt _ _ _ _ dL_number_62 rfl ⟨rfl, rfl⟩
    · have h11 := ifn h3 h2
      refine G_aload_n X dL_number_26 0 rfl ?_
      refine G_bipush X (v := 48) dL_number_27 (by decide) ?_
      refine G_iload_n X dL_number_29 1 rfl ?_
      refine G_bipush X (v := 10) dL_number_30 (by decide) ?_
      refine G_idiv X dL_number_32 (by decide) ?_
      refine G_bipush X (v := 10) dL_number_33 (by decide) ?_
      refine G_irem X dL_number_35 (by decide) ?_
      refine G_iadd X dL_number_36 ?_
      obtain ⟨v12, h13, h14⟩ := bnd h11
      refine G1_calli X (As := [.int (48 + ((x1 / 10) - (x1 / 10) / 10 * 10))]) (rest := []) (wr := []) (ws' := [(a0, .inr (5, [.ref a0_now, .ref a0_trial, .ref a0_survey, .ref a0_mending, .ref a0_past, .ref a0_text])), (a0_text, .inr (2, [.ref a0_text_signs, .ref a0_text_numbers, .int v12.2.1, .int i_a0_text_at, .int i_a0_text_faultPosition, .int i_a0_text_faultReason, .int i_a0_text_faultCause])), (a0_text_signs, .inl (cI, 60, .inl v12.2.2))]) dL_number_37 pkX5_type gL_number_X5_type (kkX5_type l D cI cR a0 a0_now a0_trial a0_survey a0_mending a0_past a0_text a0_text_signs a0_text_numbers i_a0_text_length i_a0_text_at i_a0_text_faultPosition i_a0_text_faultReason i_a0_text_faultCause f_a0_text_signs (48 + ((x1 / 10) - (x1 / 10) / 10 * 10)) v12 h13) ⟨rfl, rfl⟩ ⟨Nat.le_of_ble_eq_true rfl, Nat.le_of_ble_eq_true rfl⟩ rfl rfl (Nat.le_of_ble_eq_true rfl) 0 rfl rfl [0, 1, 2] [] rfl rfl ⟨rfl, rfl, by decide⟩ ⟨Nat.zero_le _, Nat.zero_le _⟩ [0, 1, 2] rfl rfl ?_
      refine G_if_le X (tgt := 61) dL_number_40 (by decide) (fun h15 => ?_) (fun h15 => ?_)
      · have h16 := ifp h15 h14
        refine G_iconst X (v := 0) dL_number_61 (by decide) ?_
        cases h16
        exact rt _ _ _ _ dL_number_62 rfl ⟨rfl, rfl⟩
      · have h17 := ifn h15 h14
        refine G_aload_n X dL_number_43 0 rfl ?_
        refine G_bipush X (v := 48) dL_number_44 (by decide) ?_
        refine G_iload_n X dL_number_46 1 rfl ?_
        refine G_bipush X (v := 10) dL_number_47 (by decide) ?_
        refine G_irem X dL_number_49 (by decide) ?_
        refine G_iadd X dL_number_50 ?_
        obtain ⟨v18, h19, h20⟩ := bnd h17
        refine G1_calli X (As := [.int (48 + (x1 - x1 / 10 * 10))]) (rest := []) (wr := []) (ws' := [(a0, .inr (5, [.ref a0_now, .ref a0_trial, .ref a0_survey, .ref a0_mending, .ref a0_past, .ref a0_text])), (a0_text, .inr (2, [.ref a0_text_signs, .ref a0_text_numbers, .int v18.2.1, .int i_a0_text_at, .int i_a0_text_faultPosition, .int i_a0_text_faultReason, .int i_a0_text_faultCause])), (a0_text_signs, .inl (cI, 60, .inl v18.2.2))]) dL_number_51 pkX5_type gL_number_X5_type (kkX5_type l D cI cR a0 a0_now a0_trial a0_survey a0_mending a0_past a0_text a0_text_signs a0_text_numbers v12.2.1 i_a0_text_at i_a0_text_faultPosition i_a0_text_faultReason i_a0_text_faultCause v12.2.2 (48 + (x1 - x1 / 10 * 10)) v18 h19) ⟨rfl, rfl⟩ ⟨Nat.le_of_ble_eq_true rfl, Nat.le_of_ble_eq_true rfl⟩ rfl rfl (Nat.le_of_ble_eq_true rfl) 0 rfl rfl [0, 1, 2] [] rfl rfl ⟨rfl, rfl, by decide⟩ ⟨Nat.zero_le _, Nat.zero_le _⟩ [0, 1, 2] rfl rfl ?_
        refine G_if_le X (tgt := 61) dL_number_54 (by decide) (fun h21 => ?_) (fun h21 => ?_)
        · have h22 := ifp h21 h20
          refine G_iconst X (v := 0) dL_number_61 (by decide) ?_
          cases h22
          exact rt _ _ _ _ dL_number_62 rfl ⟨rfl, rfl⟩
        · have h23 := ifn h21 h20
          refine G_iconst X (v := 1) dL_number_57 (by decide) ?_
          refine G_goto X (tgt := 62) dL_number_58 (by decide) ?_
          cases h23
          exact rt _ _ _ _ dL_number_62 rfl ⟨rfl, rfl⟩
  · have h24 := ifn h1 hz
    refine G_aload_n X dL_number_6 0 rfl ?_
    refine G_bipush X (v := 48) dL_number_7 (by decide) ?_
    refine G_iload_n X dL_number_9 1 rfl ?_
    refine G_bipush X (v := 100) dL_number_10 (by decide) ?_
    refine G_idiv X dL_number_12 (by decide) ?_
    refine G_iadd X dL_number_13 ?_
    obtain ⟨v25, h26, h27⟩ := bnd h24
    refine G1_calli X (As := [.int (48 + (x1 / 100))]) (rest := []) (wr := []) (ws' := [(a0, .inr (5, [.ref a0_now, .ref a0_trial, .ref a0_survey, .ref a0_mending, .ref a0_past, .ref a0_text])), (a0_text, .inr (2, [.ref a0_text_signs, .ref a0_text_numbers, .int v25.2.1, .int i_a0_text_at, .int i_a0_text_faultPosition, .int i_a0_text_faultReason, .int i_a0_text_faultCause])), (a0_text_signs, .inl (cI, 60, .inl v25.2.2))]) dL_number_14 pkX5_type gL_number_X5_type (kkX5_type l D cI cR a0 a0_now a0_trial a0_survey a0_mending a0_past a0_text a0_text_signs a0_text_numbers i_a0_text_length i_a0_text_at i_a0_text_faultPosition i_a0_text_faultReason i_a0_text_faultCause f_a0_text_signs (48 + (x1 / 100)) v25 h26) ⟨rfl, rfl⟩ ⟨Nat.le_of_ble_eq_true rfl, Nat.le_of_ble_eq_true rfl⟩ rfl rfl (Nat.le_of_ble_eq_true rfl) 0 rfl rfl [0, 1, 2] [] rfl rfl ⟨rfl, rfl, by decide⟩ ⟨Nat.zero_le _, Nat.zero_le _⟩ [0, 1, 2] rfl rfl ?_
    refine G_if_le X (tgt := 61) dL_number_17 (by decide) (fun h28 => ?_) (fun h28 => ?_)
    · have h29 := ifp h28 h27
      refine G_iconst X (v := 0) dL_number_61 (by decide) ?_
      cases h29
      exact rt _ _ _ _ dL_number_62 rfl ⟨rfl, rfl⟩
    · have h30 := ifn h28 h27
      refine G_iload_n X dL_number_20 1 rfl ?_
      refine G_bipush X (v := 10) dL_number_21 (by decide) ?_
      refine G_icmp_lt X (tgt := 43) dL_number_23 (by decide) (fun h31 => ?_) (fun h31 => ?_)
      · have h32 := ifp h31 h30
        refine G_aload_n X dL_number_43 0 rfl ?_
        refine G_bipush X (v := 48) dL_number_44 (by decide) ?_
        refine G_iload_n X dL_number_46 1 rfl ?_
        refine G_bipush X (v := 10) dL_number_47 (by decide) ?_
        refine G_irem X dL_number_49 (by decide) ?_
        refine G_iadd X dL_number_50 ?_
        obtain ⟨v33, h34, h35⟩ := bnd h32
        refine G1_calli X (As := [.int (48 + (x1 - x1 / 10 * 10))]) (rest := []) (wr := []) (ws' := [(a0, .inr (5, [.ref a0_now, .ref a0_trial, .ref a0_survey, .ref a0_mending, .ref a0_past, .ref a0_text])), (a0_text, .inr (2, [.ref a0_text_signs, .ref a0_text_numbers, .int v33.2.1, .int i_a0_text_at, .int i_a0_text_faultPosition, .int i_a0_text_faultReason, .int i_a0_text_faultCause])), (a0_text_signs, .inl (cI, 60, .inl v33.2.2))]) dL_number_51 pkX5_type gL_number_X5_type (kkX5_type l D cI cR a0 a0_now a0_trial a0_survey a0_mending a0_past a0_text a0_text_signs a0_text_numbers v25.2.1 i_a0_text_at i_a0_text_faultPosition i_a0_text_faultReason i_a0_text_faultCause v25.2.2 (48 + (x1 - x1 / 10 * 10)) v33 h34) ⟨rfl, rfl⟩ ⟨Nat.le_of_ble_eq_true rfl, Nat.le_of_ble_eq_true rfl⟩ rfl rfl (Nat.le_of_ble_eq_true rfl) 0 rfl rfl [0, 1, 2] [] rfl rfl ⟨rfl, rfl, by decide⟩ ⟨Nat.zero_le _, Nat.zero_le _⟩ [0, 1, 2] rfl rfl ?_
        refine G_if_le X (tgt := 61) dL_number_54 (by decide) (fun h36 => ?_) (fun h36 => ?_)
        · have h37 := ifp h36 h35
          refine G_iconst X (v := 0) dL_number_61 (by decide) ?_
          cases h37
          exact rt _ _ _ _ dL_number_62 rfl ⟨rfl, rfl⟩
        · have h38 := ifn h36 h35
          refine G_iconst X (v := 1) dL_number_57 (by decide) ?_
          refine G_goto X (tgt := 62) dL_number_58 (by decide) ?_
          cases h38
          exact rt _ _ _ _ dL_number_62 rfl ⟨rfl, rfl⟩
      · have h39 := ifn h31 h30
        refine G_aload_n X dL_number_26 0 rfl ?_
        refine G_bipush X (v := 48) dL_number_27 (by decide) ?_
        refine G_iload_n X dL_number_29 1 rfl ?_
        refine G_bipush X (v := 10) dL_number_30 (by decide) ?_
        refine G_idiv X dL_number_32 (by decide) ?_
        refine G_bipush X (v := 10) dL_number_33 (by decide) ?_
        refine G_irem X dL_number_35 (by decide) ?_
        refine G_iadd X dL_number_36 ?_
        obtain ⟨v40, h41, h42⟩ := bnd h39
        refine G1_calli X (As := [.int (48 + ((x1 / 10) - (x1 / 10) / 10 * 10))]) (rest := []) (wr := []) (ws' := [(a0, .inr (5, [.ref a0_now, .ref a0_trial, .ref a0_survey, .ref a0_mending, .ref a0_past, .ref a0_text])), (a0_text, .inr (2, [.ref a0_text_signs, .ref a0_text_numbers, .int v40.2.1, .int i_a0_text_at, .int i_a0_text_faultPosition, .int i_a0_text_faultReason, .int i_a0_text_faultCause])), (a0_text_signs, .inl (cI, 60, .inl v40.2.2))]) dL_number_37 pkX5_type gL_number_X5_type (kkX5_type l D cI cR a0 a0_now a0_trial a0_survey a0_mending a0_past a0_text a0_text_signs a0_text_numbers v25.2.1 i_a0_text_at i_a0_text_faultPosition i_a0_text_faultReason i_a0_text_faultCause v25.2.2 (48 + ((x1 / 10) - (x1 / 10) / 10 * 10)) v40 h41) ⟨rfl, rfl⟩ ⟨Nat.le_of_ble_eq_true rfl, Nat.le_of_ble_eq_true rfl⟩ rfl rfl (Nat.le_of_ble_eq_true rfl) 0 rfl rfl [0, 1, 2] [] rfl rfl ⟨rfl, rfl, by decide⟩ ⟨Nat.zero_le _, Nat.zero_le _⟩ [0, 1, 2] rfl rfl ?_
        refine G_if_le X (tgt := 61) dL_number_40 (by decide) (fun h43 => ?_) (fun h43 => ?_)
        · have h44 := ifp h43 h42
          refine G_iconst X (v := 0) dL_number_61 (by decide) ?_
          cases h44
          exact rt _ _ _ _ dL_number_62 rfl ⟨rfl, rfl⟩
        · have h45 := ifn h43 h42
          refine G_aload_n X dL_number_43 0 rfl ?_
          refine G_bipush X (v := 48) dL_number_44 (by decide) ?_
          refine G_iload_n X dL_number_46 1 rfl ?_
          refine G_bipush X (v := 10) dL_number_47 (by decide) ?_
          refine G_irem X dL_number_49 (by decide) ?_
          refine G_iadd X dL_number_50 ?_
          obtain ⟨v46, h47, h48⟩ := bnd h45
          refine G1_calli X (As := [.int (48 + (x1 - x1 / 10 * 10))]) (rest := []) (wr := []) (ws' := [(a0, .inr (5, [.ref a0_now, .ref a0_trial, .ref a0_survey, .ref a0_mending, .ref a0_past, .ref a0_text])), (a0_text, .inr (2, [.ref a0_text_signs, .ref a0_text_numbers, .int v46.2.1, .int i_a0_text_at, .int i_a0_text_faultPosition, .int i_a0_text_faultReason, .int i_a0_text_faultCause])), (a0_text_signs, .inl (cI, 60, .inl v46.2.2))]) dL_number_51 pkX5_type gL_number_X5_type (kkX5_type l D cI cR a0 a0_now a0_trial a0_survey a0_mending a0_past a0_text a0_text_signs a0_text_numbers v40.2.1 i_a0_text_at i_a0_text_faultPosition i_a0_text_faultReason i_a0_text_faultCause v40.2.2 (48 + (x1 - x1 / 10 * 10)) v46 h47) ⟨rfl, rfl⟩ ⟨Nat.le_of_ble_eq_true rfl, Nat.le_of_ble_eq_true rfl⟩ rfl rfl (Nat.le_of_ble_eq_true rfl) 0 rfl rfl [0, 1, 2] [] rfl rfl ⟨rfl, rfl, by decide⟩ ⟨Nat.zero_le _, Nat.zero_le _⟩ [0, 1, 2] rfl rfl ?_
          refine G_if_le X (tgt := 61) dL_number_54 (by decide) (fun h49 => ?_) (fun h49 => ?_)
          · have h50 := ifp h49 h48
            refine G_iconst X (v := 0) dL_number_61 (by decide) ?_
            cases h50
            exact rt _ _ _ _ dL_number_62 rfl ⟨rfl, rfl⟩
          · have h51 := ifn h49 h48
            refine G_iconst X (v := 1) dL_number_57 (by decide) ?_
            refine G_goto X (tgt := 62) dL_number_58 (by decide) ?_
            cases h51
            exact rt _ _ _ _ dL_number_62 rfl ⟨rfl, rfl⟩
