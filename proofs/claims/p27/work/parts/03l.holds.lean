def rmL_holds : Room := { frames := 7, cells := 0, slots := 0, locals := 160 }
theorem pkL_holds : cK yL_holds wsL_holds cL_holds 12 (some .boolean) 1 RL := ⟨⟨_, rfl⟩, by decide +kernel⟩
theorem flL_holds_38 : Cond.constant RL 38 (-1000004) ∈ wsL_holds := by decide +kernel
set_option maxHeartbeats 4000000 in
set_option maxRecDepth 100000 in
theorem kkL_holds (l : Launch) (D : va_G) (cI cR : ClassId) (a0 a0_now a0_trial a0_survey a0_mending a0_past a0_text a0_now_numbers a0_past_states a0_text_signs a0_text_numbers : Nat) (f_a0_now_numbers : Nat → Int32) (i_a0_past_oldest : Int32) (i_a0_past_many : Int32) (i_a0_text_length : Int32) (i_a0_text_at : Int32) (i_a0_text_faultPosition : Int32) (i_a0_text_faultReason : Int32) (i_a0_text_faultCause : Int32) (z : Int32) (hz : ML_holds f_a0_now_numbers i_a0_past_many i_a0_text_length = some z) : cI1 l yL_holds wsL_holds rmL_holds D cI cR [.ref a0] [(a0, .inr (5, [.ref a0_now, .ref a0_trial, .ref a0_survey, .ref a0_mending, .ref a0_past, .ref a0_text])), (a0_now, .inr (3, [.ref a0_now_numbers])), (a0_now_numbers, .inl (cI, 352, .inl f_a0_now_numbers)), (a0_survey, .inr (4, [.ref a0_now])), (a0_past, .inr (0, [.ref a0_past_states, .int i_a0_past_oldest, .int i_a0_past_many])), (a0_text, .inr (2, [.ref a0_text_signs, .ref a0_text_numbers, .int i_a0_text_length, .int i_a0_text_at, .int i_a0_text_faultPosition, .int i_a0_text_faultReason, .int i_a0_text_faultCause]))] z [(a0, .inr (5, [.ref a0_now, .ref a0_trial, .ref a0_survey, .ref a0_mending, .ref a0_past, .ref a0_text])), (a0_now, .inr (3, [.ref a0_now_numbers])), (a0_now_numbers, .inl (cI, 352, .inl f_a0_now_numbers)), (a0_survey, .inr (4, [.ref a0_now])), (a0_past, .inr (0, [.ref a0_past_states, .int i_a0_past_oldest, .int i_a0_past_many])), (a0_text, .inr (2, [.ref a0_text_signs, .ref a0_text_numbers, .int i_a0_text_length, .int i_a0_text_at, .int i_a0_text_faultPosition, .int i_a0_text_faultReason, .int i_a0_text_faultCause]))] := by
  unfold ML_holds at hz
  refine kZ_of (cc := cL_holds) (maxL := 12) (own := RL) (by decide +kernel) rfl rfl (Nat.le_of_ble_eq_true rfl) (lv0 := [(0, .ref a0)]) rfl (fun p e s m args below meth c A Q X rt => ?_)
  refine G_iconst X (v := 0) dL_holds_0 (by decide) ?_
  refine G_istore_n X (lv' := [(1, .int 0), (0, .ref a0)]) dL_holds_1 (by decide) rfl ?_
  refine G_iconst X (v := 0) dL_holds_2 (by decide) ?_
  refine G_istore_n X (lv' := [(2, .int 0), (1, .int 0), (0, .ref a0)]) dL_holds_3 (by decide) rfl ?_
  refine G_iconst X (v := 0) dL_holds_4 (by decide) ?_
  refine G_istore_n X (lv' := [(3, .int 0), (2, .int 0), (1, .int 0), (0, .ref a0)]) dL_holds_5 (by decide) rfl ?_
  refine G_aload_n X dL_holds_6 3 rfl ?_
  refine G_iconst X (v := 0) dL_holds_7 (by decide) ?_
  obtain ⟨v1, h2, h3⟩ := bnd hz
  refine G1_calli X (As := [.int 0]) (rest := []) (wr := []) (ws' := [(a0, .inr (5, [.ref a0_now, .ref a0_trial, .ref a0_survey, .ref a0_mending, .ref a0_past, .ref a0_text])), (a0_now, .inr (3, [.ref a0_now_numbers])), (a0_now_numbers, .inl (cI, 352, .inl f_a0_now_numbers)), (a0_survey, .inr (4, [.ref a0_now])), (a0_past, .inr (0, [.ref a0_past_states, .int i_a0_past_oldest, .int i_a0_past_many])), (a0_text, .inr (2, [.ref a0_text_signs, .ref a0_text_numbers, .int i_a0_text_length, .int i_a0_text_at, .int i_a0_text_faultPosition, .int i_a0_text_faultReason, .int i_a0_text_faultCause]))]) dL_holds_8 pkX5_count gL_holds_X5_count (kkX5_count l D cI cR a0 a0_now a0_trial a0_survey a0_mending a0_past a0_text a0_now a0_now_numbers a0_past_states a0_text_signs a0_text_numbers f_a0_now_numbers i_a0_past_oldest i_a0_past_many i_a0_text_length i_a0_text_at i_a0_text_faultPosition i_a0_text_faultReason i_a0_text_faultCause 0 v1 h2) ⟨rfl, rfl⟩ ⟨Nat.le_of_ble_eq_true rfl, Nat.le_of_ble_eq_true rfl⟩ rfl rfl (Nat.le_of_ble_eq_true rfl) 0 rfl rfl [0, 3, 1, 2, 4, 5] [] rfl rfl ⟨rfl, rfl, by decide⟩ ⟨Nat.zero_le _, Nat.zero_le _⟩ [0, 2, 3, 1, 4, 5] rfl rfl ?_
  refine G_istore X (lv' := [(4, .int v1), (3, .int 0), (2, .int 0), (1, .int 0), (0, .ref a0)]) dL_holds_11 (by decide) rfl ?_
  refine G_iload X dL_holds_13 0 rfl ?_
  refine G_iconst X (v := 3) dL_holds_15 (by decide) ?_
  obtain ⟨j4, h5, h6⟩ := bnd h3
  have J7 : G p l e rmL_holds s m args below meth c D A 12 Q 0 0 57 [(0, .ref a0), (1, .int 0), (2, .int 0), (3, .int 0), (4, .int v1)] [.int j4] [(a0, .inr (5, [.ref a0_now, .ref a0_trial, .ref a0_survey, .ref a0_mending, .ref a0_past, .ref a0_text])), (a0_now, .inr (3, [.ref a0_now_numbers])), (a0_now_numbers, .inl (cI, 352, .inl f_a0_now_numbers)), (a0_survey, .inr (4, [.ref a0_now])), (a0_past, .inr (0, [.ref a0_past_states, .int i_a0_past_oldest, .int i_a0_past_many])), (a0_text, .inr (2, [.ref a0_text_signs, .ref a0_text_numbers, .int i_a0_text_length, .int i_a0_text_at, .int i_a0_text_faultPosition, .int i_a0_text_faultReason, .int i_a0_text_faultCause]))] := by
    refine G_istore X (lv' := [(5, .int j4), (0, .ref a0), (1, .int 0), (2, .int 0), (3, .int 0), (4, .int v1)]) dL_holds_57 (by decide) rfl ?_
    refine G_iconst X (v := 0) dL_holds_59 (by decide) ?_
    refine G_istore X (lv' := [(6, .int 0), (5, .int j4), (0, .ref a0), (1, .int 0), (2, .int 0), (3, .int 0), (4, .int v1)]) dL_holds_60 (by decide) rfl ?_
    obtain ⟨j9, h10, h11⟩ := bnd h6
    have J16 : G p l e rmL_holds s m args below meth c D A 12 Q 0 0 435 [(0, .ref a0), (1, .int j9.1), (2, .int j9.2.1), (3, .int j9.2.2.1), (5, .int j9.2.2.2)] [] [(a0, .inr (5, [.ref a0_now, .ref a0_trial, .ref a0_survey, .ref a0_mending, .ref a0_past, .ref a0_text])), (a0_now, .inr (3, [.ref a0_now_numbers])), (a0_now_numbers, .inl (cI, 352, .inl f_a0_now_numbers)), (a0_survey, .inr (4, [.ref a0_now])), (a0_past, .inr (0, [.ref a0_past_states, .int i_a0_past_oldest, .int i_a0_past_many])), (a0_text, .inr (2, [.ref a0_text_signs, .ref a0_text_numbers, .int i_a0_text_length, .int i_a0_text_at, .int i_a0_text_faultPosition, .int i_a0_text_faultReason, .int i_a0_text_faultCause]))] := by
      refine G_iload X dL_holds_435 4 rfl ?_
      refine G_if_eq X (tgt := 550) dL_holds_437 (by decide) (fun h18 => ?_) (fun h18 => ?_)
      · have h19 := ifp h18 h11
        refine G_iconst X (v := 0) dL_holds_550 (by decide) ?_
        cases h19
        exact rt _ _ _ _ dL_holds_551 rfl ⟨rfl, rfl⟩
      · have h20 := ifn h18 h11
        refine G_iload_n X dL_holds_440 1 rfl ?_
        refine G_aload_n X dL_holds_441 0 rfl ?_
        refine G_iconst X (v := 4) dL_holds_442 (by decide) ?_
        obtain ⟨v21, h22, h23⟩ := bnd h20
        refine G1_calli X (As := [.int 4]) (rest := [.int j9.1]) (wr := []) (ws' := [(a0, .inr (5, [.ref a0_now, .ref a0_trial, .ref a0_survey, .ref a0_mending, .ref a0_past, .ref a0_text])), (a0_now, .inr (3, [.ref a0_now_numbers])), (a0_now_numbers, .inl (cI, 352, .inl f_a0_now_numbers)), (a0_survey, .inr (4, [.ref a0_now])), (a0_past, .inr (0, [.ref a0_past_states, .int i_a0_past_oldest, .int i_a0_past_many])), (a0_text, .inr (2, [.ref a0_text_signs, .ref a0_text_numbers, .int i_a0_text_length, .int i_a0_text_at, .int i_a0_text_faultPosition, .int i_a0_text_faultReason, .int i_a0_text_faultCause]))]) dL_holds_443 pkX5_count gL_holds_X5_count (kkX5_count l D cI cR a0 a0_now a0_trial a0_survey a0_mending a0_past a0_text a0_now a0_now_numbers a0_past_states a0_text_signs a0_text_numbers f_a0_now_numbers i_a0_past_oldest i_a0_past_many i_a0_text_length i_a0_text_at i_a0_text_faultPosition i_a0_text_faultReason i_a0_text_faultCause 4 v21 h22) ⟨rfl, rfl⟩ ⟨Nat.le_of_ble_eq_true rfl, Nat.le_of_ble_eq_true rfl⟩ rfl rfl (Nat.le_of_ble_eq_true rfl) 0 rfl rfl [0, 3, 1, 2, 4, 5] [] rfl rfl ⟨rfl, rfl, by decide⟩ ⟨Nat.zero_le _, Nat.zero_le _⟩ [0, 2, 3, 1, 4, 5] rfl rfl ?_
        refine G_icmp_ne X (tgt := 550) dL_holds_446 (by decide) (fun h24 => ?_) (fun h24 => ?_)
        · have h25 := ifp h24 h23
          refine G_iload_n X dL_holds_449 2 rfl ?_
          refine G_aload_n X dL_holds_450 0 rfl ?_
          refine G_bipush X (v := 9) dL_holds_451 (by decide) ?_
          obtain ⟨v26, h27, h28⟩ := bnd h25
          refine G1_calli X (As := [.int 9]) (rest := [.int j9.2.1]) (wr := []) (ws' := [(a0, .inr (5, [.ref a0_now, .ref a0_trial, .ref a0_survey, .ref a0_mending, .ref a0_past, .ref a0_text])), (a0_now, .inr (3, [.ref a0_now_numbers])), (a0_now_numbers, .inl (cI, 352, .inl f_a0_now_numbers)), (a0_survey, .inr (4, [.ref a0_now])), (a0_past, .inr (0, [.ref a0_past_states, .int i_a0_past_oldest, .int i_a0_past_many])), (a0_text, .inr (2, [.ref a0_text_signs, .ref a0_text_numbers, .int i_a0_text_length, .int i_a0_text_at, .int i_a0_text_faultPosition, .int i_a0_text_faultReason, .int i_a0_text_faultCause]))]) dL_holds_453 pkX5_count gL_holds_X5_count (kkX5_count l D cI cR a0 a0_now a0_trial a0_survey a0_mending a0_past a0_text a0_now a0_now_numbers a0_past_states a0_text_signs a0_text_numbers f_a0_now_numbers i_a0_past_oldest i_a0_past_many i_a0_text_length i_a0_text_at i_a0_text_faultPosition i_a0_text_faultReason i_a0_text_faultCause 9 v26 h27) ⟨rfl, rfl⟩ ⟨Nat.le_of_ble_eq_true rfl, Nat.le_of_ble_eq_true rfl⟩ rfl rfl (Nat.le_of_ble_eq_true rfl) 0 rfl rfl [0, 3, 1, 2, 4, 5] [] rfl rfl ⟨rfl, rfl, by decide⟩ ⟨Nat.zero_le _, Nat.zero_le _⟩ [0, 2, 3, 1, 4, 5] rfl rfl ?_
          refine G_icmp_ne X (tgt := 550) dL_holds_456 (by decide) (fun h29 => ?_) (fun h29 => ?_)
          · have h30 := ifp h29 h28
            refine G_iload_n X dL_holds_459 3 rfl ?_
            refine G_aload_n X dL_holds_460 0 rfl ?_
            refine G_iconst X (v := 2) dL_holds_461 (by decide) ?_
            obtain ⟨v31, h32, h33⟩ := bnd h30
            refine G1_calli X (As := [.int 2]) (rest := [.int j9.2.2.1]) (wr := []) (ws' := [(a0, .inr (5, [.ref a0_now, .ref a0_trial, .ref a0_survey, .ref a0_mending, .ref a0_past, .ref a0_text])), (a0_now, .inr (3, [.ref a0_now_numbers])), (a0_now_numbers, .inl (cI, 352, .inl f_a0_now_numbers)), (a0_survey, .inr (4, [.ref a0_now])), (a0_past, .inr (0, [.ref a0_past_states, .int i_a0_past_oldest, .int i_a0_past_many])), (a0_text, .inr (2, [.ref a0_text_signs, .ref a0_text_numbers, .int i_a0_text_length, .int i_a0_text_at, .int i_a0_text_faultPosition, .int i_a0_text_faultReason, .int i_a0_text_faultCause]))]) dL_holds_462 pkX5_count gL_holds_X5_count (kkX5_count l D cI cR a0 a0_now a0_trial a0_survey a0_mending a0_past a0_text a0_now a0_now_numbers a0_past_states a0_text_signs a0_text_numbers f_a0_now_numbers i_a0_past_oldest i_a0_past_many i_a0_text_length i_a0_text_at i_a0_text_faultPosition i_a0_text_faultReason i_a0_text_faultCause 2 v31 h32) ⟨rfl, rfl⟩ ⟨Nat.le_of_ble_eq_true rfl, Nat.le_of_ble_eq_true rfl⟩ rfl rfl (Nat.le_of_ble_eq_true rfl) 0 rfl rfl [0, 3, 1, 2, 4, 5] [] rfl rfl ⟨rfl, rfl, by decide⟩ ⟨Nat.zero_le _, Nat.zero_le _⟩ [0, 2, 3, 1, 4, 5] rfl rfl ?_
            refine G_icmp_ne X (tgt := 550) dL_holds_465 (by decide) (fun h34 => ?_) (fun h34 => ?_)
            · have h35 := ifp h34 h33
              refine G_aload_n X dL_holds_468 0 rfl ?_
              refine G_iconst X (v := 3) dL_holds_469 (by decide) ?_
              obtain ⟨v36, h37, h38⟩ := bnd h35
              refine G1_calli X (As := [.int 3]) (rest := []) (wr := []) (ws' := [(a0, .inr (5, [.ref a0_now, .ref a0_trial, .ref a0_survey, .ref a0_mending, .ref a0_past, .ref a0_text])), (a0_now, .inr (3, [.ref a0_now_numbers])), (a0_now_numbers, .inl (cI, 352, .inl f_a0_now_numbers)), (a0_survey, .inr (4, [.ref a0_now])), (a0_past, .inr (0, [.ref a0_past_states, .int i_a0_past_oldest, .int i_a0_past_many])), (a0_text, .inr (2, [.ref a0_text_signs, .ref a0_text_numbers, .int i_a0_text_length, .int i_a0_text_at, .int i_a0_text_faultPosition, .int i_a0_text_faultReason, .int i_a0_text_faultCause]))]) dL_holds_470 pkX5_count gL_holds_X5_count (kkX5_count l D cI cR a0 a0_now a0_trial a0_survey a0_mending a0_past a0_text a0_now a0_now_numbers a0_past_states a0_text_signs a0_text_numbers f_a0_now_numbers i_a0_past_oldest i_a0_past_many i_a0_text_length i_a0_text_at i_a0_text_faultPosition i_a0_text_faultReason i_a0_text_faultCause 3 v36 h37) ⟨rfl, rfl⟩ ⟨Nat.le_of_ble_eq_true rfl, Nat.le_of_ble_eq_true rfl⟩ rfl rfl (Nat.le_of_ble_eq_true rfl) 0 rfl rfl [0, 3, 1, 2, 4, 5] [] rfl rfl ⟨rfl, rfl, by decide⟩ ⟨Nat.zero_le _, Nat.zero_le _⟩ [0, 2, 3, 1, 4, 5] rfl rfl ?_
              refine G_iload_n X dL_holds_473 3 rfl ?_
              refine G_iconst X (v := (-1)) dL_holds_474 (by decide) ?_
              refine G_ixor X dL_holds_475 ?_
              refine G_iand X dL_holds_476 ?_
              refine G_if_ne X (tgt := 550) dL_holds_477 (by decide) (fun h39 => ?_) (fun h39 => ?_)
              · have h40 := ifp h39 h38
                refine G_aload_n X dL_holds_480 0 rfl ?_
                refine G_iconst X (v := 5) dL_holds_481 (by decide) ?_
                obtain ⟨v41, h42, h43⟩ := bnd h40
                refine G1_calli X (As := [.int 5]) (rest := []) (wr := []) (ws' := [(a0, .inr (5, [.ref a0_now, .ref a0_trial, .ref a0_survey, .ref a0_mending, .ref a0_past, .ref a0_text])), (a0_now, .inr (3, [.ref a0_now_numbers])), (a0_now_numbers, .inl (cI, 352, .inl f_a0_now_numbers)), (a0_survey, .inr (4, [.ref a0_now])), (a0_past, .inr (0, [.ref a0_past_states, .int i_a0_past_oldest, .int i_a0_past_many])), (a0_text, .inr (2, [.ref a0_text_signs, .ref a0_text_numbers, .int i_a0_text_length, .int i_a0_text_at, .int i_a0_text_faultPosition, .int i_a0_text_faultReason, .int i_a0_text_faultCause]))]) dL_holds_482 pkX5_count gL_holds_X5_count (kkX5_count l D cI cR a0 a0_now a0_trial a0_survey a0_mending a0_past a0_text a0_now a0_now_numbers a0_past_states a0_text_signs a0_text_numbers f_a0_now_numbers i_a0_past_oldest i_a0_past_many i_a0_text_length i_a0_text_at i_a0_text_faultPosition i_a0_text_faultReason i_a0_text_faultCause 5 v41 h42) ⟨rfl, rfl⟩ ⟨Nat.le_of_ble_eq_true rfl, Nat.le_of_ble_eq_true rfl⟩ rfl rfl (Nat.le_of_ble_eq_true rfl) 0 rfl rfl [0, 3, 1, 2, 4, 5] [] rfl rfl ⟨rfl, rfl, by decide⟩ ⟨Nat.zero_le _, Nat.zero_le _⟩ [0, 2, 3, 1, 4, 5] rfl rfl ?_
                refine G_iload_n X dL_holds_485 1 rfl ?_
                refine G_icmp_gt X (tgt := 550) dL_holds_486 (by decide) (fun h44 => ?_) (fun h44 => ?_)
                · have h45 := ifp h44 h43
                  refine G_iconst X (v := 0) dL_holds_550 (by decide) ?_
                  cases h45
                  exact rt _ _ _ _ dL_holds_551 rfl ⟨rfl, rfl⟩
                · have h46 := ifn h44 h43
                  refine G_aload_n X dL_holds_489 0 rfl ?_
                  obtain ⟨v47, h48, h49⟩ := bnd h46
                  refine G1_calli X (As := []) (rest := []) (wr := [(a0_past, .inr (0, [.ref a0_past_states, .int i_a0_past_oldest, .int i_a0_past_many])), (a0_text, .inr (2, [.ref a0_text_signs, .ref a0_text_numbers, .int i_a0_text_length, .int i_a0_text_at, .int i_a0_text_faultPosition, .int i_a0_text_faultReason, .int i_a0_text_faultCause]))]) (ws' := [(a0, .inr (5, [.ref a0_now, .ref a0_trial, .ref a0_survey, .ref a0_mending, .ref a0_past, .ref a0_text])), (a0_now, .inr (3, [.ref a0_now_numbers])), (a0_now_numbers, .inl (cI, 352, .inl f_a0_now_numbers)), (a0_survey, .inr (4, [.ref a0_now])), (a0_past, .inr (0, [.ref a0_past_states, .int i_a0_past_oldest, .int i_a0_past_many])), (a0_text, .inr (2, [.ref a0_text_signs, .ref a0_text_numbers, .int i_a0_text_length, .int i_a0_text_at, .int i_a0_text_faultPosition, .int i_a0_text_faultReason, .int i_a0_text_faultCause]))]) dL_holds_490 pkX5_mean gL_holds_X5_mean (kkX5_mean l D cI cR a0 a0_now a0_trial a0_survey a0_mending a0_past a0_text a0_now a0_now_numbers f_a0_now_numbers v47 h48) ⟨rfl, rfl⟩ ⟨Nat.le_of_ble_eq_true rfl, Nat.le_of_ble_eq_true rfl⟩ rfl rfl (Nat.le_of_ble_eq_true rfl) 0 rfl rfl [0, 3, 1, 2] [4, 5] rfl rfl ⟨rfl, rfl, by decide⟩ ⟨Nat.zero_le _, Nat.zero_le _⟩ [2, 4, 5, 3, 0, 1] rfl rfl ?_
                  refine G_ldc X dL_holds_493 flL_holds_38 ?_
                  obtain ⟨j50, h51, h52⟩ := bnd h49
                  have J53 : G p l e rmL_holds s m args below meth c D A 12 Q 0 0 503 [(0, .ref a0), (1, .int j9.1), (3, .int j9.2.2.1)] [.int j50] [(a0, .inr (5, [.ref a0_now, .ref a0_trial, .ref a0_survey, .ref a0_mending, .ref a0_past, .ref a0_text])), (a0_now, .inr (3, [.ref a0_now_numbers])), (a0_now_numbers, .inl (cI, 352, .inl f_a0_now_numbers)), (a0_survey, .inr (4, [.ref a0_now])), (a0_past, .inr (0, [.ref a0_past_states, .int i_a0_past_oldest, .int i_a0_past_many])), (a0_text, .inr (2, [.ref a0_text_signs, .ref a0_text_numbers, .int i_a0_text_length, .int i_a0_text_at, .int i_a0_text_faultPosition, .int i_a0_text_faultReason, .int i_a0_text_faultCause]))] := by
                    refine G_aload_n X dL_holds_503 0 rfl ?_
                    refine G_iconst X (v := 5) dL_holds_504 (by decide) ?_
                    obtain ⟨v54, h55, h56⟩ := bnd h52
                    refine G1_calli X (As := [.int 5]) (rest := [.int j50]) (wr := []) (ws' := [(a0, .inr (5, [.ref a0_now, .ref a0_trial, .ref a0_survey, .ref a0_mending, .ref a0_past, .ref a0_text])), (a0_now, .inr (3, [.ref a0_now_numbers])), (a0_now_numbers, .inl (cI, 352, .inl f_a0_now_numbers)), (a0_survey, .inr (4, [.ref a0_now])), (a0_past, .inr (0, [.ref a0_past_states, .int i_a0_past_oldest, .int i_a0_past_many])), (a0_text, .inr (2, [.ref a0_text_signs, .ref a0_text_numbers, .int i_a0_text_length, .int i_a0_text_at, .int i_a0_text_faultPosition, .int i_a0_text_faultReason, .int i_a0_text_faultCause]))]) dL_holds_505 pkX5_count gL_holds_X5_count (kkX5_count l D cI cR a0 a0_now a0_trial a0_survey a0_mending a0_past a0_text a0_now a0_now_numbers a0_past_states a0_text_signs a0_text_numbers f_a0_now_numbers i_a0_past_oldest i_a0_past_many i_a0_text_length i_a0_text_at i_a0_text_faultPosition i_a0_text_faultReason i_a0_text_faultCause 5 v54 h55) ⟨rfl, rfl⟩ ⟨Nat.le_of_ble_eq_true rfl, Nat.le_of_ble_eq_true rfl⟩ rfl rfl (Nat.le_of_ble_eq_true rfl) 0 rfl rfl [0, 3, 1, 2, 4, 5] [] rfl rfl ⟨rfl, rfl, by decide⟩ ⟨Nat.zero_le _, Nat.zero_le _⟩ [0, 2, 3, 1, 4, 5] rfl rfl ?_
                    refine G_iload_n X dL_holds_508 1 rfl ?_
                    obtain ⟨j57, h58, h59⟩ := bnd h56
                    have J60 : G p l e rmL_holds s m args below meth c D A 12 Q 0 0 517 [(0, .ref a0), (3, .int j9.2.2.1)] [.int j57, .int j50] [(a0, .inr (5, [.ref a0_now, .ref a0_trial, .ref a0_survey, .ref a0_mending, .ref a0_past, .ref a0_text])), (a0_now, .inr (3, [.ref a0_now_numbers])), (a0_now_numbers, .inl (cI, 352, .inl f_a0_now_numbers)), (a0_survey, .inr (4, [.ref a0_now])), (a0_past, .inr (0, [.ref a0_past_states, .int i_a0_past_oldest, .int i_a0_past_many])), (a0_text, .inr (2, [.ref a0_text_signs, .ref a0_text_numbers, .int i_a0_text_length, .int i_a0_text_at, .int i_a0_text_faultPosition, .int i_a0_text_faultReason, .int i_a0_text_faultCause]))] := by
                      refine G_icmp_ne X (tgt := 550) dL_holds_517 (by decide) (fun h61 => ?_) (fun h61 => ?_)
                      · have h62 := ifp h61 h59
                        refine G_aload_n X dL_holds_520 0 rfl ?_
                        obtain ⟨v63, h64, h65⟩ := bnd h62
                        refine G1_calli X (As := []) (rest := []) (wr := [(a0_past, .inr (0, [.ref a0_past_states, .int i_a0_past_oldest, .int i_a0_past_many])), (a0_text, .inr (2, [.ref a0_text_signs, .ref a0_text_numbers, .int i_a0_text_length, .int i_a0_text_at, .int i_a0_text_faultPosition, .int i_a0_text_faultReason, .int i_a0_text_faultCause]))]) (ws' := [(a0, .inr (5, [.ref a0_now, .ref a0_trial, .ref a0_survey, .ref a0_mending, .ref a0_past, .ref a0_text])), (a0_now, .inr (3, [.ref a0_now_numbers])), (a0_now_numbers, .inl (cI, 352, .inl f_a0_now_numbers)), (a0_survey, .inr (4, [.ref a0_now])), (a0_past, .inr (0, [.ref a0_past_states, .int i_a0_past_oldest, .int i_a0_past_many])), (a0_text, .inr (2, [.ref a0_text_signs, .ref a0_text_numbers, .int i_a0_text_length, .int i_a0_text_at, .int i_a0_text_faultPosition, .int i_a0_text_faultReason, .int i_a0_text_faultCause]))]) dL_holds_521 pkX5_share gL_holds_X5_share (kkX5_share l D cI cR a0 a0_now a0_trial a0_survey a0_mending a0_past a0_text a0_now a0_now_numbers f_a0_now_numbers v63 h64) ⟨rfl, rfl⟩ ⟨Nat.le_of_ble_eq_true rfl, Nat.le_of_ble_eq_true rfl⟩ rfl rfl (Nat.le_of_ble_eq_true rfl) 0 rfl rfl [0, 3, 1, 2] [4, 5] rfl rfl ⟨rfl, rfl, by decide⟩ ⟨Nat.zero_le _, Nat.zero_le _⟩ [2, 4, 5, 3, 0, 1] rfl rfl ?_
                        refine G_ldc X dL_holds_524 flL_holds_38 ?_
                        obtain ⟨j66, h67, h68⟩ := bnd h65
                        have J69 : G p l e rmL_holds s m args below meth c D A 12 Q 0 0 534 [(3, .int j9.2.2.1)] [.int j66] [(a0, .inr (5, [.ref a0_now, .ref a0_trial, .ref a0_survey, .ref a0_mending, .ref a0_past, .ref a0_text])), (a0_now, .inr (3, [.ref a0_now_numbers])), (a0_now_numbers, .inl (cI, 352, .inl f_a0_now_numbers)), (a0_survey, .inr (4, [.ref a0_now])), (a0_past, .inr (0, [.ref a0_past_states, .int i_a0_past_oldest, .int i_a0_past_many])), (a0_text, .inr (2, [.ref a0_text_signs, .ref a0_text_numbers, .int i_a0_text_length, .int i_a0_text_at, .int i_a0_text_faultPosition, .int i_a0_text_faultReason, .int i_a0_text_faultCause]))] := by
                          refine G_iload_n X dL_holds_534 0 rfl ?_
                          refine G_if_ne X (tgt := 542) dL_holds_535 (by decide) (fun h70 => ?_) (fun h70 => ?_)
                          · have h71 := ifp h70 h68
                            refine G_iconst X (v := 1) dL_holds_538 (by decide) ?_
                            refine G_goto X (tgt := 543) dL_holds_539 (by decide) ?_
                            refine G_icmp_ne X (tgt := 550) dL_holds_543 (by decide) (fun h72 => ?_) (fun h72 => ?_)
                            · have h73 := ifp h72 h71
                              refine G_iconst X (v := 1) dL_holds_546 (by decide) ?_
                              refine G_goto X (tgt := 551) dL_holds_547 (by decide) ?_
                              cases h73
                              exact rt _ _ _ _ dL_holds_551 rfl ⟨rfl, rfl⟩
                            · have h74 := ifn h72 h71
                              refine G_iconst X (v := 0) dL_holds_550 (by decide) ?_
                              cases h74
                              exact rt _ _ _ _ dL_holds_551 rfl ⟨rfl, rfl⟩
                          · have h75 := ifn h70 h68
                            refine G_iconst X (v := 0) dL_holds_542 (by decide) ?_
                            refine G_icmp_ne X (tgt := 550) dL_holds_543 (by decide) (fun h76 => ?_) (fun h76 => ?_)
                            · have h77 := ifp h76 h75
                              refine G_iconst X (v := 1) dL_holds_546 (by decide) ?_
                              refine G_goto X (tgt := 551) dL_holds_547 (by decide) ?_
                              cases h77
                              exact rt _ _ _ _ dL_holds_551 rfl ⟨rfl, rfl⟩
                            · have h78 := ifn h76 h75
                              refine G_iconst X (v := 0) dL_holds_550 (by decide) ?_
                              cases h78
                              exact rt _ _ _ _ dL_holds_551 rfl ⟨rfl, rfl⟩
                        refine G_icmp_ne X (tgt := 533) dL_holds_526 (by decide) (fun h79 => ?_) (fun h79 => ?_)
                        · have h80 := ifp h79 h67
                          refine G_iconst X (v := 1) dL_holds_529 (by decide) ?_
                          refine G_goto X (tgt := 534) dL_holds_530 (by decide) ?_
                          cases h80
                          exact G_lv [1] rfl (J69)
                        · have h81 := ifn h79 h67
                          refine G_iconst X (v := 0) dL_holds_533 (by decide) ?_
                          cases h81
                          exact G_lv [1] rfl (J69)
                      · have h82 := ifn h61 h59
                        refine G_iconst X (v := 0) dL_holds_550 (by decide) ?_
                        cases h82
                        exact rt _ _ _ _ dL_holds_551 rfl ⟨rfl, rfl⟩
                    refine G_icmp_ne X (tgt := 516) dL_holds_509 (by decide) (fun h83 => ?_) (fun h83 => ?_)
                    · have h84 := ifp h83 h58
                      refine G_iconst X (v := 1) dL_holds_512 (by decide) ?_
                      refine G_goto X (tgt := 517) dL_holds_513 (by decide) ?_
                      cases h84
                      exact G_lv [0, 2] rfl (J60)
                    · have h85 := ifn h83 h58
                      refine G_iconst X (v := 0) dL_holds_516 (by decide) ?_
                      cases h85
                      exact G_lv [0, 2] rfl (J60)
                  refine G_icmp_ne X (tgt := 502) dL_holds_495 (by decide) (fun h86 => ?_) (fun h86 => ?_)
                  · have h87 := ifp h86 h51
                    refine G_iconst X (v := 1) dL_holds_498 (by decide) ?_
                    refine G_goto X (tgt := 503) dL_holds_499 (by decide) ?_
                    cases h87
                    exact G_lv [0, 1, 3] rfl (J53)
                  · have h88 := ifn h86 h51
                    refine G_iconst X (v := 0) dL_holds_502 (by decide) ?_
                    cases h88
                    exact G_lv [0, 1, 3] rfl (J53)
              · have h89 := ifn h39 h38
                refine G_iconst X (v := 0) dL_holds_550 (by decide) ?_
                cases h89
                exact rt _ _ _ _ dL_holds_551 rfl ⟨rfl, rfl⟩
            · have h90 := ifn h34 h33
              refine G_iconst X (v := 0) dL_holds_550 (by decide) ?_
              cases h90
              exact rt _ _ _ _ dL_holds_551 rfl ⟨rfl, rfl⟩
          · have h91 := ifn h29 h28
            refine G_iconst X (v := 0) dL_holds_550 (by decide) ?_
            cases h91
            exact rt _ _ _ _ dL_holds_551 rfl ⟨rfl, rfl⟩
        · have h92 := ifn h24 h23
          refine G_iconst X (v := 0) dL_holds_550 (by decide) ?_
          cases h92
          exact rt _ _ _ _ dL_holds_551 rfl ⟨rfl, rfl⟩
    refine G_lv [2, 3, 4, 5, 6, 1, 0] rfl ?_
    refine itr_ind (P := fun s8 : (Int32 × Int32 × Int32 × Int32 × Int32) => G p l e rmL_holds s m args below meth c D A 12 Q 0 0 62 [(0, .ref a0), (1, .int s8.1), (2, .int s8.2.1), (3, .int s8.2.2.1), (4, .int v1), (5, .int s8.2.2.2.1), (6, .int s8.2.2.2.2)] [] [(a0, .inr (5, [.ref a0_now, .ref a0_trial, .ref a0_survey, .ref a0_mending, .ref a0_past, .ref a0_text])), (a0_now, .inr (3, [.ref a0_now_numbers])), (a0_now_numbers, .inl (cI, 352, .inl f_a0_now_numbers)), (a0_survey, .inr (4, [.ref a0_now])), (a0_past, .inr (0, [.ref a0_past_states, .int i_a0_past_oldest, .int i_a0_past_many])), (a0_text, .inr (2, [.ref a0_text_signs, .ref a0_text_numbers, .int i_a0_text_length, .int i_a0_text_at, .int i_a0_text_faultPosition, .int i_a0_text_faultReason, .int i_a0_text_faultCause]))]) (fun s8 o15 h12 h13 h14 => ?_) FU _ h10
    unfold SL_holds_62 at h12
    refine G_iload X dL_holds_62 6 rfl ?_
    refine G_iload X dL_holds_64 4 rfl ?_
    refine G_icmp_ge X (tgt := 435) dL_holds_66 (by decide) (fun h93 => ?_) (fun h93 => ?_)
    · have h94 := ifp h93 h12
      cases h94
      have h95 := h14 _ rfl
      subst h95
      exact G_lv [0, 1, 2, 3, 5] rfl (J16)
    · have h96 := ifn h93 h12
      refine G_iload X dL_holds_69 5 rfl ?_
      refine G_if_eq X (tgt := 435) dL_holds_71 (by decide) (fun h97 => ?_) (fun h97 => ?_)
      · have h98 := ifp h97 h96
        cases h98
        have h99 := h14 _ rfl
        subst h99
        exact G_lv [0, 1, 2, 3, 5] rfl (J16)
      · have h100 := ifn h97 h96
        refine G_aload_n X dL_holds_74 0 rfl ?_
        refine G_iload X dL_holds_75 6 rfl ?_
        refine G_iconst X (v := 1) dL_holds_77 (by decide) ?_
        obtain ⟨v101, h102, h103⟩ := bnd h100
        refine G1_calli X (As := [.int s8.2.2.2.2, .int 1]) (rest := []) (wr := [(a0_past, .inr (0, [.ref a0_past_states, .int i_a0_past_oldest, .int i_a0_past_many])), (a0_text, .inr (2, [.ref a0_text_signs, .ref a0_text_numbers, .int i_a0_text_length, .int i_a0_text_at, .int i_a0_text_faultPosition, .int i_a0_text_faultReason, .int i_a0_text_faultCause]))]) (ws' := [(a0, .inr (5, [.ref a0_now, .ref a0_trial, .ref a0_survey, .ref a0_mending, .ref a0_past, .ref a0_text])), (a0_now, .inr (3, [.ref a0_now_numbers])), (a0_now_numbers, .inl (cI, 352, .inl f_a0_now_numbers)), (a0_survey, .inr (4, [.ref a0_now])), (a0_past, .inr (0, [.ref a0_past_states, .int i_a0_past_oldest, .int i_a0_past_many])), (a0_text, .inr (2, [.ref a0_text_signs, .ref a0_text_numbers, .int i_a0_text_length, .int i_a0_text_at, .int i_a0_text_faultPosition, .int i_a0_text_faultReason, .int i_a0_text_faultCause]))]) dL_holds_78 pkX5_row gL_holds_X5_row (kkX5_row l D cI cR a0 a0_now a0_trial a0_survey a0_mending a0_past a0_text a0_now a0_now_numbers f_a0_now_numbers s8.2.2.2.2 1 v101 h102) ⟨rfl, rfl⟩ ⟨Nat.le_of_ble_eq_true rfl, Nat.le_of_ble_eq_true rfl⟩ rfl rfl (Nat.le_of_ble_eq_true rfl) 0 rfl rfl [0, 3, 1, 2] [4, 5] rfl rfl ⟨rfl, rfl, by decide⟩ ⟨Nat.zero_le _, Nat.zero_le _⟩ [2, 4, 5, 3, 0, 1] rfl rfl ?_
        refine G_istore X (lv' := [(7, .int v101), (0, .ref a0), (1, .int s8.1), (2, .int s8.2.1), (3, .int s8.2.2.1), (4, .int v1), (5, .int s8.2.2.2.1), (6, .int s8.2.2.2.2)]) dL_holds_81 (by decide) rfl ?_
        refine G_aload_n X dL_holds_83 1 rfl ?_
        refine G_iload X dL_holds_84 7 rfl ?_
        refine G_iconst X (v := 2) dL_holds_86 (by decide) ?_
        obtain ⟨v104, h105, h106⟩ := bnd h103
        refine G1_calli X (As := [.int s8.2.2.2.2, .int 2]) (rest := []) (wr := [(a0_past, .inr (0, [.ref a0_past_states, .int i_a0_past_oldest, .int i_a0_past_many])), (a0_text, .inr (2, [.ref a0_text_signs, .ref a0_text_numbers, .int i_a0_text_length, .int i_a0_text_at, .int i_a0_text_faultPosition, .int i_a0_text_faultReason, .int i_a0_text_faultCause]))]) (ws' := [(a0, .inr (5, [.ref a0_now, .ref a0_trial, .ref a0_survey, .ref a0_mending, .ref a0_past, .ref a0_text])), (a0_now, .inr (3, [.ref a0_now_numbers])), (a0_now_numbers, .inl (cI, 352, .inl f_a0_now_numbers)), (a0_survey, .inr (4, [.ref a0_now])), (a0_past, .inr (0, [.ref a0_past_states, .int i_a0_past_oldest, .int i_a0_past_many])), (a0_text, .inr (2, [.ref a0_text_signs, .ref a0_text_numbers, .int i_a0_text_length, .int i_a0_text_at, .int i_a0_text_faultPosition, .int i_a0_text_faultReason, .int i_a0_text_faultCause]))]) dL_holds_87 pkX5_row gL_holds_X5_row (kkX5_row l D cI cR a0 a0_now a0_trial a0_survey a0_mending a0_past a0_text a0_now a0_now_numbers f_a0_now_numbers s8.2.2.2.2 2 v104 h105) ⟨rfl, rfl⟩ ⟨Nat.le_of_ble_eq_true rfl, Nat.le_of_ble_eq_true rfl⟩ rfl rfl (Nat.le_of_ble_eq_true rfl) 0 rfl rfl [0, 3, 1, 2] [4, 5] rfl rfl ⟨rfl, rfl, by decide⟩ ⟨Nat.zero_le _, Nat.zero_le _⟩ [2, 4, 5, 3, 0, 1] rfl rfl ?_
        refine G_istore X (lv' := [(8, .int v104), (7, .int v101), (0, .ref a0), (1, .int s8.1), (2, .int s8.2.1), (3, .int s8.2.2.1), (4, .int v1), (5, .int s8.2.2.2.1), (6, .int s8.2.2.2.2)]) dL_holds_90 (by decide) rfl ?_
        refine G_aload_n X dL_holds_92 2 rfl ?_
        refine G_iload X dL_holds_93 8 rfl ?_
        refine G_iconst X (v := 3) dL_holds_95 (by decide) ?_
        obtain ⟨v107, h108, h109⟩ := bnd h106
        refine G1_calli X (As := [.int s8.2.2.2.2, .int 3]) (rest := []) (wr := [(a0_past, .inr (0, [.ref a0_past_states, .int i_a0_past_oldest, .int i_a0_past_many])), (a0_text, .inr (2, [.ref a0_text_signs, .ref a0_text_numbers, .int i_a0_text_length, .int i_a0_text_at, .int i_a0_text_faultPosition, .int i_a0_text_faultReason, .int i_a0_text_faultCause]))]) (ws' := [(a0, .inr (5, [.ref a0_now, .ref a0_trial, .ref a0_survey, .ref a0_mending, .ref a0_past, .ref a0_text])), (a0_now, .inr (3, [.ref a0_now_numbers])), (a0_now_numbers, .inl (cI, 352, .inl f_a0_now_numbers)), (a0_survey, .inr (4, [.ref a0_now])), (a0_past, .inr (0, [.ref a0_past_states, .int i_a0_past_oldest, .int i_a0_past_many])), (a0_text, .inr (2, [.ref a0_text_signs, .ref a0_text_numbers, .int i_a0_text_length, .int i_a0_text_at, .int i_a0_text_faultPosition, .int i_a0_text_faultReason, .int i_a0_text_faultCause]))]) dL_holds_96 pkX5_row gL_holds_X5_row (kkX5_row l D cI cR a0 a0_now a0_trial a0_survey a0_mending a0_past a0_text a0_now a0_now_numbers f_a0_now_numbers s8.2.2.2.2 3 v107 h108) ⟨rfl, rfl⟩ ⟨Nat.le_of_ble_eq_true rfl, Nat.le_of_ble_eq_true rfl⟩ rfl rfl (Nat.le_of_ble_eq_true rfl) 0 rfl rfl [0, 3, 1, 2] [4, 5] rfl rfl ⟨rfl, rfl, by decide⟩ ⟨Nat.zero_le _, Nat.zero_le _⟩ [2, 4, 5, 3, 0, 1] rfl rfl ?_
        refine G_istore X (lv' := [(9, .int v107), (8, .int v104), (7, .int v101), (0, .ref a0), (1, .int s8.1), (2, .int s8.2.1), (3, .int s8.2.2.1), (4, .int v1), (5, .int s8.2.2.2.1), (6, .int s8.2.2.2.2)]) dL_holds_99 (by decide) rfl ?_
        refine G_iload_n X dL_holds_101 4 rfl ?_
        refine G_aload_n X dL_holds_102 3 rfl ?_
        refine G_iload X dL_holds_103 9 rfl ?_
        refine G_iconst X (v := 4) dL_holds_105 (by decide) ?_
        obtain ⟨v110, h111, h112⟩ := bnd h109
        refine G1_calli X (As := [.int s8.2.2.2.2, .int 4]) (rest := [.int s8.1]) (wr := [(a0_past, .inr (0, [.ref a0_past_states, .int i_a0_past_oldest, .int i_a0_past_many])), (a0_text, .inr (2, [.ref a0_text_signs, .ref a0_text_numbers, .int i_a0_text_length, .int i_a0_text_at, .int i_a0_text_faultPosition, .int i_a0_text_faultReason, .int i_a0_text_faultCause]))]) (ws' := [(a0, .inr (5, [.ref a0_now, .ref a0_trial, .ref a0_survey, .ref a0_mending, .ref a0_past, .ref a0_text])), (a0_now, .inr (3, [.ref a0_now_numbers])), (a0_now_numbers, .inl (cI, 352, .inl f_a0_now_numbers)), (a0_survey, .inr (4, [.ref a0_now])), (a0_past, .inr (0, [.ref a0_past_states, .int i_a0_past_oldest, .int i_a0_past_many])), (a0_text, .inr (2, [.ref a0_text_signs, .ref a0_text_numbers, .int i_a0_text_length, .int i_a0_text_at, .int i_a0_text_faultPosition, .int i_a0_text_faultReason, .int i_a0_text_faultCause]))]) dL_holds_106 pkX5_row gL_holds_X5_row (kkX5_row l D cI cR a0 a0_now a0_trial a0_survey a0_mending a0_past a0_text a0_now a0_now_numbers f_a0_now_numbers s8.2.2.2.2 4 v110 h111) ⟨rfl, rfl⟩ ⟨Nat.le_of_ble_eq_true rfl, Nat.le_of_ble_eq_true rfl⟩ rfl rfl (Nat.le_of_ble_eq_true rfl) 0 rfl rfl [0, 3, 1, 2] [4, 5] rfl rfl ⟨rfl, rfl, by decide⟩ ⟨Nat.zero_le _, Nat.zero_le _⟩ [2, 4, 5, 3, 0, 1] rfl rfl ?_
        refine G_iadd X dL_holds_109 ?_
        refine G_istore_n X (lv' := [(1, .int (s8.1 + v110)), (9, .int v107), (8, .int v104), (7, .int v101), (0, .ref a0), (2, .int s8.2.1), (3, .int s8.2.2.1), (4, .int v1), (5, .int s8.2.2.2.1), (6, .int s8.2.2.2.2)]) dL_holds_110 (by decide) rfl ?_
        refine G_iload_n X dL_holds_111 5 rfl ?_
        refine G_aload_n X dL_holds_112 4 rfl ?_
        refine G_iload X dL_holds_113 9 rfl ?_
        refine G_bipush X (v := 8) dL_holds_115 (by decide) ?_
        obtain ⟨v113, h114, h115⟩ := bnd h112
        refine G1_calli X (As := [.int s8.2.2.2.2, .int 8]) (rest := [.int s8.2.1]) (wr := [(a0_past, .inr (0, [.ref a0_past_states, .int i_a0_past_oldest, .int i_a0_past_many])), (a0_text, .inr (2, [.ref a0_text_signs, .ref a0_text_numbers, .int i_a0_text_length, .int i_a0_text_at, .int i_a0_text_faultPosition, .int i_a0_text_faultReason, .int i_a0_text_faultCause]))]) (ws' := [(a0, .inr (5, [.ref a0_now, .ref a0_trial, .ref a0_survey, .ref a0_mending, .ref a0_past, .ref a0_text])), (a0_now, .inr (3, [.ref a0_now_numbers])), (a0_now_numbers, .inl (cI, 352, .inl f_a0_now_numbers)), (a0_survey, .inr (4, [.ref a0_now])), (a0_past, .inr (0, [.ref a0_past_states, .int i_a0_past_oldest, .int i_a0_past_many])), (a0_text, .inr (2, [.ref a0_text_signs, .ref a0_text_numbers, .int i_a0_text_length, .int i_a0_text_at, .int i_a0_text_faultPosition, .int i_a0_text_faultReason, .int i_a0_text_faultCause]))]) dL_holds_117 pkX5_row gL_holds_X5_row (kkX5_row l D cI cR a0 a0_now a0_trial a0_survey a0_mending a0_past a0_text a0_now a0_now_numbers f_a0_now_numbers s8.2.2.2.2 8 v113 h114) ⟨rfl, rfl⟩ ⟨Nat.le_of_ble_eq_true rfl, Nat.le_of_ble_eq_true rfl⟩ rfl rfl (Nat.le_of_ble_eq_true rfl) 0 rfl rfl [0, 3, 1, 2] [4, 5] rfl rfl ⟨rfl, rfl, by decide⟩ ⟨Nat.zero_le _, Nat.zero_le _⟩ [2, 4, 5, 3, 0, 1] rfl rfl ?_
        refine G_iadd X dL_holds_120 ?_
        refine G_istore_n X (lv' := [(2, .int (s8.2.1 + v113)), (1, .int (s8.1 + v110)), (9, .int v107), (8, .int v104), (7, .int v101), (0, .ref a0), (3, .int s8.2.2.1), (4, .int v1), (5, .int s8.2.2.2.1), (6, .int s8.2.2.2.2)]) dL_holds_121 (by decide) rfl ?_
        refine G_iload_n X dL_holds_122 6 rfl ?_
        refine G_iload X dL_holds_123 4 rfl ?_
        refine G_iload X dL_holds_125 9 rfl ?_
        refine G_ishl X dL_holds_127 ?_
        refine G_ior X dL_holds_128 ?_
        refine G_istore_n X (lv' := [(3, .int (s8.2.2.1 ||| (v101 <<< (s8.2.2.2.2 &&& 31)))), (2, .int (s8.2.1 + v113)), (1, .int (s8.1 + v110)), (9, .int v107), (8, .int v104), (7, .int v101), (0, .ref a0), (4, .int v1), (5, .int s8.2.2.2.1), (6, .int s8.2.2.2.2)]) dL_holds_129 (by decide) rfl ?_
        refine G_aload_n X dL_holds_130 6 rfl ?_
        refine G_aload_n X dL_holds_131 6 rfl ?_
        refine G_iload X dL_holds_132 9 rfl ?_
        refine G_iconst X (v := 0) dL_holds_134 (by decide) ?_
        obtain ⟨v116, h117, h118⟩ := bnd h115
        refine G1_calli X (As := [.int s8.2.2.2.2, .int 0]) (rest := [.ref a0]) (wr := [(a0_past, .inr (0, [.ref a0_past_states, .int i_a0_past_oldest, .int i_a0_past_many])), (a0_text, .inr (2, [.ref a0_text_signs, .ref a0_text_numbers, .int i_a0_text_length, .int i_a0_text_at, .int i_a0_text_faultPosition, .int i_a0_text_faultReason, .int i_a0_text_faultCause]))]) (ws' := [(a0, .inr (5, [.ref a0_now, .ref a0_trial, .ref a0_survey, .ref a0_mending, .ref a0_past, .ref a0_text])), (a0_now, .inr (3, [.ref a0_now_numbers])), (a0_now_numbers, .inl (cI, 352, .inl f_a0_now_numbers)), (a0_survey, .inr (4, [.ref a0_now])), (a0_past, .inr (0, [.ref a0_past_states, .int i_a0_past_oldest, .int i_a0_past_many])), (a0_text, .inr (2, [.ref a0_text_signs, .ref a0_text_numbers, .int i_a0_text_length, .int i_a0_text_at, .int i_a0_text_faultPosition, .int i_a0_text_faultReason, .int i_a0_text_faultCause]))]) dL_holds_135 pkX5_row gL_holds_X5_row (kkX5_row l D cI cR a0 a0_now a0_trial a0_survey a0_mending a0_past a0_text a0_now a0_now_numbers f_a0_now_numbers s8.2.2.2.2 0 v116 h117) ⟨rfl, rfl⟩ ⟨Nat.le_of_ble_eq_true rfl, Nat.le_of_ble_eq_true rfl⟩ rfl rfl (Nat.le_of_ble_eq_true rfl) 0 rfl rfl [0, 3, 1, 2] [4, 5] rfl rfl ⟨rfl, rfl, by decide⟩ ⟨Nat.zero_le _, Nat.zero_le _⟩ [2, 4, 5, 3, 0, 1] rfl rfl ?_
        obtain ⟨v119, h120, h121⟩ := bnd h118
        refine G1_calli X (As := [.int v116]) (rest := []) (wr := [(a0_survey, .inr (4, [.ref a0_now])), (a0_past, .inr (0, [.ref a0_past_states, .int i_a0_past_oldest, .int i_a0_past_many])), (a0_text, .inr (2, [.ref a0_text_signs, .ref a0_text_numbers, .int i_a0_text_length, .int i_a0_text_at, .int i_a0_text_faultPosition, .int i_a0_text_faultReason, .int i_a0_text_faultCause]))]) (ws' := [(a0, .inr (5, [.ref a0_now, .ref a0_trial, .ref a0_survey, .ref a0_mending, .ref a0_past, .ref a0_text])), (a0_now, .inr (3, [.ref a0_now_numbers])), (a0_now_numbers, .inl (cI, 352, .inl f_a0_now_numbers)), (a0_survey, .inr (4, [.ref a0_now])), (a0_past, .inr (0, [.ref a0_past_states, .int i_a0_past_oldest, .int i_a0_past_many])), (a0_text, .inr (2, [.ref a0_text_signs, .ref a0_text_numbers, .int i_a0_text_length, .int i_a0_text_at, .int i_a0_text_faultPosition, .int i_a0_text_faultReason, .int i_a0_text_faultCause]))]) dL_holds_138 pkX5_at gL_holds_X5_at (kkX5_at l D cI cR a0 a0_now a0_trial a0_survey a0_mending a0_past a0_text a0_now_numbers f_a0_now_numbers v116 v119 h120) ⟨rfl, rfl⟩ ⟨Nat.le_of_ble_eq_true rfl, Nat.le_of_ble_eq_true rfl⟩ rfl rfl (Nat.le_of_ble_eq_true rfl) 0 rfl rfl [0, 1, 2] [3, 4, 5] rfl rfl ⟨rfl, rfl, by decide⟩ ⟨Nat.zero_le _, Nat.zero_le _⟩ [3, 4, 5, 0, 1, 2] rfl rfl ?_
        refine G_iload X dL_holds_141 9 rfl ?_
        obtain ⟨j122, h123, h124⟩ := bnd h121
        have J125 : G p l e rmL_holds s m args below meth c D A 12 Q 0 0 280 [(0, .ref a0), (1, .int (s8.1 + v110)), (2, .int (s8.2.1 + v113)), (3, .int (s8.2.2.1 ||| (v101 <<< (s8.2.2.2.2 &&& 31)))), (4, .int v1), (6, .int s8.2.2.2.2)] [.int j122] [(a0, .inr (5, [.ref a0_now, .ref a0_trial, .ref a0_survey, .ref a0_mending, .ref a0_past, .ref a0_text])), (a0_now, .inr (3, [.ref a0_now_numbers])), (a0_now_numbers, .inl (cI, 352, .inl f_a0_now_numbers)), (a0_survey, .inr (4, [.ref a0_now])), (a0_past, .inr (0, [.ref a0_past_states, .int i_a0_past_oldest, .int i_a0_past_many])), (a0_text, .inr (2, [.ref a0_text_signs, .ref a0_text_numbers, .int i_a0_text_length, .int i_a0_text_at, .int i_a0_text_faultPosition, .int i_a0_text_faultReason, .int i_a0_text_faultCause]))] := by
          refine G_istore X (lv' := [(5, .int j122), (0, .ref a0), (1, .int (s8.1 + v110)), (2, .int (s8.2.1 + v113)), (3, .int (s8.2.2.1 ||| (v101 <<< (s8.2.2.2.2 &&& 31)))), (4, .int v1), (6, .int s8.2.2.2.2)]) dL_holds_280 (by decide) rfl ?_
          refine G_iconst X (v := 0) dL_holds_282 (by decide) ?_
          refine G_istore X (lv' := [(10, .int 0), (5, .int j122), (0, .ref a0), (1, .int (s8.1 + v110)), (2, .int (s8.2.1 + v113)), (3, .int (s8.2.2.1 ||| (v101 <<< (s8.2.2.2.2 &&& 31)))), (4, .int v1), (6, .int s8.2.2.2.2)]) dL_holds_283 (by decide) rfl ?_
          obtain ⟨j127, h128, h129⟩ := bnd h124
          have J134 : G p l e rmL_holds s m args below meth c D A 12 Q 0 0 429 [(0, .ref a0), (1, .int (s8.1 + v110)), (2, .int (s8.2.1 + v113)), (3, .int (s8.2.2.1 ||| (v101 <<< (s8.2.2.2.2 &&& 31)))), (4, .int v1), (5, .int j127), (6, .int s8.2.2.2.2)] [] [(a0, .inr (5, [.ref a0_now, .ref a0_trial, .ref a0_survey, .ref a0_mending, .ref a0_past, .ref a0_text])), (a0_now, .inr (3, [.ref a0_now_numbers])), (a0_now_numbers, .inl (cI, 352, .inl f_a0_now_numbers)), (a0_survey, .inr (4, [.ref a0_now])), (a0_past, .inr (0, [.ref a0_past_states, .int i_a0_past_oldest, .int i_a0_past_many])), (a0_text, .inr (2, [.ref a0_text_signs, .ref a0_text_numbers, .int i_a0_text_length, .int i_a0_text_at, .int i_a0_text_faultPosition, .int i_a0_text_faultReason, .int i_a0_text_faultCause]))] := by
            refine G_iinc X (v := (s8.2.2.2.2 + 1)) (lv' := [(6, .int (s8.2.2.2.2 + 1)), (0, .ref a0), (1, .int (s8.1 + v110)), (2, .int (s8.2.1 + v113)), (3, .int (s8.2.2.1 ||| (v101 <<< (s8.2.2.2.2 &&& 31)))), (4, .int v1), (5, .int j127)]) dL_holds_429 6 rfl rfl (by decide) rfl ?_
            refine G_goto X (tgt := 62) dL_holds_432 (by decide) ?_
            cases h129
            exact G_lv [1, 2, 3, 4, 5, 6, 0] rfl (h13 _ rfl)
          refine G_lv [2, 3, 4, 5, 6, 1, 7, 0] rfl ?_
          refine itr_ind (P := fun s126 : (Int32 × Int32) => G p l e rmL_holds s m args below meth c D A 12 Q 0 0 285 [(0, .ref a0), (1, .int (s8.1 + v110)), (2, .int (s8.2.1 + v113)), (3, .int (s8.2.2.1 ||| (v101 <<< (s8.2.2.2.2 &&& 31)))), (4, .int v1), (5, .int s126.1), (6, .int s8.2.2.2.2), (10, .int s126.2)] [] [(a0, .inr (5, [.ref a0_now, .ref a0_trial, .ref a0_survey, .ref a0_mending, .ref a0_past, .ref a0_text])), (a0_now, .inr (3, [.ref a0_now_numbers])), (a0_now_numbers, .inl (cI, 352, .inl f_a0_now_numbers)), (a0_survey, .inr (4, [.ref a0_now])), (a0_past, .inr (0, [.ref a0_past_states, .int i_a0_past_oldest, .int i_a0_past_many])), (a0_text, .inr (2, [.ref a0_text_signs, .ref a0_text_numbers, .int i_a0_text_length, .int i_a0_text_at, .int i_a0_text_faultPosition, .int i_a0_text_faultReason, .int i_a0_text_faultCause]))]) (fun s126 o133 h130 h131 h132 => ?_) FU _ h128
          unfold SL_holds_285 at h130
          refine G_iload X dL_holds_285 7 rfl ?_
          refine G_aload_n X dL_holds_287 0 rfl ?_
          refine G_iload X dL_holds_288 6 rfl ?_
          refine G_iconst X (v := 4) dL_holds_290 (by decide) ?_
          obtain ⟨v136, h137, h138⟩ := bnd h130
          refine G1_calli X (As := [.int s8.2.2.2.2, .int 4]) (rest := [.int s126.2]) (wr := [(a0_past, .inr (0, [.ref a0_past_states, .int i_a0_past_oldest, .int i_a0_past_many])), (a0_text, .inr (2, [.ref a0_text_signs, .ref a0_text_numbers, .int i_a0_text_length, .int i_a0_text_at, .int i_a0_text_faultPosition, .int i_a0_text_faultReason, .int i_a0_text_faultCause]))]) (ws' := [(a0, .inr (5, [.ref a0_now, .ref a0_trial, .ref a0_survey, .ref a0_mending, .ref a0_past, .ref a0_text])), (a0_now, .inr (3, [.ref a0_now_numbers])), (a0_now_numbers, .inl (cI, 352, .inl f_a0_now_numbers)), (a0_survey, .inr (4, [.ref a0_now])), (a0_past, .inr (0, [.ref a0_past_states, .int i_a0_past_oldest, .int i_a0_past_many])), (a0_text, .inr (2, [.ref a0_text_signs, .ref a0_text_numbers, .int i_a0_text_length, .int i_a0_text_at, .int i_a0_text_faultPosition, .int i_a0_text_faultReason, .int i_a0_text_faultCause]))]) dL_holds_291 pkX5_row gL_holds_X5_row (kkX5_row l D cI cR a0 a0_now a0_trial a0_survey a0_mending a0_past a0_text a0_now a0_now_numbers f_a0_now_numbers s8.2.2.2.2 4 v136 h137) ⟨rfl, rfl⟩ ⟨Nat.le_of_ble_eq_true rfl, Nat.le_of_ble_eq_true rfl⟩ rfl rfl (Nat.le_of_ble_eq_true rfl) 0 rfl rfl [0, 3, 1, 2] [4, 5] rfl rfl ⟨rfl, rfl, by decide⟩ ⟨Nat.zero_le _, Nat.zero_le _⟩ [2, 4, 5, 3, 0, 1] rfl rfl ?_
          refine G_icmp_ge X (tgt := 429) dL_holds_294 (by decide) (fun h139 => ?_) (fun h139 => ?_)
          · have h140 := ifp h139 h138
            cases h140
            have h141 := h132 _ rfl
            subst h141
            exact G_lv [0, 1, 2, 3, 4, 5, 6] rfl (J134)
          · have h142 := ifn h139 h138
            refine G_iload X dL_holds_297 5 rfl ?_
            refine G_if_eq X (tgt := 429) dL_holds_299 (by decide) (fun h143 => ?_) (fun h143 => ?_)
            · have h144 := ifp h143 h142
              cases h144
              have h145 := h132 _ rfl
              subst h145
              exact G_lv [0, 1, 2, 3, 4, 5, 6] rfl (J134)
            · have h146 := ifn h143 h142
              refine G_iconst X (v := 0) dL_holds_302 (by decide) ?_
              refine G_istore X (lv' := [(11, .int 0), (0, .ref a0), (1, .int (s8.1 + v110)), (2, .int (s8.2.1 + v113)), (3, .int (s8.2.2.1 ||| (v101 <<< (s8.2.2.2.2 &&& 31)))), (4, .int v1), (5, .int s126.1), (6, .int s8.2.2.2.2), (10, .int s126.2)]) dL_holds_303 (by decide) rfl ?_
              obtain ⟨j148, h149, h150⟩ := bnd h146
              have J155 : G p l e rmL_holds s m args below meth c D A 12 Q 0 0 372 [(0, .ref a0), (1, .int (s8.1 + v110)), (2, .int (s8.2.1 + v113)), (3, .int (s8.2.2.1 ||| (v101 <<< (s8.2.2.2.2 &&& 31)))), (4, .int v1), (5, .int j148), (6, .int s8.2.2.2.2), (10, .int s126.2)] [] [(a0, .inr (5, [.ref a0_now, .ref a0_trial, .ref a0_survey, .ref a0_mending, .ref a0_past, .ref a0_text])), (a0_now, .inr (3, [.ref a0_now_numbers])), (a0_now_numbers, .inl (cI, 352, .inl f_a0_now_numbers)), (a0_survey, .inr (4, [.ref a0_now])), (a0_past, .inr (0, [.ref a0_past_states, .int i_a0_past_oldest, .int i_a0_past_many])), (a0_text, .inr (2, [.ref a0_text_signs, .ref a0_text_numbers, .int i_a0_text_length, .int i_a0_text_at, .int i_a0_text_faultPosition, .int i_a0_text_faultReason, .int i_a0_text_faultCause]))] := by
                refine G_iload X dL_holds_372 5 rfl ?_
                refine G_if_eq X (tgt := 420) dL_holds_374 (by decide) (fun h157 => ?_) (fun h157 => ?_)
                · have h158 := ifp h157 h150
                  refine G_iconst X (v := 0) dL_holds_420 (by decide) ?_
                  refine G_istore X (lv' := [(5, .int 0), (0, .ref a0), (1, .int (s8.1 + v110)), (2, .int (s8.2.1 + v113)), (3, .int (s8.2.2.1 ||| (v101 <<< (s8.2.2.2.2 &&& 31)))), (4, .int v1), (6, .int s8.2.2.2.2), (10, .int s126.2)]) dL_holds_421 (by decide) rfl ?_
                  refine G_iinc X (v := (s126.2 + 1)) (lv' := [(10, .int (s126.2 + 1)), (5, .int 0), (0, .ref a0), (1, .int (s8.1 + v110)), (2, .int (s8.2.1 + v113)), (3, .int (s8.2.2.1 ||| (v101 <<< (s8.2.2.2.2 &&& 31)))), (4, .int v1), (6, .int s8.2.2.2.2)]) dL_holds_423 7 rfl rfl (by decide) rfl ?_
                  refine G_goto X (tgt := 285) dL_holds_426 (by decide) ?_
                  cases h158
                  exact G_lv [2, 3, 4, 5, 6, 1, 7, 0] rfl (h131 _ rfl)
                · have h159 := ifn h157 h150
                  refine G_aload_n X dL_holds_377 0 rfl ?_
                  refine G_iload X dL_holds_378 6 rfl ?_
                  refine G_iload X dL_holds_380 7 rfl ?_
                  refine G_iconst X (v := 3) dL_holds_382 (by decide) ?_
                  obtain ⟨v160, h161, h162⟩ := bnd h159
                  refine G1_calli X (As := [.int s8.2.2.2.2, .int s126.2, .int 3]) (rest := []) (wr := [(a0_past, .inr (0, [.ref a0_past_states, .int i_a0_past_oldest, .int i_a0_past_many])), (a0_text, .inr (2, [.ref a0_text_signs, .ref a0_text_numbers, .int i_a0_text_length, .int i_a0_text_at, .int i_a0_text_faultPosition, .int i_a0_text_faultReason, .int i_a0_text_faultCause]))]) (ws' := [(a0, .inr (5, [.ref a0_now, .ref a0_trial, .ref a0_survey, .ref a0_mending, .ref a0_past, .ref a0_text])), (a0_now, .inr (3, [.ref a0_now_numbers])), (a0_now_numbers, .inl (cI, 352, .inl f_a0_now_numbers)), (a0_survey, .inr (4, [.ref a0_now])), (a0_past, .inr (0, [.ref a0_past_states, .int i_a0_past_oldest, .int i_a0_past_many])), (a0_text, .inr (2, [.ref a0_text_signs, .ref a0_text_numbers, .int i_a0_text_length, .int i_a0_text_at, .int i_a0_text_faultPosition, .int i_a0_text_faultReason, .int i_a0_text_faultCause]))]) dL_holds_383 pkX5_margin gL_holds_X5_margin (kkX5_margin l D cI cR a0 a0_now a0_trial a0_survey a0_mending a0_past a0_text a0_now a0_now_numbers f_a0_now_numbers s8.2.2.2.2 s126.2 3 v160 h161) ⟨rfl, rfl⟩ ⟨Nat.le_of_ble_eq_true rfl, Nat.le_of_ble_eq_true rfl⟩ rfl rfl (Nat.le_of_ble_eq_true rfl) 0 rfl rfl [0, 3, 1, 2] [4, 5] rfl rfl ⟨rfl, rfl, by decide⟩ ⟨Nat.zero_le _, Nat.zero_le _⟩ [2, 4, 5, 3, 0, 1] rfl rfl ?_
                  refine G_if_lt X (tgt := 420) dL_holds_386 (by decide) (fun h163 => ?_) (fun h163 => ?_)
                  · have h164 := ifp h163 h162
                    refine G_iconst X (v := 0) dL_holds_420 (by decide) ?_
                    refine G_istore X (lv' := [(5, .int 0), (0, .ref a0), (1, .int (s8.1 + v110)), (2, .int (s8.2.1 + v113)), (3, .int (s8.2.2.1 ||| (v101 <<< (s8.2.2.2.2 &&& 31)))), (4, .int v1), (6, .int s8.2.2.2.2), (10, .int s126.2)]) dL_holds_421 (by decide) rfl ?_
                    refine G_iinc X (v := (s126.2 + 1)) (lv' := [(10, .int (s126.2 + 1)), (5, .int 0), (0, .ref a0), (1, .int (s8.1 + v110)), (2, .int (s8.2.1 + v113)), (3, .int (s8.2.2.1 ||| (v101 <<< (s8.2.2.2.2 &&& 31)))), (4, .int v1), (6, .int s8.2.2.2.2)]) dL_holds_423 7 rfl rfl (by decide) rfl ?_
                    refine G_goto X (tgt := 285) dL_holds_426 (by decide) ?_
                    cases h164
                    exact G_lv [2, 3, 4, 5, 6, 1, 7, 0] rfl (h131 _ rfl)
                  · have h165 := ifn h163 h162
                    refine G_aload_n X dL_holds_389 0 rfl ?_
                    refine G_iload X dL_holds_390 6 rfl ?_
                    refine G_iload X dL_holds_392 7 rfl ?_
                    refine G_iconst X (v := 2) dL_holds_394 (by decide) ?_
                    obtain ⟨v166, h167, h168⟩ := bnd h165
                    refine G1_calli X (As := [.int s8.2.2.2.2, .int s126.2, .int 2]) (rest := []) (wr := [(a0_past, .inr (0, [.ref a0_past_states, .int i_a0_past_oldest, .int i_a0_past_many])), (a0_text, .inr (2, [.ref a0_text_signs, .ref a0_text_numbers, .int i_a0_text_length, .int i_a0_text_at, .int i_a0_text_faultPosition, .int i_a0_text_faultReason, .int i_a0_text_faultCause]))]) (ws' := [(a0, .inr (5, [.ref a0_now, .ref a0_trial, .ref a0_survey, .ref a0_mending, .ref a0_past, .ref a0_text])), (a0_now, .inr (3, [.ref a0_now_numbers])), (a0_now_numbers, .inl (cI, 352, .inl f_a0_now_numbers)), (a0_survey, .inr (4, [.ref a0_now])), (a0_past, .inr (0, [.ref a0_past_states, .int i_a0_past_oldest, .int i_a0_past_many])), (a0_text, .inr (2, [.ref a0_text_signs, .ref a0_text_numbers, .int i_a0_text_length, .int i_a0_text_at, .int i_a0_text_faultPosition, .int i_a0_text_faultReason, .int i_a0_text_faultCause]))]) dL_holds_395 pkX5_margin gL_holds_X5_margin (kkX5_margin l D cI cR a0 a0_now a0_trial a0_survey a0_mending a0_past a0_text a0_now a0_now_numbers f_a0_now_numbers s8.2.2.2.2 s126.2 2 v166 h167) ⟨rfl, rfl⟩ ⟨Nat.le_of_ble_eq_true rfl, Nat.le_of_ble_eq_true rfl⟩ rfl rfl (Nat.le_of_ble_eq_true rfl) 0 rfl rfl [0, 3, 1, 2] [4, 5] rfl rfl ⟨rfl, rfl, by decide⟩ ⟨Nat.zero_le _, Nat.zero_le _⟩ [2, 4, 5, 3, 0, 1] rfl rfl ?_
                    refine G_if_lt X (tgt := 420) dL_holds_398 (by decide) (fun h169 => ?_) (fun h169 => ?_)
                    · have h170 := ifp h169 h168
                      refine G_iconst X (v := 0) dL_holds_420 (by decide) ?_
                      refine G_istore X (lv' := [(5, .int 0), (0, .ref a0), (1, .int (s8.1 + v110)), (2, .int (s8.2.1 + v113)), (3, .int (s8.2.2.1 ||| (v101 <<< (s8.2.2.2.2 &&& 31)))), (4, .int v1), (6, .int s8.2.2.2.2), (10, .int s126.2)]) dL_holds_421 (by decide) rfl ?_
                      refine G_iinc X (v := (s126.2 + 1)) (lv' := [(10, .int (s126.2 + 1)), (5, .int 0), (0, .ref a0), (1, .int (s8.1 + v110)), (2, .int (s8.2.1 + v113)), (3, .int (s8.2.2.1 ||| (v101 <<< (s8.2.2.2.2 &&& 31)))), (4, .int v1), (6, .int s8.2.2.2.2)]) dL_holds_423 7 rfl rfl (by decide) rfl ?_
                      refine G_goto X (tgt := 285) dL_holds_426 (by decide) ?_
                      cases h170
                      exact G_lv [2, 3, 4, 5, 6, 1, 7, 0] rfl (h131 _ rfl)
                    · have h171 := ifn h169 h168
                      refine G_aload_n X dL_holds_401 0 rfl ?_
                      refine G_iload X dL_holds_402 6 rfl ?_
                      refine G_iload X dL_holds_404 7 rfl ?_
                      refine G_iconst X (v := 2) dL_holds_406 (by decide) ?_
                      obtain ⟨v172, h173, h174⟩ := bnd h171
                      refine G1_calli X (As := [.int s8.2.2.2.2, .int s126.2, .int 2]) (rest := []) (wr := [(a0_past, .inr (0, [.ref a0_past_states, .int i_a0_past_oldest, .int i_a0_past_many])), (a0_text, .inr (2, [.ref a0_text_signs, .ref a0_text_numbers, .int i_a0_text_length, .int i_a0_text_at, .int i_a0_text_faultPosition, .int i_a0_text_faultReason, .int i_a0_text_faultCause]))]) (ws' := [(a0, .inr (5, [.ref a0_now, .ref a0_trial, .ref a0_survey, .ref a0_mending, .ref a0_past, .ref a0_text])), (a0_now, .inr (3, [.ref a0_now_numbers])), (a0_now_numbers, .inl (cI, 352, .inl f_a0_now_numbers)), (a0_survey, .inr (4, [.ref a0_now])), (a0_past, .inr (0, [.ref a0_past_states, .int i_a0_past_oldest, .int i_a0_past_many])), (a0_text, .inr (2, [.ref a0_text_signs, .ref a0_text_numbers, .int i_a0_text_length, .int i_a0_text_at, .int i_a0_text_faultPosition, .int i_a0_text_faultReason, .int i_a0_text_faultCause]))]) dL_holds_407 pkX5_margin gL_holds_X5_margin (kkX5_margin l D cI cR a0 a0_now a0_trial a0_survey a0_mending a0_past a0_text a0_now a0_now_numbers f_a0_now_numbers s8.2.2.2.2 s126.2 2 v172 h173) ⟨rfl, rfl⟩ ⟨Nat.le_of_ble_eq_true rfl, Nat.le_of_ble_eq_true rfl⟩ rfl rfl (Nat.le_of_ble_eq_true rfl) 0 rfl rfl [0, 3, 1, 2] [4, 5] rfl rfl ⟨rfl, rfl, by decide⟩ ⟨Nat.zero_le _, Nat.zero_le _⟩ [2, 4, 5, 3, 0, 1] rfl rfl ?_
                      refine G_sipush X (v := 999) dL_holds_410 (by decide) ?_
                      refine G_icmp_gt X (tgt := 420) dL_holds_413 (by decide) (fun h175 => ?_) (fun h175 => ?_)
                      · have h176 := ifp h175 h174
                        refine G_iconst X (v := 0) dL_holds_420 (by decide) ?_
                        refine G_istore X (lv' := [(5, .int 0), (0, .ref a0), (1, .int (s8.1 + v110)), (2, .int (s8.2.1 + v113)), (3, .int (s8.2.2.1 ||| (v101 <<< (s8.2.2.2.2 &&& 31)))), (4, .int v1), (6, .int s8.2.2.2.2), (10, .int s126.2)]) dL_holds_421 (by decide) rfl ?_
                        refine G_iinc X (v := (s126.2 + 1)) (lv' := [(10, .int (s126.2 + 1)), (5, .int 0), (0, .ref a0), (1, .int (s8.1 + v110)), (2, .int (s8.2.1 + v113)), (3, .int (s8.2.2.1 ||| (v101 <<< (s8.2.2.2.2 &&& 31)))), (4, .int v1), (6, .int s8.2.2.2.2)]) dL_holds_423 7 rfl rfl (by decide) rfl ?_
                        refine G_goto X (tgt := 285) dL_holds_426 (by decide) ?_
                        cases h176
                        exact G_lv [2, 3, 4, 5, 6, 1, 7, 0] rfl (h131 _ rfl)
                      · have h177 := ifn h175 h174
                        refine G_iconst X (v := 1) dL_holds_416 (by decide) ?_
                        refine G_goto X (tgt := 421) dL_holds_417 (by decide) ?_
                        refine G_istore X (lv' := [(5, .int 1), (0, .ref a0), (1, .int (s8.1 + v110)), (2, .int (s8.2.1 + v113)), (3, .int (s8.2.2.1 ||| (v101 <<< (s8.2.2.2.2 &&& 31)))), (4, .int v1), (6, .int s8.2.2.2.2), (10, .int s126.2)]) dL_holds_421 (by decide) rfl ?_
                        refine G_iinc X (v := (s126.2 + 1)) (lv' := [(10, .int (s126.2 + 1)), (5, .int 1), (0, .ref a0), (1, .int (s8.1 + v110)), (2, .int (s8.2.1 + v113)), (3, .int (s8.2.2.1 ||| (v101 <<< (s8.2.2.2.2 &&& 31)))), (4, .int v1), (6, .int s8.2.2.2.2)]) dL_holds_423 7 rfl rfl (by decide) rfl ?_
                        refine G_goto X (tgt := 285) dL_holds_426 (by decide) ?_
                        cases h177
                        exact G_lv [2, 3, 4, 5, 6, 1, 7, 0] rfl (h131 _ rfl)
              refine G_lv [1, 2, 3, 4, 5, 6, 7, 8, 0] rfl ?_
              refine itr_ind (P := fun s147 : (Int32 × Int32) => G p l e rmL_holds s m args below meth c D A 12 Q 0 0 305 [(0, .ref a0), (1, .int (s8.1 + v110)), (2, .int (s8.2.1 + v113)), (3, .int (s8.2.2.1 ||| (v101 <<< (s8.2.2.2.2 &&& 31)))), (4, .int v1), (5, .int s147.1), (6, .int s8.2.2.2.2), (10, .int s126.2), (11, .int s147.2)] [] [(a0, .inr (5, [.ref a0_now, .ref a0_trial, .ref a0_survey, .ref a0_mending, .ref a0_past, .ref a0_text])), (a0_now, .inr (3, [.ref a0_now_numbers])), (a0_now_numbers, .inl (cI, 352, .inl f_a0_now_numbers)), (a0_survey, .inr (4, [.ref a0_now])), (a0_past, .inr (0, [.ref a0_past_states, .int i_a0_past_oldest, .int i_a0_past_many])), (a0_text, .inr (2, [.ref a0_text_signs, .ref a0_text_numbers, .int i_a0_text_length, .int i_a0_text_at, .int i_a0_text_faultPosition, .int i_a0_text_faultReason, .int i_a0_text_faultCause]))]) (fun s147 o154 h151 h152 h153 => ?_) FU _ h149
              unfold SL_holds_305 at h151
              refine G_iload X dL_holds_305 8 rfl ?_
              refine G_iload X dL_holds_307 7 rfl ?_
              refine G_icmp_ge X (tgt := 372) dL_holds_309 (by decide) (fun h178 => ?_) (fun h178 => ?_)
              · have h179 := ifp h178 h151
                cases h179
                have h180 := h153 _ rfl
                subst h180
                exact G_lv [0, 1, 2, 3, 4, 5, 6, 7] rfl (J155)
              · have h181 := ifn h178 h151
                refine G_iload X dL_holds_312 5 rfl ?_
                refine G_if_eq X (tgt := 363) dL_holds_314 (by decide) (fun h182 => ?_) (fun h182 => ?_)
                · have h183 := ifp h182 h181
                  refine G_iconst X (v := 0) dL_holds_363 (by decide) ?_
                  refine G_istore X (lv' := [(5, .int 0), (0, .ref a0), (1, .int (s8.1 + v110)), (2, .int (s8.2.1 + v113)), (3, .int (s8.2.2.1 ||| (v101 <<< (s8.2.2.2.2 &&& 31)))), (4, .int v1), (6, .int s8.2.2.2.2), (10, .int s126.2), (11, .int s147.2)]) dL_holds_364 (by decide) rfl ?_
                  refine G_iinc X (v := (s147.2 + 1)) (lv' := [(11, .int (s147.2 + 1)), (5, .int 0), (0, .ref a0), (1, .int (s8.1 + v110)), (2, .int (s8.2.1 + v113)), (3, .int (s8.2.2.1 ||| (v101 <<< (s8.2.2.2.2 &&& 31)))), (4, .int v1), (6, .int s8.2.2.2.2), (10, .int s126.2)]) dL_holds_366 8 rfl rfl (by decide) rfl ?_
                  refine G_goto X (tgt := 305) dL_holds_369 (by decide) ?_
                  cases h183
                  exact G_lv [2, 3, 4, 5, 6, 1, 7, 8, 0] rfl (h152 _ rfl)
                · have h184 := ifn h182 h181
                  refine G_aload_n X dL_holds_317 0 rfl ?_
                  refine G_iload X dL_holds_318 6 rfl ?_
                  refine G_iload X dL_holds_320 7 rfl ?_
                  refine G_iconst X (v := 0) dL_holds_322 (by decide) ?_
                  obtain ⟨v185, h186, h187⟩ := bnd h184
                  refine G1_calli X (As := [.int s8.2.2.2.2, .int s126.2, .int 0]) (rest := []) (wr := [(a0_past, .inr (0, [.ref a0_past_states, .int i_a0_past_oldest, .int i_a0_past_many])), (a0_text, .inr (2, [.ref a0_text_signs, .ref a0_text_numbers, .int i_a0_text_length, .int i_a0_text_at, .int i_a0_text_faultPosition, .int i_a0_text_faultReason, .int i_a0_text_faultCause]))]) (ws' := [(a0, .inr (5, [.ref a0_now, .ref a0_trial, .ref a0_survey, .ref a0_mending, .ref a0_past, .ref a0_text])), (a0_now, .inr (3, [.ref a0_now_numbers])), (a0_now_numbers, .inl (cI, 352, .inl f_a0_now_numbers)), (a0_survey, .inr (4, [.ref a0_now])), (a0_past, .inr (0, [.ref a0_past_states, .int i_a0_past_oldest, .int i_a0_past_many])), (a0_text, .inr (2, [.ref a0_text_signs, .ref a0_text_numbers, .int i_a0_text_length, .int i_a0_text_at, .int i_a0_text_faultPosition, .int i_a0_text_faultReason, .int i_a0_text_faultCause]))]) dL_holds_323 pkX5_margin gL_holds_X5_margin (kkX5_margin l D cI cR a0 a0_now a0_trial a0_survey a0_mending a0_past a0_text a0_now a0_now_numbers f_a0_now_numbers s8.2.2.2.2 s126.2 0 v185 h186) ⟨rfl, rfl⟩ ⟨Nat.le_of_ble_eq_true rfl, Nat.le_of_ble_eq_true rfl⟩ rfl rfl (Nat.le_of_ble_eq_true rfl) 0 rfl rfl [0, 3, 1, 2] [4, 5] rfl rfl ⟨rfl, rfl, by decide⟩ ⟨Nat.zero_le _, Nat.zero_le _⟩ [2, 4, 5, 3, 0, 1] rfl rfl ?_
                  refine G_aload_n X dL_holds_326 0 rfl ?_
                  refine G_iload X dL_holds_327 6 rfl ?_
                  refine G_iload X dL_holds_329 8 rfl ?_
                  refine G_iconst X (v := 0) dL_holds_331 (by decide) ?_
                  obtain ⟨v188, h189, h190⟩ := bnd h187
                  refine G1_calli X (As := [.int s8.2.2.2.2, .int s147.2, .int 0]) (rest := [.int v185]) (wr := [(a0_past, .inr (0, [.ref a0_past_states, .int i_a0_past_oldest, .int i_a0_past_many])), (a0_text, .inr (2, [.ref a0_text_signs, .ref a0_text_numbers, .int i_a0_text_length, .int i_a0_text_at, .int i_a0_text_faultPosition, .int i_a0_text_faultReason, .int i_a0_text_faultCause]))]) (ws' := [(a0, .inr (5, [.ref a0_now, .ref a0_trial, .ref a0_survey, .ref a0_mending, .ref a0_past, .ref a0_text])), (a0_now, .inr (3, [.ref a0_now_numbers])), (a0_now_numbers, .inl (cI, 352, .inl f_a0_now_numbers)), (a0_survey, .inr (4, [.ref a0_now])), (a0_past, .inr (0, [.ref a0_past_states, .int i_a0_past_oldest, .int i_a0_past_many])), (a0_text, .inr (2, [.ref a0_text_signs, .ref a0_text_numbers, .int i_a0_text_length, .int i_a0_text_at, .int i_a0_text_faultPosition, .int i_a0_text_faultReason, .int i_a0_text_faultCause]))]) dL_holds_332 pkX5_margin gL_holds_X5_margin (kkX5_margin l D cI cR a0 a0_now a0_trial a0_survey a0_mending a0_past a0_text a0_now a0_now_numbers f_a0_now_numbers s8.2.2.2.2 s147.2 0 v188 h189) ⟨rfl, rfl⟩ ⟨Nat.le_of_ble_eq_true rfl, Nat.le_of_ble_eq_true rfl⟩ rfl rfl (Nat.le_of_ble_eq_true rfl) 0 rfl rfl [0, 3, 1, 2] [4, 5] rfl rfl ⟨rfl, rfl, by decide⟩ ⟨Nat.zero_le _, Nat.zero_le _⟩ [2, 4, 5, 3, 0, 1] rfl rfl ?_
                  refine G_icmp_ne X (tgt := 359) dL_holds_335 (by decide) (fun h191 => ?_) (fun h191 => ?_)
                  · have h192 := ifp h191 h190
                    refine G_aload_n X dL_holds_338 0 rfl ?_
                    refine G_iload X dL_holds_339 6 rfl ?_
                    refine G_iload X dL_holds_341 7 rfl ?_
                    refine G_iconst X (v := 1) dL_holds_343 (by decide) ?_
                    obtain ⟨v193, h194, h195⟩ := bnd h192
                    refine G1_calli X (As := [.int s8.2.2.2.2, .int s126.2, .int 1]) (rest := []) (wr := [(a0_past, .inr (0, [.ref a0_past_states, .int i_a0_past_oldest, .int i_a0_past_many])), (a0_text, .inr (2, [.ref a0_text_signs, .ref a0_text_numbers, .int i_a0_text_length, .int i_a0_text_at, .int i_a0_text_faultPosition, .int i_a0_text_faultReason, .int i_a0_text_faultCause]))]) (ws' := [(a0, .inr (5, [.ref a0_now, .ref a0_trial, .ref a0_survey, .ref a0_mending, .ref a0_past, .ref a0_text])), (a0_now, .inr (3, [.ref a0_now_numbers])), (a0_now_numbers, .inl (cI, 352, .inl f_a0_now_numbers)), (a0_survey, .inr (4, [.ref a0_now])), (a0_past, .inr (0, [.ref a0_past_states, .int i_a0_past_oldest, .int i_a0_past_many])), (a0_text, .inr (2, [.ref a0_text_signs, .ref a0_text_numbers, .int i_a0_text_length, .int i_a0_text_at, .int i_a0_text_faultPosition, .int i_a0_text_faultReason, .int i_a0_text_faultCause]))]) dL_holds_344 pkX5_margin gL_holds_X5_margin (kkX5_margin l D cI cR a0 a0_now a0_trial a0_survey a0_mending a0_past a0_text a0_now a0_now_numbers f_a0_now_numbers s8.2.2.2.2 s126.2 1 v193 h194) ⟨rfl, rfl⟩ ⟨Nat.le_of_ble_eq_true rfl, Nat.le_of_ble_eq_true rfl⟩ rfl rfl (Nat.le_of_ble_eq_true rfl) 0 rfl rfl [0, 3, 1, 2] [4, 5] rfl rfl ⟨rfl, rfl, by decide⟩ ⟨Nat.zero_le _, Nat.zero_le _⟩ [2, 4, 5, 3, 0, 1] rfl rfl ?_
                    refine G_aload_n X dL_holds_347 0 rfl ?_
                    refine G_iload X dL_holds_348 6 rfl ?_
                    refine G_iload X dL_holds_350 8 rfl ?_
                    refine G_iconst X (v := 1) dL_holds_352 (by decide) ?_
                    obtain ⟨v196, h197, h198⟩ := bnd h195
                    refine G1_calli X (As := [.int s8.2.2.2.2, .int s147.2, .int 1]) (rest := [.int v193]) (wr := [(a0_past, .inr (0, [.ref a0_past_states, .int i_a0_past_oldest, .int i_a0_past_many])), (a0_text, .inr (2, [.ref a0_text_signs, .ref a0_text_numbers, .int i_a0_text_length, .int i_a0_text_at, .int i_a0_text_faultPosition, .int i_a0_text_faultReason, .int i_a0_text_faultCause]))]) (ws' := [(a0, .inr (5, [.ref a0_now, .ref a0_trial, .ref a0_survey, .ref a0_mending, .ref a0_past, .ref a0_text])), (a0_now, .inr (3, [.ref a0_now_numbers])), (a0_now_numbers, .inl (cI, 352, .inl f_a0_now_numbers)), (a0_survey, .inr (4, [.ref a0_now])), (a0_past, .inr (0, [.ref a0_past_states, .int i_a0_past_oldest, .int i_a0_past_many])), (a0_text, .inr (2, [.ref a0_text_signs, .ref a0_text_numbers, .int i_a0_text_length, .int i_a0_text_at, .int i_a0_text_faultPosition, .int i_a0_text_faultReason, .int i_a0_text_faultCause]))]) dL_holds_353 pkX5_margin gL_holds_X5_margin (kkX5_margin l D cI cR a0 a0_now a0_trial a0_survey a0_mending a0_past a0_text a0_now a0_now_numbers f_a0_now_numbers s8.2.2.2.2 s147.2 1 v196 h197) ⟨rfl, rfl⟩ ⟨Nat.le_of_ble_eq_true rfl, Nat.le_of_ble_eq_true rfl⟩ rfl rfl (Nat.le_of_ble_eq_true rfl) 0 rfl rfl [0, 3, 1, 2] [4, 5] rfl rfl ⟨rfl, rfl, by decide⟩ ⟨Nat.zero_le _, Nat.zero_le _⟩ [2, 4, 5, 3, 0, 1] rfl rfl ?_
                    refine G_icmp_eq X (tgt := 363) dL_holds_356 (by decide) (fun h199 => ?_) (fun h199 => ?_)
                    · have h200 := ifp h199 h198
                      refine G_iconst X (v := 0) dL_holds_363 (by decide) ?_
                      refine G_istore X (lv' := [(5, .int 0), (0, .ref a0), (1, .int (s8.1 + v110)), (2, .int (s8.2.1 + v113)), (3, .int (s8.2.2.1 ||| (v101 <<< (s8.2.2.2.2 &&& 31)))), (4, .int v1), (6, .int s8.2.2.2.2), (10, .int s126.2), (11, .int s147.2)]) dL_holds_364 (by decide) rfl ?_
                      refine G_iinc X (v := (s147.2 + 1)) (lv' := [(11, .int (s147.2 + 1)), (5, .int 0), (0, .ref a0), (1, .int (s8.1 + v110)), (2, .int (s8.2.1 + v113)), (3, .int (s8.2.2.1 ||| (v101 <<< (s8.2.2.2.2 &&& 31)))), (4, .int v1), (6, .int s8.2.2.2.2), (10, .int s126.2)]) dL_holds_366 8 rfl rfl (by decide) rfl ?_
                      refine G_goto X (tgt := 305) dL_holds_369 (by decide) ?_
                      cases h200
                      exact G_lv [2, 3, 4, 5, 6, 1, 7, 8, 0] rfl (h152 _ rfl)
                    · have h201 := ifn h199 h198
                      refine G_iconst X (v := 1) dL_holds_359 (by decide) ?_
                      refine G_goto X (tgt := 364) dL_holds_360 (by decide) ?_
                      refine G_istore X (lv' := [(5, .int 1), (0, .ref a0), (1, .int (s8.1 + v110)), (2, .int (s8.2.1 + v113)), (3, .int (s8.2.2.1 ||| (v101 <<< (s8.2.2.2.2 &&& 31)))), (4, .int v1), (6, .int s8.2.2.2.2), (10, .int s126.2), (11, .int s147.2)]) dL_holds_364 (by decide) rfl ?_
                      refine G_iinc X (v := (s147.2 + 1)) (lv' := [(11, .int (s147.2 + 1)), (5, .int 1), (0, .ref a0), (1, .int (s8.1 + v110)), (2, .int (s8.2.1 + v113)), (3, .int (s8.2.2.1 ||| (v101 <<< (s8.2.2.2.2 &&& 31)))), (4, .int v1), (6, .int s8.2.2.2.2), (10, .int s126.2)]) dL_holds_366 8 rfl rfl (by decide) rfl ?_
                      refine G_goto X (tgt := 305) dL_holds_369 (by decide) ?_
                      cases h201
                      exact G_lv [2, 3, 4, 5, 6, 1, 7, 8, 0] rfl (h152 _ rfl)
                  · have h202 := ifn h191 h190
                    refine G_iconst X (v := 1) dL_holds_359 (by decide) ?_
                    refine G_goto X (tgt := 364) dL_holds_360 (by decide) ?_
                    refine G_istore X (lv' := [(5, .int 1), (0, .ref a0), (1, .int (s8.1 + v110)), (2, .int (s8.2.1 + v113)), (3, .int (s8.2.2.1 ||| (v101 <<< (s8.2.2.2.2 &&& 31)))), (4, .int v1), (6, .int s8.2.2.2.2), (10, .int s126.2), (11, .int s147.2)]) dL_holds_364 (by decide) rfl ?_
                    refine G_iinc X (v := (s147.2 + 1)) (lv' := [(11, .int (s147.2 + 1)), (5, .int 1), (0, .ref a0), (1, .int (s8.1 + v110)), (2, .int (s8.2.1 + v113)), (3, .int (s8.2.2.1 ||| (v101 <<< (s8.2.2.2.2 &&& 31)))), (4, .int v1), (6, .int s8.2.2.2.2), (10, .int s126.2)]) dL_holds_366 8 rfl rfl (by decide) rfl ?_
                    refine G_goto X (tgt := 305) dL_holds_369 (by decide) ?_
                    cases h202
                    exact G_lv [2, 3, 4, 5, 6, 1, 7, 8, 0] rfl (h152 _ rfl)
        refine G_icmp_ne X (tgt := 279) dL_holds_143 (by decide) (fun h203 => ?_) (fun h203 => ?_)
        · have h204 := ifp h203 h123
          refine G_aload_n X dL_holds_146 6 rfl ?_
          refine G_iload X dL_holds_147 4 rfl ?_
          refine G_iconst X (v := 3) dL_holds_149 (by decide) ?_
          obtain ⟨v205, h206, h207⟩ := bnd h204
          refine G1_calli X (As := [.int v104, .int 3]) (rest := []) (wr := [(a0_past, .inr (0, [.ref a0_past_states, .int i_a0_past_oldest, .int i_a0_past_many])), (a0_text, .inr (2, [.ref a0_text_signs, .ref a0_text_numbers, .int i_a0_text_length, .int i_a0_text_at, .int i_a0_text_faultPosition, .int i_a0_text_faultReason, .int i_a0_text_faultCause]))]) (ws' := [(a0, .inr (5, [.ref a0_now, .ref a0_trial, .ref a0_survey, .ref a0_mending, .ref a0_past, .ref a0_text])), (a0_now, .inr (3, [.ref a0_now_numbers])), (a0_now_numbers, .inl (cI, 352, .inl f_a0_now_numbers)), (a0_survey, .inr (4, [.ref a0_now])), (a0_past, .inr (0, [.ref a0_past_states, .int i_a0_past_oldest, .int i_a0_past_many])), (a0_text, .inr (2, [.ref a0_text_signs, .ref a0_text_numbers, .int i_a0_text_length, .int i_a0_text_at, .int i_a0_text_faultPosition, .int i_a0_text_faultReason, .int i_a0_text_faultCause]))]) dL_holds_150 pkX5_row gL_holds_X5_row (kkX5_row l D cI cR a0 a0_now a0_trial a0_survey a0_mending a0_past a0_text a0_now a0_now_numbers f_a0_now_numbers v104 3 v205 h206) ⟨rfl, rfl⟩ ⟨Nat.le_of_ble_eq_true rfl, Nat.le_of_ble_eq_true rfl⟩ rfl rfl (Nat.le_of_ble_eq_true rfl) 0 rfl rfl [0, 3, 1, 2] [4, 5] rfl rfl ⟨rfl, rfl, by decide⟩ ⟨Nat.zero_le _, Nat.zero_le _⟩ [2, 4, 5, 3, 0, 1] rfl rfl ?_
          refine G_iload X dL_holds_153 9 rfl ?_
          refine G_icmp_ne X (tgt := 279) dL_holds_155 (by decide) (fun h208 => ?_) (fun h208 => ?_)
          · have h209 := ifp h208 h207
            refine G_aload_n X dL_holds_158 6 rfl ?_
            refine G_iload X dL_holds_159 3 rfl ?_
            refine G_iconst X (v := 2) dL_holds_161 (by decide) ?_
            obtain ⟨v210, h211, h212⟩ := bnd h209
            refine G1_calli X (As := [.int v107, .int 2]) (rest := []) (wr := [(a0_past, .inr (0, [.ref a0_past_states, .int i_a0_past_oldest, .int i_a0_past_many])), (a0_text, .inr (2, [.ref a0_text_signs, .ref a0_text_numbers, .int i_a0_text_length, .int i_a0_text_at, .int i_a0_text_faultPosition, .int i_a0_text_faultReason, .int i_a0_text_faultCause]))]) (ws' := [(a0, .inr (5, [.ref a0_now, .ref a0_trial, .ref a0_survey, .ref a0_mending, .ref a0_past, .ref a0_text])), (a0_now, .inr (3, [.ref a0_now_numbers])), (a0_now_numbers, .inl (cI, 352, .inl f_a0_now_numbers)), (a0_survey, .inr (4, [.ref a0_now])), (a0_past, .inr (0, [.ref a0_past_states, .int i_a0_past_oldest, .int i_a0_past_many])), (a0_text, .inr (2, [.ref a0_text_signs, .ref a0_text_numbers, .int i_a0_text_length, .int i_a0_text_at, .int i_a0_text_faultPosition, .int i_a0_text_faultReason, .int i_a0_text_faultCause]))]) dL_holds_162 pkX5_row gL_holds_X5_row (kkX5_row l D cI cR a0 a0_now a0_trial a0_survey a0_mending a0_past a0_text a0_now a0_now_numbers f_a0_now_numbers v107 2 v210 h211) ⟨rfl, rfl⟩ ⟨Nat.le_of_ble_eq_true rfl, Nat.le_of_ble_eq_true rfl⟩ rfl rfl (Nat.le_of_ble_eq_true rfl) 0 rfl rfl [0, 3, 1, 2] [4, 5] rfl rfl ⟨rfl, rfl, by decide⟩ ⟨Nat.zero_le _, Nat.zero_le _⟩ [2, 4, 5, 3, 0, 1] rfl rfl ?_
            refine G_iload X dL_holds_165 9 rfl ?_
            refine G_icmp_ne X (tgt := 279) dL_holds_167 (by decide) (fun h213 => ?_) (fun h213 => ?_)
            · have h214 := ifp h213 h212
              refine G_iload X dL_holds_170 4 rfl ?_
              refine G_iload X dL_holds_172 3 rfl ?_
              refine G_icmp_eq X (tgt := 279) dL_holds_174 (by decide) (fun h215 => ?_) (fun h215 => ?_)
              · have h216 := ifp h215 h214
                refine G_iconst X (v := 0) dL_holds_279 (by decide) ?_
                cases h216
                exact G_lv [6, 2, 1, 0, 7, 9] rfl (J125)
              · have h217 := ifn h215 h214
                refine G_iload X dL_holds_177 5 rfl ?_
                refine G_iconst X (v := 1) dL_holds_179 (by decide) ?_
                refine G_icmp_ne X (tgt := 207) dL_holds_180 (by decide) (fun h218 => ?_) (fun h218 => ?_)
                · have h219 := ifp h218 h217
                  refine G_aload_n X dL_holds_183 6 rfl ?_
                  refine G_iload X dL_holds_184 9 rfl ?_
                  refine G_iconst X (v := 5) dL_holds_186 (by decide) ?_
                  obtain ⟨v220, h221, h222⟩ := bnd h219
                  refine G1_calli X (As := [.int s8.2.2.2.2, .int 5]) (rest := []) (wr := [(a0_past, .inr (0, [.ref a0_past_states, .int i_a0_past_oldest, .int i_a0_past_many])), (a0_text, .inr (2, [.ref a0_text_signs, .ref a0_text_numbers, .int i_a0_text_length, .int i_a0_text_at, .int i_a0_text_faultPosition, .int i_a0_text_faultReason, .int i_a0_text_faultCause]))]) (ws' := [(a0, .inr (5, [.ref a0_now, .ref a0_trial, .ref a0_survey, .ref a0_mending, .ref a0_past, .ref a0_text])), (a0_now, .inr (3, [.ref a0_now_numbers])), (a0_now_numbers, .inl (cI, 352, .inl f_a0_now_numbers)), (a0_survey, .inr (4, [.ref a0_now])), (a0_past, .inr (0, [.ref a0_past_states, .int i_a0_past_oldest, .int i_a0_past_many])), (a0_text, .inr (2, [.ref a0_text_signs, .ref a0_text_numbers, .int i_a0_text_length, .int i_a0_text_at, .int i_a0_text_faultPosition, .int i_a0_text_faultReason, .int i_a0_text_faultCause]))]) dL_holds_187 pkX5_row gL_holds_X5_row (kkX5_row l D cI cR a0 a0_now a0_trial a0_survey a0_mending a0_past a0_text a0_now a0_now_numbers f_a0_now_numbers s8.2.2.2.2 5 v220 h221) ⟨rfl, rfl⟩ ⟨Nat.le_of_ble_eq_true rfl, Nat.le_of_ble_eq_true rfl⟩ rfl rfl (Nat.le_of_ble_eq_true rfl) 0 rfl rfl [0, 3, 1, 2] [4, 5] rfl rfl ⟨rfl, rfl, by decide⟩ ⟨Nat.zero_le _, Nat.zero_le _⟩ [2, 4, 5, 3, 0, 1] rfl rfl ?_
                  refine G_aload_n X dL_holds_190 6 rfl ?_
                  refine G_iload X dL_holds_191 9 rfl ?_
                  refine G_bipush X (v := 7) dL_holds_193 (by decide) ?_
                  obtain ⟨v223, h224, h225⟩ := bnd h222
                  refine G1_calli X (As := [.int s8.2.2.2.2, .int 7]) (rest := [.int v220]) (wr := [(a0_past, .inr (0, [.ref a0_past_states, .int i_a0_past_oldest, .int i_a0_past_many])), (a0_text, .inr (2, [.ref a0_text_signs, .ref a0_text_numbers, .int i_a0_text_length, .int i_a0_text_at, .int i_a0_text_faultPosition, .int i_a0_text_faultReason, .int i_a0_text_faultCause]))]) (ws' := [(a0, .inr (5, [.ref a0_now, .ref a0_trial, .ref a0_survey, .ref a0_mending, .ref a0_past, .ref a0_text])), (a0_now, .inr (3, [.ref a0_now_numbers])), (a0_now_numbers, .inl (cI, 352, .inl f_a0_now_numbers)), (a0_survey, .inr (4, [.ref a0_now])), (a0_past, .inr (0, [.ref a0_past_states, .int i_a0_past_oldest, .int i_a0_past_many])), (a0_text, .inr (2, [.ref a0_text_signs, .ref a0_text_numbers, .int i_a0_text_length, .int i_a0_text_at, .int i_a0_text_faultPosition, .int i_a0_text_faultReason, .int i_a0_text_faultCause]))]) dL_holds_195 pkX5_row gL_holds_X5_row (kkX5_row l D cI cR a0 a0_now a0_trial a0_survey a0_mending a0_past a0_text a0_now a0_now_numbers f_a0_now_numbers s8.2.2.2.2 7 v223 h224) ⟨rfl, rfl⟩ ⟨Nat.le_of_ble_eq_true rfl, Nat.le_of_ble_eq_true rfl⟩ rfl rfl (Nat.le_of_ble_eq_true rfl) 0 rfl rfl [0, 3, 1, 2] [4, 5] rfl rfl ⟨rfl, rfl, by decide⟩ ⟨Nat.zero_le _, Nat.zero_le _⟩ [2, 4, 5, 3, 0, 1] rfl rfl ?_
                  refine G_iadd X dL_holds_198 ?_
                  refine G_bipush X (v := 8) dL_holds_199 (by decide) ?_
                  refine G_icmp_gt X (tgt := 279) dL_holds_201 (by decide) (fun h226 => ?_) (fun h226 => ?_)
                  · have h227 := ifp h226 h225
                    refine G_iconst X (v := 0) dL_holds_279 (by decide) ?_
                    cases h227
                    exact G_lv [6, 2, 1, 0, 7, 9] rfl (J125)
                  · have h228 := ifn h226 h225
                    refine G_goto X (tgt := 240) dL_holds_204 (by decide) ?_
                    refine G_aload_n X dL_holds_240 6 rfl ?_
                    refine G_iload X dL_holds_241 9 rfl ?_
                    refine G_iconst X (v := 4) dL_holds_243 (by decide) ?_
                    obtain ⟨v229, h230, h231⟩ := bnd h228
                    refine G1_calli X (As := [.int s8.2.2.2.2, .int 4]) (rest := []) (wr := [(a0_past, .inr (0, [.ref a0_past_states, .int i_a0_past_oldest, .int i_a0_past_many])), (a0_text, .inr (2, [.ref a0_text_signs, .ref a0_text_numbers, .int i_a0_text_length, .int i_a0_text_at, .int i_a0_text_faultPosition, .int i_a0_text_faultReason, .int i_a0_text_faultCause]))]) (ws' := [(a0, .inr (5, [.ref a0_now, .ref a0_trial, .ref a0_survey, .ref a0_mending, .ref a0_past, .ref a0_text])), (a0_now, .inr (3, [.ref a0_now_numbers])), (a0_now_numbers, .inl (cI, 352, .inl f_a0_now_numbers)), (a0_survey, .inr (4, [.ref a0_now])), (a0_past, .inr (0, [.ref a0_past_states, .int i_a0_past_oldest, .int i_a0_past_many])), (a0_text, .inr (2, [.ref a0_text_signs, .ref a0_text_numbers, .int i_a0_text_length, .int i_a0_text_at, .int i_a0_text_faultPosition, .int i_a0_text_faultReason, .int i_a0_text_faultCause]))]) dL_holds_244 pkX5_row gL_holds_X5_row (kkX5_row l D cI cR a0 a0_now a0_trial a0_survey a0_mending a0_past a0_text a0_now a0_now_numbers f_a0_now_numbers s8.2.2.2.2 4 v229 h230) ⟨rfl, rfl⟩ ⟨Nat.le_of_ble_eq_true rfl, Nat.le_of_ble_eq_true rfl⟩ rfl rfl (Nat.le_of_ble_eq_true rfl) 0 rfl rfl [0, 3, 1, 2] [4, 5] rfl rfl ⟨rfl, rfl, by decide⟩ ⟨Nat.zero_le _, Nat.zero_le _⟩ [2, 4, 5, 3, 0, 1] rfl rfl ?_
                    refine G_aload_n X dL_holds_247 6 rfl ?_
                    refine G_bipush X (v := 20) dL_holds_248 (by decide) ?_
                    obtain ⟨v232, h233, h234⟩ := bnd h231
                    refine G1_calli X (As := [.int 20]) (rest := [.int v229]) (wr := []) (ws' := [(a0, .inr (5, [.ref a0_now, .ref a0_trial, .ref a0_survey, .ref a0_mending, .ref a0_past, .ref a0_text])), (a0_now, .inr (3, [.ref a0_now_numbers])), (a0_now_numbers, .inl (cI, 352, .inl f_a0_now_numbers)), (a0_survey, .inr (4, [.ref a0_now])), (a0_past, .inr (0, [.ref a0_past_states, .int i_a0_past_oldest, .int i_a0_past_many])), (a0_text, .inr (2, [.ref a0_text_signs, .ref a0_text_numbers, .int i_a0_text_length, .int i_a0_text_at, .int i_a0_text_faultPosition, .int i_a0_text_faultReason, .int i_a0_text_faultCause]))]) dL_holds_250 pkX5_count gL_holds_X5_count (kkX5_count l D cI cR a0 a0_now a0_trial a0_survey a0_mending a0_past a0_text a0_now a0_now_numbers a0_past_states a0_text_signs a0_text_numbers f_a0_now_numbers i_a0_past_oldest i_a0_past_many i_a0_text_length i_a0_text_at i_a0_text_faultPosition i_a0_text_faultReason i_a0_text_faultCause 20 v232 h233) ⟨rfl, rfl⟩ ⟨Nat.le_of_ble_eq_true rfl, Nat.le_of_ble_eq_true rfl⟩ rfl rfl (Nat.le_of_ble_eq_true rfl) 0 rfl rfl [0, 3, 1, 2, 4, 5] [] rfl rfl ⟨rfl, rfl, by decide⟩ ⟨Nat.zero_le _, Nat.zero_le _⟩ [0, 2, 3, 1, 4, 5] rfl rfl ?_
                    refine G_icmp_gt X (tgt := 279) dL_holds_253 (by decide) (fun h235 => ?_) (fun h235 => ?_)
                    · have h236 := ifp h235 h234
                      refine G_iconst X (v := 0) dL_holds_279 (by decide) ?_
                      cases h236
                      exact G_lv [6, 2, 1, 0, 7, 9] rfl (J125)
                    · have h237 := ifn h235 h234
                      refine G_aload_n X dL_holds_256 6 rfl ?_
                      refine G_iload X dL_holds_257 9 rfl ?_
                      refine G_aload_n X dL_holds_259 6 rfl ?_
                      refine G_iload X dL_holds_260 9 rfl ?_
                      refine G_iconst X (v := 4) dL_holds_262 (by decide) ?_
                      obtain ⟨v238, h239, h240⟩ := bnd h237
                      refine G1_calli X (As := [.int s8.2.2.2.2, .int 4]) (rest := [.int s8.2.2.2.2, .ref a0]) (wr := [(a0_past, .inr (0, [.ref a0_past_states, .int i_a0_past_oldest, .int i_a0_past_many])), (a0_text, .inr (2, [.ref a0_text_signs, .ref a0_text_numbers, .int i_a0_text_length, .int i_a0_text_at, .int i_a0_text_faultPosition, .int i_a0_text_faultReason, .int i_a0_text_faultCause]))]) (ws' := [(a0, .inr (5, [.ref a0_now, .ref a0_trial, .ref a0_survey, .ref a0_mending, .ref a0_past, .ref a0_text])), (a0_now, .inr (3, [.ref a0_now_numbers])), (a0_now_numbers, .inl (cI, 352, .inl f_a0_now_numbers)), (a0_survey, .inr (4, [.ref a0_now])), (a0_past, .inr (0, [.ref a0_past_states, .int i_a0_past_oldest, .int i_a0_past_many])), (a0_text, .inr (2, [.ref a0_text_signs, .ref a0_text_numbers, .int i_a0_text_length, .int i_a0_text_at, .int i_a0_text_faultPosition, .int i_a0_text_faultReason, .int i_a0_text_faultCause]))]) dL_holds_263 pkX5_row gL_holds_X5_row (kkX5_row l D cI cR a0 a0_now a0_trial a0_survey a0_mending a0_past a0_text a0_now a0_now_numbers f_a0_now_numbers s8.2.2.2.2 4 v238 h239) ⟨rfl, rfl⟩ ⟨Nat.le_of_ble_eq_true rfl, Nat.le_of_ble_eq_true rfl⟩ rfl rfl (Nat.le_of_ble_eq_true rfl) 0 rfl rfl [0, 3, 1, 2] [4, 5] rfl rfl ⟨rfl, rfl, by decide⟩ ⟨Nat.zero_le _, Nat.zero_le _⟩ [2, 4, 5, 3, 0, 1] rfl rfl ?_
                      refine G_iconst X (v := 0) dL_holds_266 (by decide) ?_
                      obtain ⟨v241, h242, h243⟩ := bnd h240
                      refine G1_calli X (As := [.int s8.2.2.2.2, .int v238, .int 0]) (rest := []) (wr := [(a0_past, .inr (0, [.ref a0_past_states, .int i_a0_past_oldest, .int i_a0_past_many])), (a0_text, .inr (2, [.ref a0_text_signs, .ref a0_text_numbers, .int i_a0_text_length, .int i_a0_text_at, .int i_a0_text_faultPosition, .int i_a0_text_faultReason, .int i_a0_text_faultCause]))]) (ws' := [(a0, .inr (5, [.ref a0_now, .ref a0_trial, .ref a0_survey, .ref a0_mending, .ref a0_past, .ref a0_text])), (a0_now, .inr (3, [.ref a0_now_numbers])), (a0_now_numbers, .inl (cI, 352, .inl f_a0_now_numbers)), (a0_survey, .inr (4, [.ref a0_now])), (a0_past, .inr (0, [.ref a0_past_states, .int i_a0_past_oldest, .int i_a0_past_many])), (a0_text, .inr (2, [.ref a0_text_signs, .ref a0_text_numbers, .int i_a0_text_length, .int i_a0_text_at, .int i_a0_text_faultPosition, .int i_a0_text_faultReason, .int i_a0_text_faultCause]))]) dL_holds_267 pkX5_margin gL_holds_X5_margin (kkX5_margin l D cI cR a0 a0_now a0_trial a0_survey a0_mending a0_past a0_text a0_now a0_now_numbers f_a0_now_numbers s8.2.2.2.2 v238 0 v241 h242) ⟨rfl, rfl⟩ ⟨Nat.le_of_ble_eq_true rfl, Nat.le_of_ble_eq_true rfl⟩ rfl rfl (Nat.le_of_ble_eq_true rfl) 0 rfl rfl [0, 3, 1, 2] [4, 5] rfl rfl ⟨rfl, rfl, by decide⟩ ⟨Nat.zero_le _, Nat.zero_le _⟩ [2, 4, 5, 3, 0, 1] rfl rfl ?_
                      refine G_ldc X dL_holds_270 flL_holds_38 ?_
                      refine G_icmp_ne X (tgt := 279) dL_holds_272 (by decide) (fun h244 => ?_) (fun h244 => ?_)
                      · have h245 := ifp h244 h243
                        refine G_iconst X (v := 1) dL_holds_275 (by decide) ?_
                        refine G_goto X (tgt := 280) dL_holds_276 (by decide) ?_
                        cases h245
                        exact G_lv [6, 2, 1, 0, 7, 9] rfl (J125)
                      · have h246 := ifn h244 h243
                        refine G_iconst X (v := 0) dL_holds_279 (by decide) ?_
                        cases h246
                        exact G_lv [6, 2, 1, 0, 7, 9] rfl (J125)
                · have h247 := ifn h218 h217
                  refine G_aload_n X dL_holds_207 6 rfl ?_
                  refine G_iload X dL_holds_208 9 rfl ?_
                  refine G_iconst X (v := 4) dL_holds_210 (by decide) ?_
                  obtain ⟨v248, h249, h250⟩ := bnd h247
                  refine G1_calli X (As := [.int s8.2.2.2.2, .int 4]) (rest := []) (wr := [(a0_past, .inr (0, [.ref a0_past_states, .int i_a0_past_oldest, .int i_a0_past_many])), (a0_text, .inr (2, [.ref a0_text_signs, .ref a0_text_numbers, .int i_a0_text_length, .int i_a0_text_at, .int i_a0_text_faultPosition, .int i_a0_text_faultReason, .int i_a0_text_faultCause]))]) (ws' := [(a0, .inr (5, [.ref a0_now, .ref a0_trial, .ref a0_survey, .ref a0_mending, .ref a0_past, .ref a0_text])), (a0_now, .inr (3, [.ref a0_now_numbers])), (a0_now_numbers, .inl (cI, 352, .inl f_a0_now_numbers)), (a0_survey, .inr (4, [.ref a0_now])), (a0_past, .inr (0, [.ref a0_past_states, .int i_a0_past_oldest, .int i_a0_past_many])), (a0_text, .inr (2, [.ref a0_text_signs, .ref a0_text_numbers, .int i_a0_text_length, .int i_a0_text_at, .int i_a0_text_faultPosition, .int i_a0_text_faultReason, .int i_a0_text_faultCause]))]) dL_holds_211 pkX5_row gL_holds_X5_row (kkX5_row l D cI cR a0 a0_now a0_trial a0_survey a0_mending a0_past a0_text a0_now a0_now_numbers f_a0_now_numbers s8.2.2.2.2 4 v248 h249) ⟨rfl, rfl⟩ ⟨Nat.le_of_ble_eq_true rfl, Nat.le_of_ble_eq_true rfl⟩ rfl rfl (Nat.le_of_ble_eq_true rfl) 0 rfl rfl [0, 3, 1, 2] [4, 5] rfl rfl ⟨rfl, rfl, by decide⟩ ⟨Nat.zero_le _, Nat.zero_le _⟩ [2, 4, 5, 3, 0, 1] rfl rfl ?_
                  refine G_if_ne X (tgt := 279) dL_holds_214 (by decide) (fun h251 => ?_) (fun h251 => ?_)
                  · have h252 := ifp h251 h250
                    refine G_aload_n X dL_holds_217 6 rfl ?_
                    refine G_iload X dL_holds_218 9 rfl ?_
                    refine G_iconst X (v := 5) dL_holds_220 (by decide) ?_
                    obtain ⟨v253, h254, h255⟩ := bnd h252
                    refine G1_calli X (As := [.int s8.2.2.2.2, .int 5]) (rest := []) (wr := [(a0_past, .inr (0, [.ref a0_past_states, .int i_a0_past_oldest, .int i_a0_past_many])), (a0_text, .inr (2, [.ref a0_text_signs, .ref a0_text_numbers, .int i_a0_text_length, .int i_a0_text_at, .int i_a0_text_faultPosition, .int i_a0_text_faultReason, .int i_a0_text_faultCause]))]) (ws' := [(a0, .inr (5, [.ref a0_now, .ref a0_trial, .ref a0_survey, .ref a0_mending, .ref a0_past, .ref a0_text])), (a0_now, .inr (3, [.ref a0_now_numbers])), (a0_now_numbers, .inl (cI, 352, .inl f_a0_now_numbers)), (a0_survey, .inr (4, [.ref a0_now])), (a0_past, .inr (0, [.ref a0_past_states, .int i_a0_past_oldest, .int i_a0_past_many])), (a0_text, .inr (2, [.ref a0_text_signs, .ref a0_text_numbers, .int i_a0_text_length, .int i_a0_text_at, .int i_a0_text_faultPosition, .int i_a0_text_faultReason, .int i_a0_text_faultCause]))]) dL_holds_221 pkX5_row gL_holds_X5_row (kkX5_row l D cI cR a0 a0_now a0_trial a0_survey a0_mending a0_past a0_text a0_now a0_now_numbers f_a0_now_numbers s8.2.2.2.2 5 v253 h254) ⟨rfl, rfl⟩ ⟨Nat.le_of_ble_eq_true rfl, Nat.le_of_ble_eq_true rfl⟩ rfl rfl (Nat.le_of_ble_eq_true rfl) 0 rfl rfl [0, 3, 1, 2] [4, 5] rfl rfl ⟨rfl, rfl, by decide⟩ ⟨Nat.zero_le _, Nat.zero_le _⟩ [2, 4, 5, 3, 0, 1] rfl rfl ?_
                    refine G_bipush X (v := 8) dL_holds_224 (by decide) ?_
                    refine G_icmp_ne X (tgt := 279) dL_holds_226 (by decide) (fun h256 => ?_) (fun h256 => ?_)
                    · have h257 := ifp h256 h255
                      refine G_aload_n X dL_holds_229 6 rfl ?_
                      refine G_iload X dL_holds_230 9 rfl ?_
                      refine G_bipush X (v := 6) dL_holds_232 (by decide) ?_
                      obtain ⟨v258, h259, h260⟩ := bnd h257
                      refine G1_calli X (As := [.int s8.2.2.2.2, .int 6]) (rest := []) (wr := [(a0_past, .inr (0, [.ref a0_past_states, .int i_a0_past_oldest, .int i_a0_past_many])), (a0_text, .inr (2, [.ref a0_text_signs, .ref a0_text_numbers, .int i_a0_text_length, .int i_a0_text_at, .int i_a0_text_faultPosition, .int i_a0_text_faultReason, .int i_a0_text_faultCause]))]) (ws' := [(a0, .inr (5, [.ref a0_now, .ref a0_trial, .ref a0_survey, .ref a0_mending, .ref a0_past, .ref a0_text])), (a0_now, .inr (3, [.ref a0_now_numbers])), (a0_now_numbers, .inl (cI, 352, .inl f_a0_now_numbers)), (a0_survey, .inr (4, [.ref a0_now])), (a0_past, .inr (0, [.ref a0_past_states, .int i_a0_past_oldest, .int i_a0_past_many])), (a0_text, .inr (2, [.ref a0_text_signs, .ref a0_text_numbers, .int i_a0_text_length, .int i_a0_text_at, .int i_a0_text_faultPosition, .int i_a0_text_faultReason, .int i_a0_text_faultCause]))]) dL_holds_234 pkX5_row gL_holds_X5_row (kkX5_row l D cI cR a0 a0_now a0_trial a0_survey a0_mending a0_past a0_text a0_now a0_now_numbers f_a0_now_numbers s8.2.2.2.2 6 v258 h259) ⟨rfl, rfl⟩ ⟨Nat.le_of_ble_eq_true rfl, Nat.le_of_ble_eq_true rfl⟩ rfl rfl (Nat.le_of_ble_eq_true rfl) 0 rfl rfl [0, 3, 1, 2] [4, 5] rfl rfl ⟨rfl, rfl, by decide⟩ ⟨Nat.zero_le _, Nat.zero_le _⟩ [2, 4, 5, 3, 0, 1] rfl rfl ?_
                      refine G_if_ne X (tgt := 279) dL_holds_237 (by decide) (fun h261 => ?_) (fun h261 => ?_)
                      · have h262 := ifp h261 h260
                        refine G_aload_n X dL_holds_240 6 rfl ?_
                        refine G_iload X dL_holds_241 9 rfl ?_
                        refine G_iconst X (v := 4) dL_holds_243 (by decide) ?_
                        obtain ⟨v263, h264, h265⟩ := bnd h262
                        refine G1_calli X (As := [.int s8.2.2.2.2, .int 4]) (rest := []) (wr := [(a0_past, .inr (0, [.ref a0_past_states, .int i_a0_past_oldest, .int i_a0_past_many])), (a0_text, .inr (2, [.ref a0_text_signs, .ref a0_text_numbers, .int i_a0_text_length, .int i_a0_text_at, .int i_a0_text_faultPosition, .int i_a0_text_faultReason, .int i_a0_text_faultCause]))]) (ws' := [(a0, .inr (5, [.ref a0_now, .ref a0_trial, .ref a0_survey, .ref a0_mending, .ref a0_past, .ref a0_text])), (a0_now, .inr (3, [.ref a0_now_numbers])), (a0_now_numbers, .inl (cI, 352, .inl f_a0_now_numbers)), (a0_survey, .inr (4, [.ref a0_now])), (a0_past, .inr (0, [.ref a0_past_states, .int i_a0_past_oldest, .int i_a0_past_many])), (a0_text, .inr (2, [.ref a0_text_signs, .ref a0_text_numbers, .int i_a0_text_length, .int i_a0_text_at, .int i_a0_text_faultPosition, .int i_a0_text_faultReason, .int i_a0_text_faultCause]))]) dL_holds_244 pkX5_row gL_holds_X5_row (kkX5_row l D cI cR a0 a0_now a0_trial a0_survey a0_mending a0_past a0_text a0_now a0_now_numbers f_a0_now_numbers s8.2.2.2.2 4 v263 h264) ⟨rfl, rfl⟩ ⟨Nat.le_of_ble_eq_true rfl, Nat.le_of_ble_eq_true rfl⟩ rfl rfl (Nat.le_of_ble_eq_true rfl) 0 rfl rfl [0, 3, 1, 2] [4, 5] rfl rfl ⟨rfl, rfl, by decide⟩ ⟨Nat.zero_le _, Nat.zero_le _⟩ [2, 4, 5, 3, 0, 1] rfl rfl ?_
                        refine G_aload_n X dL_holds_247 6 rfl ?_
                        refine G_bipush X (v := 20) dL_holds_248 (by decide) ?_
                        obtain ⟨v266, h267, h268⟩ := bnd h265
                        refine G1_calli X (As := [.int 20]) (rest := [.int v263]) (wr := []) (ws' := [(a0, .inr (5, [.ref a0_now, .ref a0_trial, .ref a0_survey, .ref a0_mending, .ref a0_past, .ref a0_text])), (a0_now, .inr (3, [.ref a0_now_numbers])), (a0_now_numbers, .inl (cI, 352, .inl f_a0_now_numbers)), (a0_survey, .inr (4, [.ref a0_now])), (a0_past, .inr (0, [.ref a0_past_states, .int i_a0_past_oldest, .int i_a0_past_many])), (a0_text, .inr (2, [.ref a0_text_signs, .ref a0_text_numbers, .int i_a0_text_length, .int i_a0_text_at, .int i_a0_text_faultPosition, .int i_a0_text_faultReason, .int i_a0_text_faultCause]))]) dL_holds_250 pkX5_count gL_holds_X5_count (kkX5_count l D cI cR a0 a0_now a0_trial a0_survey a0_mending a0_past a0_text a0_now a0_now_numbers a0_past_states a0_text_signs a0_text_numbers f_a0_now_numbers i_a0_past_oldest i_a0_past_many i_a0_text_length i_a0_text_at i_a0_text_faultPosition i_a0_text_faultReason i_a0_text_faultCause 20 v266 h267) ⟨rfl, rfl⟩ ⟨Nat.le_of_ble_eq_true rfl, Nat.le_of_ble_eq_true rfl⟩ rfl rfl (Nat.le_of_ble_eq_true rfl) 0 rfl rfl [0, 3, 1, 2, 4, 5] [] rfl rfl ⟨rfl, rfl, by decide⟩ ⟨Nat.zero_le _, Nat.zero_le _⟩ [0, 2, 3, 1, 4, 5] rfl rfl ?_
                        refine G_icmp_gt X (tgt := 279) dL_holds_253 (by decide) (fun h269 => ?_) (fun h269 => ?_)
                        · have h270 := ifp h269 h268
                          refine G_iconst X (v := 0) dL_holds_279 (by decide) ?_
                          cases h270
                          exact G_lv [6, 2, 1, 0, 7, 9] rfl (J125)
                        · have h271 := ifn h269 h268
                          refine G_aload_n X dL_holds_256 6 rfl ?_
                          refine G_iload X dL_holds_257 9 rfl ?_
                          refine G_aload_n X dL_holds_259 6 rfl ?_
                          refine G_iload X dL_holds_260 9 rfl ?_
                          refine G_iconst X (v := 4) dL_holds_262 (by decide) ?_
                          obtain ⟨v272, h273, h274⟩ := bnd h271
                          refine G1_calli X (As := [.int s8.2.2.2.2, .int 4]) (rest := [.int s8.2.2.2.2, .ref a0]) (wr := [(a0_past, .inr (0, [.ref a0_past_states, .int i_a0_past_oldest, .int i_a0_past_many])), (a0_text, .inr (2, [.ref a0_text_signs, .ref a0_text_numbers, .int i_a0_text_length, .int i_a0_text_at, .int i_a0_text_faultPosition, .int i_a0_text_faultReason, .int i_a0_text_faultCause]))]) (ws' := [(a0, .inr (5, [.ref a0_now, .ref a0_trial, .ref a0_survey, .ref a0_mending, .ref a0_past, .ref a0_text])), (a0_now, .inr (3, [.ref a0_now_numbers])), (a0_now_numbers, .inl (cI, 352, .inl f_a0_now_numbers)), (a0_survey, .inr (4, [.ref a0_now])), (a0_past, .inr (0, [.ref a0_past_states, .int i_a0_past_oldest, .int i_a0_past_many])), (a0_text, .inr (2, [.ref a0_text_signs, .ref a0_text_numbers, .int i_a0_text_length, .int i_a0_text_at, .int i_a0_text_faultPosition, .int i_a0_text_faultReason, .int i_a0_text_faultCause]))]) dL_holds_263 pkX5_row gL_holds_X5_row (kkX5_row l D cI cR a0 a0_now a0_trial a0_survey a0_mending a0_past a0_text a0_now a0_now_numbers f_a0_now_numbers s8.2.2.2.2 4 v272 h273) ⟨rfl, rfl⟩ ⟨Nat.le_of_ble_eq_true rfl, Nat.le_of_ble_eq_true rfl⟩ rfl rfl (Nat.le_of_ble_eq_true rfl) 0 rfl rfl [0, 3, 1, 2] [4, 5] rfl rfl ⟨rfl, rfl, by decide⟩ ⟨Nat.zero_le _, Nat.zero_le _⟩ [2, 4, 5, 3, 0, 1] rfl rfl ?_
                          refine G_iconst X (v := 0) dL_holds_266 (by decide) ?_
                          obtain ⟨v275, h276, h277⟩ := bnd h274
                          refine G1_calli X (As := [.int s8.2.2.2.2, .int v272, .int 0]) (rest := []) (wr := [(a0_past, .inr (0, [.ref a0_past_states, .int i_a0_past_oldest, .int i_a0_past_many])), (a0_text, .inr (2, [.ref a0_text_signs, .ref a0_text_numbers, .int i_a0_text_length, .int i_a0_text_at, .int i_a0_text_faultPosition, .int i_a0_text_faultReason, .int i_a0_text_faultCause]))]) (ws' := [(a0, .inr (5, [.ref a0_now, .ref a0_trial, .ref a0_survey, .ref a0_mending, .ref a0_past, .ref a0_text])), (a0_now, .inr (3, [.ref a0_now_numbers])), (a0_now_numbers, .inl (cI, 352, .inl f_a0_now_numbers)), (a0_survey, .inr (4, [.ref a0_now])), (a0_past, .inr (0, [.ref a0_past_states, .int i_a0_past_oldest, .int i_a0_past_many])), (a0_text, .inr (2, [.ref a0_text_signs, .ref a0_text_numbers, .int i_a0_text_length, .int i_a0_text_at, .int i_a0_text_faultPosition, .int i_a0_text_faultReason, .int i_a0_text_faultCause]))]) dL_holds_267 pkX5_margin gL_holds_X5_margin (kkX5_margin l D cI cR a0 a0_now a0_trial a0_survey a0_mending a0_past a0_text a0_now a0_now_numbers f_a0_now_numbers s8.2.2.2.2 v272 0 v275 h276) ⟨rfl, rfl⟩ ⟨Nat.le_of_ble_eq_true rfl, Nat.le_of_ble_eq_true rfl⟩ rfl rfl (Nat.le_of_ble_eq_true rfl) 0 rfl rfl [0, 3, 1, 2] [4, 5] rfl rfl ⟨rfl, rfl, by decide⟩ ⟨Nat.zero_le _, Nat.zero_le _⟩ [2, 4, 5, 3, 0, 1] rfl rfl ?_
                          refine G_ldc X dL_holds_270 flL_holds_38 ?_
                          refine G_icmp_ne X (tgt := 279) dL_holds_272 (by decide) (fun h278 => ?_) (fun h278 => ?_)
                          · have h279 := ifp h278 h277
                            refine G_iconst X (v := 1) dL_holds_275 (by decide) ?_
                            refine G_goto X (tgt := 280) dL_holds_276 (by decide) ?_
                            cases h279
                            exact G_lv [6, 2, 1, 0, 7, 9] rfl (J125)
                          · have h280 := ifn h278 h277
                            refine G_iconst X (v := 0) dL_holds_279 (by decide) ?_
                            cases h280
                            exact G_lv [6, 2, 1, 0, 7, 9] rfl (J125)
                      · have h281 := ifn h261 h260
                        refine G_iconst X (v := 0) dL_holds_279 (by decide) ?_
                        cases h281
                        exact G_lv [6, 2, 1, 0, 7, 9] rfl (J125)
                    · have h282 := ifn h256 h255
                      refine G_iconst X (v := 0) dL_holds_279 (by decide) ?_
                      cases h282
                      exact G_lv [6, 2, 1, 0, 7, 9] rfl (J125)
                  · have h283 := ifn h251 h250
                    refine G_iconst X (v := 0) dL_holds_279 (by decide) ?_
                    cases h283
                    exact G_lv [6, 2, 1, 0, 7, 9] rfl (J125)
            · have h284 := ifn h213 h212
              refine G_iconst X (v := 0) dL_holds_279 (by decide) ?_
              cases h284
              exact G_lv [6, 2, 1, 0, 7, 9] rfl (J125)
          · have h285 := ifn h208 h207
            refine G_iconst X (v := 0) dL_holds_279 (by decide) ?_
            cases h285
            exact G_lv [6, 2, 1, 0, 7, 9] rfl (J125)
        · have h286 := ifn h203 h123
          refine G_iconst X (v := 0) dL_holds_279 (by decide) ?_
          cases h286
          exact G_lv [6, 2, 1, 0, 7, 9] rfl (J125)
  refine G_icmp_lt X (tgt := 56) dL_holds_16 (by decide) (fun h287 => ?_) (fun h287 => ?_)
  · have h288 := ifp h287 h5
    refine G_iconst X (v := 0) dL_holds_56 (by decide) ?_
    cases h288
    exact G_lv [4, 3, 2, 1, 0] rfl (J7)
  · have h289 := ifn h287 h5
    refine G_iload X dL_holds_19 0 rfl ?_
    refine G_bipush X (v := 9) dL_holds_21 (by decide) ?_
    refine G_icmp_gt X (tgt := 56) dL_holds_23 (by decide) (fun h290 => ?_) (fun h290 => ?_)
    · have h291 := ifp h290 h289
      refine G_iconst X (v := 0) dL_holds_56 (by decide) ?_
      cases h291
      exact G_lv [4, 3, 2, 1, 0] rfl (J7)
    · have h292 := ifn h290 h289
      refine G_aload_n X dL_holds_26 4 rfl ?_
      refine G_bipush X (v := 10) dL_holds_27 (by decide) ?_
      obtain ⟨v293, h294, h295⟩ := bnd h292
      refine G1_calli X (As := [.int 10]) (rest := []) (wr := []) (ws' := [(a0, .inr (5, [.ref a0_now, .ref a0_trial, .ref a0_survey, .ref a0_mending, .ref a0_past, .ref a0_text])), (a0_now, .inr (3, [.ref a0_now_numbers])), (a0_now_numbers, .inl (cI, 352, .inl f_a0_now_numbers)), (a0_survey, .inr (4, [.ref a0_now])), (a0_past, .inr (0, [.ref a0_past_states, .int i_a0_past_oldest, .int i_a0_past_many])), (a0_text, .inr (2, [.ref a0_text_signs, .ref a0_text_numbers, .int i_a0_text_length, .int i_a0_text_at, .int i_a0_text_faultPosition, .int i_a0_text_faultReason, .int i_a0_text_faultCause]))]) dL_holds_29 pkX5_count gL_holds_X5_count (kkX5_count l D cI cR a0 a0_now a0_trial a0_survey a0_mending a0_past a0_text a0_now a0_now_numbers a0_past_states a0_text_signs a0_text_numbers f_a0_now_numbers i_a0_past_oldest i_a0_past_many i_a0_text_length i_a0_text_at i_a0_text_faultPosition i_a0_text_faultReason i_a0_text_faultCause 10 v293 h294) ⟨rfl, rfl⟩ ⟨Nat.le_of_ble_eq_true rfl, Nat.le_of_ble_eq_true rfl⟩ rfl rfl (Nat.le_of_ble_eq_true rfl) 0 rfl rfl [0, 3, 1, 2, 4, 5] [] rfl rfl ⟨rfl, rfl, by decide⟩ ⟨Nat.zero_le _, Nat.zero_le _⟩ [0, 2, 3, 1, 4, 5] rfl rfl ?_
      refine G_aload_n X dL_holds_32 4 rfl ?_
      refine G_bipush X (v := 9) dL_holds_33 (by decide) ?_
      obtain ⟨v296, h297, h298⟩ := bnd h295
      refine G1_calli X (As := [.int 9]) (rest := [.int v293]) (wr := []) (ws' := [(a0, .inr (5, [.ref a0_now, .ref a0_trial, .ref a0_survey, .ref a0_mending, .ref a0_past, .ref a0_text])), (a0_now, .inr (3, [.ref a0_now_numbers])), (a0_now_numbers, .inl (cI, 352, .inl f_a0_now_numbers)), (a0_survey, .inr (4, [.ref a0_now])), (a0_past, .inr (0, [.ref a0_past_states, .int i_a0_past_oldest, .int i_a0_past_many])), (a0_text, .inr (2, [.ref a0_text_signs, .ref a0_text_numbers, .int i_a0_text_length, .int i_a0_text_at, .int i_a0_text_faultPosition, .int i_a0_text_faultReason, .int i_a0_text_faultCause]))]) dL_holds_35 pkX5_count gL_holds_X5_count (kkX5_count l D cI cR a0 a0_now a0_trial a0_survey a0_mending a0_past a0_text a0_now a0_now_numbers a0_past_states a0_text_signs a0_text_numbers f_a0_now_numbers i_a0_past_oldest i_a0_past_many i_a0_text_length i_a0_text_at i_a0_text_faultPosition i_a0_text_faultReason i_a0_text_faultCause 9 v296 h297) ⟨rfl, rfl⟩ ⟨Nat.le_of_ble_eq_true rfl, Nat.le_of_ble_eq_true rfl⟩ rfl rfl (Nat.le_of_ble_eq_true rfl) 0 rfl rfl [0, 3, 1, 2, 4, 5] [] rfl rfl ⟨rfl, rfl, by decide⟩ ⟨Nat.zero_le _, Nat.zero_le _⟩ [0, 2, 3, 1, 4, 5] rfl rfl ?_
      refine G_icmp_gt X (tgt := 56) dL_holds_38 (by decide) (fun h299 => ?_) (fun h299 => ?_)
      · have h300 := ifp h299 h298
        refine G_iconst X (v := 0) dL_holds_56 (by decide) ?_
        cases h300
        exact G_lv [4, 3, 2, 1, 0] rfl (J7)
      · have h301 := ifn h299 h298
        refine G_aload_n X dL_holds_41 4 rfl ?_
        refine G_iconst X (v := 1) dL_holds_42 (by decide) ?_
        obtain ⟨v302, h303, h304⟩ := bnd h301
        refine G1_calli X (As := [.int 1]) (rest := []) (wr := []) (ws' := [(a0, .inr (5, [.ref a0_now, .ref a0_trial, .ref a0_survey, .ref a0_mending, .ref a0_past, .ref a0_text])), (a0_now, .inr (3, [.ref a0_now_numbers])), (a0_now_numbers, .inl (cI, 352, .inl f_a0_now_numbers)), (a0_survey, .inr (4, [.ref a0_now])), (a0_past, .inr (0, [.ref a0_past_states, .int i_a0_past_oldest, .int i_a0_past_many])), (a0_text, .inr (2, [.ref a0_text_signs, .ref a0_text_numbers, .int i_a0_text_length, .int i_a0_text_at, .int i_a0_text_faultPosition, .int i_a0_text_faultReason, .int i_a0_text_faultCause]))]) dL_holds_43 pkX5_count gL_holds_X5_count (kkX5_count l D cI cR a0 a0_now a0_trial a0_survey a0_mending a0_past a0_text a0_now a0_now_numbers a0_past_states a0_text_signs a0_text_numbers f_a0_now_numbers i_a0_past_oldest i_a0_past_many i_a0_text_length i_a0_text_at i_a0_text_faultPosition i_a0_text_faultReason i_a0_text_faultCause 1 v302 h303) ⟨rfl, rfl⟩ ⟨Nat.le_of_ble_eq_true rfl, Nat.le_of_ble_eq_true rfl⟩ rfl rfl (Nat.le_of_ble_eq_true rfl) 0 rfl rfl [0, 3, 1, 2, 4, 5] [] rfl rfl ⟨rfl, rfl, by decide⟩ ⟨Nat.zero_le _, Nat.zero_le _⟩ [0, 2, 3, 1, 4, 5] rfl rfl ?_
        refine G_sipush X (v := 9999) dL_holds_46 (by decide) ?_
        refine G_icmp_gt X (tgt := 56) dL_holds_49 (by decide) (fun h305 => ?_) (fun h305 => ?_)
        · have h306 := ifp h305 h304
          refine G_iconst X (v := 0) dL_holds_56 (by decide) ?_
          cases h306
          exact G_lv [4, 3, 2, 1, 0] rfl (J7)
        · have h307 := ifn h305 h304
          refine G_iconst X (v := 1) dL_holds_52 (by decide) ?_
          refine G_goto X (tgt := 57) dL_holds_53 (by decide) ?_
          cases h307
          exact G_lv [4, 3, 2, 1, 0] rfl (J7)
def rmL_would : Room := { frames := 11, cells := 0, slots := 0, locals := 338 }
theorem pkL_would : cK yL_would wsL_would cL_would 12 (some .boolean) 2 RL := ⟨⟨_, rfl⟩, by decide +kernel⟩
theorem flL_would_58 : Cond.constant RL 58 (-1000001) ∈ wsL_would := by decide +kernel
theorem flL_would_59 : Cond.constant RL 59 (-1000002) ∈ wsL_would := by decide +kernel
theorem flL_would_38 : Cond.constant RL 38 (-1000004) ∈ wsL_would := by decide +kernel
theorem flL_would_60 : Cond.constant RL 60 (-1000003) ∈ wsL_would := by decide +kernel
set_option maxHeartbeats 4000000 in
set_option maxRecDepth 100000 in
theorem kkL_would (l : Launch) (D : va_G) (cI cR : ClassId) (a0 a0_now a0_trial a0_survey a0_mending a0_past a0_text a0_now_numbers a0_mending_steps a0_mending_tried a0_mending_best a0_past_states a0_text_signs a0_text_numbers : Nat) (a0_mending_steps_r a0_mending_steps_a : Nat → Nat) (f_a0_now_numbers : Nat → Int32) (i_a0_mending_sum : Int32) (f_a0_mending_steps_0 : Nat → Int32) (f_a0_mending_steps_1 : Nat → Int32) (f_a0_mending_steps_2 : Nat → Int32) (f_a0_mending_steps_3 : Nat → Int32) (f_a0_mending_tried : Nat → Int32) (f_a0_mending_best : Nat → Int32) (i_a0_past_oldest : Int32) (i_a0_past_many : Int32) (i_a0_text_length : Int32) (i_a0_text_at : Int32) (i_a0_text_faultPosition : Int32) (i_a0_text_faultReason : Int32) (i_a0_text_faultCause : Int32) (x1 : Int32) (z : (Int32 × Int32 × (Nat → Int32) × (Nat → Int32) × (Nat → Int32) × (Nat → Int32) × (Nat → Int32) × (Nat → Int32))) (hz : ML_would f_a0_now_numbers i_a0_mending_sum f_a0_mending_steps_0 f_a0_mending_steps_1 f_a0_mending_steps_2 f_a0_mending_steps_3 f_a0_mending_tried f_a0_mending_best i_a0_past_many i_a0_text_length x1 = some z) : cI1 l yL_would wsL_would rmL_would D cI cR [.ref a0, .int x1] [(a0, .inr (5, [.ref a0_now, .ref a0_trial, .ref a0_survey, .ref a0_mending, .ref a0_past, .ref a0_text])), (a0_now, .inr (3, [.ref a0_now_numbers])), (a0_now_numbers, .inl (cI, 352, .inl f_a0_now_numbers)), (a0_survey, .inr (4, [.ref a0_now])), (a0_mending, .inr (1, [.ref a0_mending_steps, .ref a0_mending_tried, .ref a0_mending_best, .int i_a0_mending_sum])), (a0_mending_steps, .inl (cR, 4, .inr (.inr (.inr (.inr (fun j => some (a0_mending_steps_r j))))))), ((a0_mending_steps_r 0), .inr (3, [.ref (a0_mending_steps_a 0)])), ((a0_mending_steps_a 0), .inl (cI, 352, .inl f_a0_mending_steps_0)), ((a0_mending_steps_r 1), .inr (3, [.ref (a0_mending_steps_a 1)])), ((a0_mending_steps_a 1), .inl (cI, 352, .inl f_a0_mending_steps_1)), ((a0_mending_steps_r 2), .inr (3, [.ref (a0_mending_steps_a 2)])), ((a0_mending_steps_a 2), .inl (cI, 352, .inl f_a0_mending_steps_2)), ((a0_mending_steps_r 3), .inr (3, [.ref (a0_mending_steps_a 3)])), ((a0_mending_steps_a 3), .inl (cI, 352, .inl f_a0_mending_steps_3)), (a0_mending_tried, .inl (cI, 4, .inl f_a0_mending_tried)), (a0_mending_best, .inl (cI, 4, .inl f_a0_mending_best)), (a0_past, .inr (0, [.ref a0_past_states, .int i_a0_past_oldest, .int i_a0_past_many])), (a0_text, .inr (2, [.ref a0_text_signs, .ref a0_text_numbers, .int i_a0_text_length, .int i_a0_text_at, .int i_a0_text_faultPosition, .int i_a0_text_faultReason, .int i_a0_text_faultCause]))] z.1 [(a0, .inr (5, [.ref a0_now, .ref a0_trial, .ref a0_survey, .ref a0_mending, .ref a0_past, .ref a0_text])), (a0_now, .inr (3, [.ref a0_now_numbers])), (a0_now_numbers, .inl (cI, 352, .inl f_a0_now_numbers)), (a0_survey, .inr (4, [.ref a0_now])), (a0_mending, .inr (1, [.ref a0_mending_steps, .ref a0_mending_tried, .ref a0_mending_best, .int z.2.1])), (a0_mending_steps, .inl (cR, 4, .inr (.inr (.inr (.inr (fun j => some (a0_mending_steps_r j))))))), ((a0_mending_steps_r 0), .inr (3, [.ref (a0_mending_steps_a 0)])), ((a0_mending_steps_a 0), .inl (cI, 352, .inl z.2.2.1)), ((a0_mending_steps_r 1), .inr (3, [.ref (a0_mending_steps_a 1)])), ((a0_mending_steps_a 1), .inl (cI, 352, .inl z.2.2.2.1)), ((a0_mending_steps_r 2), .inr (3, [.ref (a0_mending_steps_a 2)])), ((a0_mending_steps_a 2), .inl (cI, 352, .inl z.2.2.2.2.1)), ((a0_mending_steps_r 3), .inr (3, [.ref (a0_mending_steps_a 3)])), ((a0_mending_steps_a 3), .inl (cI, 352, .inl z.2.2.2.2.2.1)), (a0_mending_tried, .inl (cI, 4, .inl z.2.2.2.2.2.2.1)), (a0_mending_best, .inl (cI, 4, .inl z.2.2.2.2.2.2.2)), (a0_past, .inr (0, [.ref a0_past_states, .int i_a0_past_oldest, .int i_a0_past_many])), (a0_text, .inr (2, [.ref a0_text_signs, .ref a0_text_numbers, .int i_a0_text_length, .int i_a0_text_at, .int i_a0_text_faultPosition, .int i_a0_text_faultReason, .int i_a0_text_faultCause]))] := by
  unfold ML_would at hz
  refine kZ_of (cc := cL_would) (maxL := 12) (own := RL) (by decide +kernel) rfl rfl (Nat.le_of_ble_eq_true rfl) (lv0 := [(0, .ref a0), (1, .int x1)]) rfl (fun p e s m args below meth c A Q X rt => ?_)
  refine G_aload_n X dL_would_0 0 rfl ?_
  refine G_iconst X (v := 0) dL_would_1 (by decide) ?_
  obtain ⟨v1, h2, h3⟩ := bnd hz
  refine G1_calli X (As := [.int 0]) (rest := []) (wr := [(a0_mending, .inr (1, [.ref a0_mending_steps, .ref a0_mending_tried, .ref a0_mending_best, .int i_a0_mending_sum])), (a0_mending_steps, .inl (cR, 4, .inr (.inr (.inr (.inr (fun j => some (a0_mending_steps_r j))))))), ((a0_mending_steps_r 0), .inr (3, [.ref (a0_mending_steps_a 0)])), ((a0_mending_steps_a 0), .inl (cI, 352, .inl f_a0_mending_steps_0)), ((a0_mending_steps_r 1), .inr (3, [.ref (a0_mending_steps_a 1)])), ((a0_mending_steps_a 1), .inl (cI, 352, .inl f_a0_mending_steps_1)), ((a0_mending_steps_r 2), .inr (3, [.ref (a0_mending_steps_a 2)])), ((a0_mending_steps_a 2), .inl (cI, 352, .inl f_a0_mending_steps_2)), ((a0_mending_steps_r 3), .inr (3, [.ref (a0_mending_steps_a 3)])), ((a0_mending_steps_a 3), .inl (cI, 352, .inl f_a0_mending_steps_3)), (a0_mending_tried, .inl (cI, 4, .inl f_a0_mending_tried)), (a0_mending_best, .inl (cI, 4, .inl f_a0_mending_best))]) (ws' := [(a0, .inr (5, [.ref a0_now, .ref a0_trial, .ref a0_survey, .ref a0_mending, .ref a0_past, .ref a0_text])), (a0_now, .inr (3, [.ref a0_now_numbers])), (a0_now_numbers, .inl (cI, 352, .inl f_a0_now_numbers)), (a0_survey, .inr (4, [.ref a0_now])), (a0_mending, .inr (1, [.ref a0_mending_steps, .ref a0_mending_tried, .ref a0_mending_best, .int i_a0_mending_sum])), (a0_mending_steps, .inl (cR, 4, .inr (.inr (.inr (.inr (fun j => some (a0_mending_steps_r j))))))), ((a0_mending_steps_r 0), .inr (3, [.ref (a0_mending_steps_a 0)])), ((a0_mending_steps_a 0), .inl (cI, 352, .inl f_a0_mending_steps_0)), ((a0_mending_steps_r 1), .inr (3, [.ref (a0_mending_steps_a 1)])), ((a0_mending_steps_a 1), .inl (cI, 352, .inl f_a0_mending_steps_1)), ((a0_mending_steps_r 2), .inr (3, [.ref (a0_mending_steps_a 2)])), ((a0_mending_steps_a 2), .inl (cI, 352, .inl f_a0_mending_steps_2)), ((a0_mending_steps_r 3), .inr (3, [.ref (a0_mending_steps_a 3)])), ((a0_mending_steps_a 3), .inl (cI, 352, .inl f_a0_mending_steps_3)), (a0_mending_tried, .inl (cI, 4, .inl f_a0_mending_tried)), (a0_mending_best, .inl (cI, 4, .inl f_a0_mending_best)), (a0_past, .inr (0, [.ref a0_past_states, .int i_a0_past_oldest, .int i_a0_past_many])), (a0_text, .inr (2, [.ref a0_text_signs, .ref a0_text_numbers, .int i_a0_text_length, .int i_a0_text_at, .int i_a0_text_faultPosition, .int i_a0_text_faultReason, .int i_a0_text_faultCause]))]) dL_would_2 pkX5_count gL_would_X5_count (kkX5_count l D cI cR a0 a0_now a0_trial a0_survey a0_mending a0_past a0_text a0_now a0_now_numbers a0_past_states a0_text_signs a0_text_numbers f_a0_now_numbers i_a0_past_oldest i_a0_past_many i_a0_text_length i_a0_text_at i_a0_text_faultPosition i_a0_text_faultReason i_a0_text_faultCause 0 v1 h2) ⟨rfl, rfl⟩ ⟨Nat.le_of_ble_eq_true rfl, Nat.le_of_ble_eq_true rfl⟩ rfl rfl (Nat.le_of_ble_eq_true rfl) 0 rfl rfl [0, 3, 1, 2, 16, 17] [4, 5, 6, 7, 8, 9, 10, 11, 12, 13, 14, 15] rfl rfl ⟨rfl, rfl, by decide⟩ ⟨Nat.zero_le _, Nat.zero_le _⟩ [12, 14, 15, 13, 0, 1, 2, 3, 4, 5, 6, 7, 8, 9, 10, 11, 16, 17] rfl rfl ?_
  refine G_istore_n X (lv' := [(2, .int v1), (0, .ref a0), (1, .int x1)]) dL_would_5 (by decide) rfl ?_
  refine G_iload_n X dL_would_6 2 rfl ?_
  refine G_iload_n X dL_would_7 0 rfl ?_
  refine G_iconst X (v := 1) dL_would_8 (by decide) ?_
  refine G_iadd X dL_would_9 ?_
  obtain ⟨v4, h5, h6⟩ := bnd h3
  refine G1_callsi X (As := [.int x1, .int (v1 + 1)]) (rest := []) (wr := [(a0, .inr (5, [.ref a0_now, .ref a0_trial, .ref a0_survey, .ref a0_mending, .ref a0_past, .ref a0_text])), (a0_now, .inr (3, [.ref a0_now_numbers])), (a0_now_numbers, .inl (cI, 352, .inl f_a0_now_numbers)), (a0_survey, .inr (4, [.ref a0_now])), (a0_mending, .inr (1, [.ref a0_mending_steps, .ref a0_mending_tried, .ref a0_mending_best, .int i_a0_mending_sum])), (a0_mending_steps, .inl (cR, 4, .inr (.inr (.inr (.inr (fun j => some (a0_mending_steps_r j))))))), ((a0_mending_steps_r 0), .inr (3, [.ref (a0_mending_steps_a 0)])), ((a0_mending_steps_a 0), .inl (cI, 352, .inl f_a0_mending_steps_0)), ((a0_mending_steps_r 1), .inr (3, [.ref (a0_mending_steps_a 1)])), ((a0_mending_steps_a 1), .inl (cI, 352, .inl f_a0_mending_steps_1)), ((a0_mending_steps_r 2), .inr (3, [.ref (a0_mending_steps_a 2)])), ((a0_mending_steps_a 2), .inl (cI, 352, .inl f_a0_mending_steps_2)), ((a0_mending_steps_r 3), .inr (3, [.ref (a0_mending_steps_a 3)])), ((a0_mending_steps_a 3), .inl (cI, 352, .inl f_a0_mending_steps_3)), (a0_mending_tried, .inl (cI, 4, .inl f_a0_mending_tried)), (a0_mending_best, .inl (cI, 4, .inl f_a0_mending_best)), (a0_past, .inr (0, [.ref a0_past_states, .int i_a0_past_oldest, .int i_a0_past_many])), (a0_text, .inr (2, [.ref a0_text_signs, .ref a0_text_numbers, .int i_a0_text_length, .int i_a0_text_at, .int i_a0_text_faultPosition, .int i_a0_text_faultReason, .int i_a0_text_faultCause]))]) (ws' := [(a0, .inr (5, [.ref a0_now, .ref a0_trial, .ref a0_survey, .ref a0_mending, .ref a0_past, .ref a0_text])), (a0_now, .inr (3, [.ref a0_now_numbers])), (a0_now_numbers, .inl (cI, 352, .inl f_a0_now_numbers)), (a0_survey, .inr (4, [.ref a0_now])), (a0_mending, .inr (1, [.ref a0_mending_steps, .ref a0_mending_tried, .ref a0_mending_best, .int i_a0_mending_sum])), (a0_mending_steps, .inl (cR, 4, .inr (.inr (.inr (.inr (fun j => some (a0_mending_steps_r j))))))), ((a0_mending_steps_r 0), .inr (3, [.ref (a0_mending_steps_a 0)])), ((a0_mending_steps_a 0), .inl (cI, 352, .inl f_a0_mending_steps_0)), ((a0_mending_steps_r 1), .inr (3, [.ref (a0_mending_steps_a 1)])), ((a0_mending_steps_a 1), .inl (cI, 352, .inl f_a0_mending_steps_1)), ((a0_mending_steps_r 2), .inr (3, [.ref (a0_mending_steps_a 2)])), ((a0_mending_steps_a 2), .inl (cI, 352, .inl f_a0_mending_steps_2)), ((a0_mending_steps_r 3), .inr (3, [.ref (a0_mending_steps_a 3)])), ((a0_mending_steps_a 3), .inl (cI, 352, .inl f_a0_mending_steps_3)), (a0_mending_tried, .inl (cI, 4, .inl f_a0_mending_tried)), (a0_mending_best, .inl (cI, 4, .inl f_a0_mending_best)), (a0_past, .inr (0, [.ref a0_past_states, .int i_a0_past_oldest, .int i_a0_past_many])), (a0_text, .inr (2, [.ref a0_text_signs, .ref a0_text_numbers, .int i_a0_text_length, .int i_a0_text_at, .int i_a0_text_faultPosition, .int i_a0_text_faultReason, .int i_a0_text_faultCause]))]) dL_would_10 pkL_low gL_would_L_low (kkL_low l D cI cR x1 (v1 + 1) v4 h5) ⟨rfl, rfl⟩ ⟨Nat.le_of_ble_eq_true rfl, Nat.le_of_ble_eq_true rfl⟩ rfl rfl (Nat.le_of_ble_eq_true rfl) [] [0, 1, 2, 3, 4, 5, 6, 7, 8, 9, 10, 11, 12, 13, 14, 15, 16, 17] rfl rfl ⟨rfl, rfl, by decide⟩ ⟨Nat.zero_le _, Nat.zero_le _⟩ [0, 1, 2, 3, 4, 5, 6, 7, 8, 9, 10, 11, 12, 13, 14, 15, 16, 17] rfl rfl ?_
  refine G_istore_n X (lv' := [(3, .int v4), (2, .int v1), (0, .ref a0), (1, .int x1)]) dL_would_13 (by decide) rfl ?_
  refine G_iload_n X dL_would_14 3 rfl ?_
  refine G_iconst X (v := 4) dL_would_15 (by decide) ?_
  refine G_ishr X dL_would_16 ?_
  refine G_iconst X (v := 5) dL_would_17 (by decide) ?_
  obtain ⟨v7, h8, h9⟩ := bnd h6
  refine G1_callsi X (As := [.int (x1 >>> (4 &&& 31)), .int 5]) (rest := []) (wr := [(a0, .inr (5, [.ref a0_now, .ref a0_trial, .ref a0_survey, .ref a0_mending, .ref a0_past, .ref a0_text])), (a0_now, .inr (3, [.ref a0_now_numbers])), (a0_now_numbers, .inl (cI, 352, .inl f_a0_now_numbers)), (a0_survey, .inr (4, [.ref a0_now])), (a0_mending, .inr (1, [.ref a0_mending_steps, .ref a0_mending_tried, .ref a0_mending_best, .int i_a0_mending_sum])), (a0_mending_steps, .inl (cR, 4, .inr (.inr (.inr (.inr (fun j => some (a0_mending_steps_r j))))))), ((a0_mending_steps_r 0), .inr (3, [.ref (a0_mending_steps_a 0)])), ((a0_mending_steps_a 0), .inl (cI, 352, .inl f_a0_mending_steps_0)), ((a0_mending_steps_r 1), .inr (3, [.ref (a0_mending_steps_a 1)])), ((a0_mending_steps_a 1), .inl (cI, 352, .inl f_a0_mending_steps_1)), ((a0_mending_steps_r 2), .inr (3, [.ref (a0_mending_steps_a 2)])), ((a0_mending_steps_a 2), .inl (cI, 352, .inl f_a0_mending_steps_2)), ((a0_mending_steps_r 3), .inr (3, [.ref (a0_mending_steps_a 3)])), ((a0_mending_steps_a 3), .inl (cI, 352, .inl f_a0_mending_steps_3)), (a0_mending_tried, .inl (cI, 4, .inl f_a0_mending_tried)), (a0_mending_best, .inl (cI, 4, .inl f_a0_mending_best)), (a0_past, .inr (0, [.ref a0_past_states, .int i_a0_past_oldest, .int i_a0_past_many])), (a0_text, .inr (2, [.ref a0_text_signs, .ref a0_text_numbers, .int i_a0_text_length, .int i_a0_text_at, .int i_a0_text_faultPosition, .int i_a0_text_faultReason, .int i_a0_text_faultCause]))]) (ws' := [(a0, .inr (5, [.ref a0_now, .ref a0_trial, .ref a0_survey, .ref a0_mending, .ref a0_past, .ref a0_text])), (a0_now, .inr (3, [.ref a0_now_numbers])), (a0_now_numbers, .inl (cI, 352, .inl f_a0_now_numbers)), (a0_survey, .inr (4, [.ref a0_now])), (a0_mending, .inr (1, [.ref a0_mending_steps, .ref a0_mending_tried, .ref a0_mending_best, .int i_a0_mending_sum])), (a0_mending_steps, .inl (cR, 4, .inr (.inr (.inr (.inr (fun j => some (a0_mending_steps_r j))))))), ((a0_mending_steps_r 0), .inr (3, [.ref (a0_mending_steps_a 0)])), ((a0_mending_steps_a 0), .inl (cI, 352, .inl f_a0_mending_steps_0)), ((a0_mending_steps_r 1), .inr (3, [.ref (a0_mending_steps_a 1)])), ((a0_mending_steps_a 1), .inl (cI, 352, .inl f_a0_mending_steps_1)), ((a0_mending_steps_r 2), .inr (3, [.ref (a0_mending_steps_a 2)])), ((a0_mending_steps_a 2), .inl (cI, 352, .inl f_a0_mending_steps_2)), ((a0_mending_steps_r 3), .inr (3, [.ref (a0_mending_steps_a 3)])), ((a0_mending_steps_a 3), .inl (cI, 352, .inl f_a0_mending_steps_3)), (a0_mending_tried, .inl (cI, 4, .inl f_a0_mending_tried)), (a0_mending_best, .inl (cI, 4, .inl f_a0_mending_best)), (a0_past, .inr (0, [.ref a0_past_states, .int i_a0_past_oldest, .int i_a0_past_many])), (a0_text, .inr (2, [.ref a0_text_signs, .ref a0_text_numbers, .int i_a0_text_length, .int i_a0_text_at, .int i_a0_text_faultPosition, .int i_a0_text_faultReason, .int i_a0_text_faultCause]))]) dL_would_18 pkL_low gL_would_L_low (kkL_low l D cI cR (x1 >>> (4 &&& 31)) 5 v7 h8) ⟨rfl, rfl⟩ ⟨Nat.le_of_ble_eq_true rfl, Nat.le_of_ble_eq_true rfl⟩ rfl rfl (Nat.le_of_ble_eq_true rfl) [] [0, 1, 2, 3, 4, 5, 6, 7, 8, 9, 10, 11, 12, 13, 14, 15, 16, 17] rfl rfl ⟨rfl, rfl, by decide⟩ ⟨Nat.zero_le _, Nat.zero_le _⟩ [0, 1, 2, 3, 4, 5, 6, 7, 8, 9, 10, 11, 12, 13, 14, 15, 16, 17] rfl rfl ?_
  refine G_istore X (lv' := [(4, .int v7), (3, .int v4), (2, .int v1), (0, .ref a0), (1, .int x1)]) dL_would_21 (by decide) rfl ?_
  refine G_aload_n X dL_would_23 3 rfl ?_
  refine G_iload_n X dL_would_24 1 rfl ?_
  refine G_iload X dL_would_25 0 rfl ?_
  obtain ⟨v10, h11, h12⟩ := bnd h9
  refine G1_calli X (As := [.int v4, .int v7]) (rest := []) (wr := [(a0_mending, .inr (1, [.ref a0_mending_steps, .ref a0_mending_tried, .ref a0_mending_best, .int i_a0_mending_sum])), (a0_mending_steps, .inl (cR, 4, .inr (.inr (.inr (.inr (fun j => some (a0_mending_steps_r j))))))), ((a0_mending_steps_r 0), .inr (3, [.ref (a0_mending_steps_a 0)])), ((a0_mending_steps_a 0), .inl (cI, 352, .inl f_a0_mending_steps_0)), ((a0_mending_steps_r 1), .inr (3, [.ref (a0_mending_steps_a 1)])), ((a0_mending_steps_a 1), .inl (cI, 352, .inl f_a0_mending_steps_1)), ((a0_mending_steps_r 2), .inr (3, [.ref (a0_mending_steps_a 2)])), ((a0_mending_steps_a 2), .inl (cI, 352, .inl f_a0_mending_steps_2)), ((a0_mending_steps_r 3), .inr (3, [.ref (a0_mending_steps_a 3)])), ((a0_mending_steps_a 3), .inl (cI, 352, .inl f_a0_mending_steps_3)), (a0_mending_tried, .inl (cI, 4, .inl f_a0_mending_tried)), (a0_mending_best, .inl (cI, 4, .inl f_a0_mending_best)), (a0_past, .inr (0, [.ref a0_past_states, .int i_a0_past_oldest, .int i_a0_past_many])), (a0_text, .inr (2, [.ref a0_text_signs, .ref a0_text_numbers, .int i_a0_text_length, .int i_a0_text_at, .int i_a0_text_faultPosition, .int i_a0_text_faultReason, .int i_a0_text_faultCause]))]) (ws' := [(a0, .inr (5, [.ref a0_now, .ref a0_trial, .ref a0_survey, .ref a0_mending, .ref a0_past, .ref a0_text])), (a0_now, .inr (3, [.ref a0_now_numbers])), (a0_now_numbers, .inl (cI, 352, .inl f_a0_now_numbers)), (a0_survey, .inr (4, [.ref a0_now])), (a0_mending, .inr (1, [.ref a0_mending_steps, .ref a0_mending_tried, .ref a0_mending_best, .int i_a0_mending_sum])), (a0_mending_steps, .inl (cR, 4, .inr (.inr (.inr (.inr (fun j => some (a0_mending_steps_r j))))))), ((a0_mending_steps_r 0), .inr (3, [.ref (a0_mending_steps_a 0)])), ((a0_mending_steps_a 0), .inl (cI, 352, .inl f_a0_mending_steps_0)), ((a0_mending_steps_r 1), .inr (3, [.ref (a0_mending_steps_a 1)])), ((a0_mending_steps_a 1), .inl (cI, 352, .inl f_a0_mending_steps_1)), ((a0_mending_steps_r 2), .inr (3, [.ref (a0_mending_steps_a 2)])), ((a0_mending_steps_a 2), .inl (cI, 352, .inl f_a0_mending_steps_2)), ((a0_mending_steps_r 3), .inr (3, [.ref (a0_mending_steps_a 3)])), ((a0_mending_steps_a 3), .inl (cI, 352, .inl f_a0_mending_steps_3)), (a0_mending_tried, .inl (cI, 4, .inl f_a0_mending_tried)), (a0_mending_best, .inl (cI, 4, .inl f_a0_mending_best)), (a0_past, .inr (0, [.ref a0_past_states, .int i_a0_past_oldest, .int i_a0_past_many])), (a0_text, .inr (2, [.ref a0_text_signs, .ref a0_text_numbers, .int i_a0_text_length, .int i_a0_text_at, .int i_a0_text_faultPosition, .int i_a0_text_faultReason, .int i_a0_text_faultCause]))]) dL_would_27 pkX5_would gL_would_X5_would (kkX5_would l D cI cR a0 a0_now a0_trial a0_survey a0_mending a0_past a0_text a0_now a0_now_numbers f_a0_now_numbers v4 v7 v10 h11) ⟨rfl, rfl⟩ ⟨Nat.le_of_ble_eq_true rfl, Nat.le_of_ble_eq_true rfl⟩ rfl rfl (Nat.le_of_ble_eq_true rfl) 0 rfl rfl [0, 3, 1, 2] [4, 5, 6, 7, 8, 9, 10, 11, 12, 13, 14, 15, 16, 17] rfl rfl ⟨rfl, rfl, by decide⟩ ⟨Nat.zero_le _, Nat.zero_le _⟩ [14, 16, 17, 15, 0, 1, 2, 3, 4, 5, 6, 7, 8, 9, 10, 11, 12, 13] rfl rfl ?_
  refine G_istore X (lv' := [(5, .int v10), (4, .int v7), (3, .int v4), (2, .int v1), (0, .ref a0), (1, .int x1)]) dL_would_30 (by decide) rfl ?_
  refine G_iconst X (v := 0) dL_would_32 (by decide) ?_
  refine G_istore X (lv' := [(6, .int 0), (5, .int v10), (4, .int v7), (3, .int v4), (2, .int v1), (0, .ref a0), (1, .int x1)]) dL_would_33 (by decide) rfl ?_
  refine G_iconst X (v := 0) dL_would_35 (by decide) ?_
  refine G_istore X (lv' := [(7, .int 0), (6, .int 0), (5, .int v10), (4, .int v7), (3, .int v4), (2, .int v1), (0, .ref a0), (1, .int x1)]) dL_would_36 (by decide) rfl ?_
  obtain ⟨j14, h15, h16⟩ := bnd h12
  have J21 : G p l e rmL_would s m args below meth c D A 12 Q 0 0 64 [(0, .ref a0), (1, .int x1), (2, .int v1), (3, .int v4), (4, .int v7), (5, .int v10), (6, .int j14)] [] [(a0, .inr (5, [.ref a0_now, .ref a0_trial, .ref a0_survey, .ref a0_mending, .ref a0_past, .ref a0_text])), (a0_now, .inr (3, [.ref a0_now_numbers])), (a0_now_numbers, .inl (cI, 352, .inl f_a0_now_numbers)), (a0_survey, .inr (4, [.ref a0_now])), (a0_mending, .inr (1, [.ref a0_mending_steps, .ref a0_mending_tried, .ref a0_mending_best, .int i_a0_mending_sum])), (a0_mending_steps, .inl (cR, 4, .inr (.inr (.inr (.inr (fun j => some (a0_mending_steps_r j))))))), ((a0_mending_steps_r 0), .inr (3, [.ref (a0_mending_steps_a 0)])), ((a0_mending_steps_a 0), .inl (cI, 352, .inl f_a0_mending_steps_0)), ((a0_mending_steps_r 1), .inr (3, [.ref (a0_mending_steps_a 1)])), ((a0_mending_steps_a 1), .inl (cI, 352, .inl f_a0_mending_steps_1)), ((a0_mending_steps_r 2), .inr (3, [.ref (a0_mending_steps_a 2)])), ((a0_mending_steps_a 2), .inl (cI, 352, .inl f_a0_mending_steps_2)), ((a0_mending_steps_r 3), .inr (3, [.ref (a0_mending_steps_a 3)])), ((a0_mending_steps_a 3), .inl (cI, 352, .inl f_a0_mending_steps_3)), (a0_mending_tried, .inl (cI, 4, .inl f_a0_mending_tried)), (a0_mending_best, .inl (cI, 4, .inl f_a0_mending_best)), (a0_past, .inr (0, [.ref a0_past_states, .int i_a0_past_oldest, .int i_a0_past_many])), (a0_text, .inr (2, [.ref a0_text_signs, .ref a0_text_numbers, .int i_a0_text_length, .int i_a0_text_at, .int i_a0_text_faultPosition, .int i_a0_text_faultReason, .int i_a0_text_faultCause]))] := by
    refine G_iload_n X dL_would_64 1 rfl ?_
    refine G_bipush X (v := 7) dL_would_65 (by decide) ?_
    refine G_ishr X dL_would_67 ?_
    refine G_bipush X (v := 6) dL_would_68 (by decide) ?_
    obtain ⟨v23, h24, h25⟩ := bnd h16
    refine G1_callsi X (As := [.int (x1 >>> (7 &&& 31)), .int 6]) (rest := []) (wr := [(a0, .inr (5, [.ref a0_now, .ref a0_trial, .ref a0_survey, .ref a0_mending, .ref a0_past, .ref a0_text])), (a0_now, .inr (3, [.ref a0_now_numbers])), (a0_now_numbers, .inl (cI, 352, .inl f_a0_now_numbers)), (a0_survey, .inr (4, [.ref a0_now])), (a0_mending, .inr (1, [.ref a0_mending_steps, .ref a0_mending_tried, .ref a0_mending_best, .int i_a0_mending_sum])), (a0_mending_steps, .inl (cR, 4, .inr (.inr (.inr (.inr (fun j => some (a0_mending_steps_r j))))))), ((a0_mending_steps_r 0), .inr (3, [.ref (a0_mending_steps_a 0)])), ((a0_mending_steps_a 0), .inl (cI, 352, .inl f_a0_mending_steps_0)), ((a0_mending_steps_r 1), .inr (3, [.ref (a0_mending_steps_a 1)])), ((a0_mending_steps_a 1), .inl (cI, 352, .inl f_a0_mending_steps_1)), ((a0_mending_steps_r 2), .inr (3, [.ref (a0_mending_steps_a 2)])), ((a0_mending_steps_a 2), .inl (cI, 352, .inl f_a0_mending_steps_2)), ((a0_mending_steps_r 3), .inr (3, [.ref (a0_mending_steps_a 3)])), ((a0_mending_steps_a 3), .inl (cI, 352, .inl f_a0_mending_steps_3)), (a0_mending_tried, .inl (cI, 4, .inl f_a0_mending_tried)), (a0_mending_best, .inl (cI, 4, .inl f_a0_mending_best)), (a0_past, .inr (0, [.ref a0_past_states, .int i_a0_past_oldest, .int i_a0_past_many])), (a0_text, .inr (2, [.ref a0_text_signs, .ref a0_text_numbers, .int i_a0_text_length, .int i_a0_text_at, .int i_a0_text_faultPosition, .int i_a0_text_faultReason, .int i_a0_text_faultCause]))]) (ws' := [(a0, .inr (5, [.ref a0_now, .ref a0_trial, .ref a0_survey, .ref a0_mending, .ref a0_past, .ref a0_text])), (a0_now, .inr (3, [.ref a0_now_numbers])), (a0_now_numbers, .inl (cI, 352, .inl f_a0_now_numbers)), (a0_survey, .inr (4, [.ref a0_now])), (a0_mending, .inr (1, [.ref a0_mending_steps, .ref a0_mending_tried, .ref a0_mending_best, .int i_a0_mending_sum])), (a0_mending_steps, .inl (cR, 4, .inr (.inr (.inr (.inr (fun j => some (a0_mending_steps_r j))))))), ((a0_mending_steps_r 0), .inr (3, [.ref (a0_mending_steps_a 0)])), ((a0_mending_steps_a 0), .inl (cI, 352, .inl f_a0_mending_steps_0)), ((a0_mending_steps_r 1), .inr (3, [.ref (a0_mending_steps_a 1)])), ((a0_mending_steps_a 1), .inl (cI, 352, .inl f_a0_mending_steps_1)), ((a0_mending_steps_r 2), .inr (3, [.ref (a0_mending_steps_a 2)])), ((a0_mending_steps_a 2), .inl (cI, 352, .inl f_a0_mending_steps_2)), ((a0_mending_steps_r 3), .inr (3, [.ref (a0_mending_steps_a 3)])), ((a0_mending_steps_a 3), .inl (cI, 352, .inl f_a0_mending_steps_3)), (a0_mending_tried, .inl (cI, 4, .inl f_a0_mending_tried)), (a0_mending_best, .inl (cI, 4, .inl f_a0_mending_best)), (a0_past, .inr (0, [.ref a0_past_states, .int i_a0_past_oldest, .int i_a0_past_many])), (a0_text, .inr (2, [.ref a0_text_signs, .ref a0_text_numbers, .int i_a0_text_length, .int i_a0_text_at, .int i_a0_text_faultPosition, .int i_a0_text_faultReason, .int i_a0_text_faultCause]))]) dL_would_70 pkL_low gL_would_L_low (kkL_low l D cI cR (x1 >>> (7 &&& 31)) 6 v23 h24) ⟨rfl, rfl⟩ ⟨Nat.le_of_ble_eq_true rfl, Nat.le_of_ble_eq_true rfl⟩ rfl rfl (Nat.le_of_ble_eq_true rfl) [] [0, 1, 2, 3, 4, 5, 6, 7, 8, 9, 10, 11, 12, 13, 14, 15, 16, 17] rfl rfl ⟨rfl, rfl, by decide⟩ ⟨Nat.zero_le _, Nat.zero_le _⟩ [0, 1, 2, 3, 4, 5, 6, 7, 8, 9, 10, 11, 12, 13, 14, 15, 16, 17] rfl rfl ?_
    refine G_iconst X (v := 1) dL_would_73 (by decide) ?_
    refine G_isub X dL_would_74 ?_
    refine G_istore X (lv' := [(7, .int (v23 - 1)), (0, .ref a0), (1, .int x1), (2, .int v1), (3, .int v4), (4, .int v7), (5, .int v10), (6, .int j14)]) dL_would_75 (by decide) rfl ?_
    refine G_aload_n X dL_would_77 1 rfl ?_
    refine G_iload X dL_would_78 0 rfl ?_
    obtain ⟨v26, h27, h28⟩ := bnd h25
    refine G1_calli X (As := [.int (v23 - 1)]) (rest := []) (wr := [(a0_survey, .inr (4, [.ref a0_now])), (a0_past, .inr (0, [.ref a0_past_states, .int i_a0_past_oldest, .int i_a0_past_many])), (a0_text, .inr (2, [.ref a0_text_signs, .ref a0_text_numbers, .int i_a0_text_length, .int i_a0_text_at, .int i_a0_text_faultPosition, .int i_a0_text_faultReason, .int i_a0_text_faultCause]))]) (ws' := [(a0, .inr (5, [.ref a0_now, .ref a0_trial, .ref a0_survey, .ref a0_mending, .ref a0_past, .ref a0_text])), (a0_now, .inr (3, [.ref a0_now_numbers])), (a0_now_numbers, .inl (cI, 352, .inl f_a0_now_numbers)), (a0_survey, .inr (4, [.ref a0_now])), (a0_mending, .inr (1, [.ref a0_mending_steps, .ref a0_mending_tried, .ref a0_mending_best, .int v26.2.1])), (a0_mending_steps, .inl (cR, 4, .inr (.inr (.inr (.inr (fun j => some (a0_mending_steps_r j))))))), ((a0_mending_steps_r 0), .inr (3, [.ref (a0_mending_steps_a 0)])), ((a0_mending_steps_a 0), .inl (cI, 352, .inl v26.2.2.1)), ((a0_mending_steps_r 1), .inr (3, [.ref (a0_mending_steps_a 1)])), ((a0_mending_steps_a 1), .inl (cI, 352, .inl v26.2.2.2.1)), ((a0_mending_steps_r 2), .inr (3, [.ref (a0_mending_steps_a 2)])), ((a0_mending_steps_a 2), .inl (cI, 352, .inl v26.2.2.2.2.1)), ((a0_mending_steps_r 3), .inr (3, [.ref (a0_mending_steps_a 3)])), ((a0_mending_steps_a 3), .inl (cI, 352, .inl v26.2.2.2.2.2.1)), (a0_mending_tried, .inl (cI, 4, .inl v26.2.2.2.2.2.2.1)), (a0_mending_best, .inl (cI, 4, .inl v26.2.2.2.2.2.2.2)), (a0_past, .inr (0, [.ref a0_past_states, .int i_a0_past_oldest, .int i_a0_past_many])), (a0_text, .inr (2, [.ref a0_text_signs, .ref a0_text_numbers, .int i_a0_text_length, .int i_a0_text_at, .int i_a0_text_faultPosition, .int i_a0_text_faultReason, .int i_a0_text_faultCause]))]) dL_would_80 pkX5_order gL_would_X5_order (kkX5_order l D cI cR a0 a0_now a0_trial a0_survey a0_mending a0_past a0_text a0_now_numbers a0_mending_steps a0_mending_tried a0_mending_best a0_mending_steps_r a0_mending_steps_a f_a0_now_numbers i_a0_mending_sum f_a0_mending_steps_0 f_a0_mending_steps_1 f_a0_mending_steps_2 f_a0_mending_steps_3 f_a0_mending_tried f_a0_mending_best (v23 - 1) v26 h27) ⟨rfl, rfl⟩ ⟨Nat.le_of_ble_eq_true rfl, Nat.le_of_ble_eq_true rfl⟩ rfl rfl (Nat.le_of_ble_eq_true rfl) 0 rfl rfl [0, 1, 2, 4, 5, 6, 7, 8, 9, 10, 11, 12, 13, 14, 15] [3, 16, 17] rfl rfl ⟨rfl, rfl, by decide⟩ ⟨Nat.zero_le _, Nat.zero_le _⟩ [3, 4, 5, 0, 6, 7, 8, 9, 10, 11, 12, 13, 14, 15, 16, 17, 1, 2] rfl rfl ?_
    refine G_istore X (lv' := [(8, .int v26.1), (7, .int (v23 - 1)), (0, .ref a0), (1, .int x1), (2, .int v1), (3, .int v4), (4, .int v7), (5, .int v10), (6, .int j14)]) dL_would_83 (by decide) rfl ?_
    refine G_aload_n X dL_would_85 2 rfl ?_
    obtain ⟨v29, h30, h31⟩ := bnd h28
    refine G1_calli X (As := []) (rest := []) (wr := [(a0_survey, .inr (4, [.ref a0_now])), (a0_past, .inr (0, [.ref a0_past_states, .int i_a0_past_oldest, .int i_a0_past_many])), (a0_text, .inr (2, [.ref a0_text_signs, .ref a0_text_numbers, .int i_a0_text_length, .int i_a0_text_at, .int i_a0_text_faultPosition, .int i_a0_text_faultReason, .int i_a0_text_faultCause]))]) (ws' := [(a0, .inr (5, [.ref a0_now, .ref a0_trial, .ref a0_survey, .ref a0_mending, .ref a0_past, .ref a0_text])), (a0_now, .inr (3, [.ref a0_now_numbers])), (a0_now_numbers, .inl (cI, 352, .inl f_a0_now_numbers)), (a0_survey, .inr (4, [.ref a0_now])), (a0_mending, .inr (1, [.ref a0_mending_steps, .ref a0_mending_tried, .ref a0_mending_best, .int v29.2.1])), (a0_mending_steps, .inl (cR, 4, .inr (.inr (.inr (.inr (fun j => some (a0_mending_steps_r j))))))), ((a0_mending_steps_r 0), .inr (3, [.ref (a0_mending_steps_a 0)])), ((a0_mending_steps_a 0), .inl (cI, 352, .inl v29.2.2.1)), ((a0_mending_steps_r 1), .inr (3, [.ref (a0_mending_steps_a 1)])), ((a0_mending_steps_a 1), .inl (cI, 352, .inl v29.2.2.2.1)), ((a0_mending_steps_r 2), .inr (3, [.ref (a0_mending_steps_a 2)])), ((a0_mending_steps_a 2), .inl (cI, 352, .inl v29.2.2.2.2.1)), ((a0_mending_steps_r 3), .inr (3, [.ref (a0_mending_steps_a 3)])), ((a0_mending_steps_a 3), .inl (cI, 352, .inl v29.2.2.2.2.2.1)), (a0_mending_tried, .inl (cI, 4, .inl v29.2.2.2.2.2.2.1)), (a0_mending_best, .inl (cI, 4, .inl v29.2.2.2.2.2.2.2)), (a0_past, .inr (0, [.ref a0_past_states, .int i_a0_past_oldest, .int i_a0_past_many])), (a0_text, .inr (2, [.ref a0_text_signs, .ref a0_text_numbers, .int i_a0_text_length, .int i_a0_text_at, .int i_a0_text_faultPosition, .int i_a0_text_faultReason, .int i_a0_text_faultCause]))]) dL_would_86 pkX5_comes gL_would_X5_comes (kkX5_comes l D cI cR a0 a0_now a0_trial a0_survey a0_mending a0_past a0_text a0_now_numbers a0_mending_steps a0_mending_tried a0_mending_best a0_mending_steps_r a0_mending_steps_a f_a0_now_numbers v26.2.1 v26.2.2.1 v26.2.2.2.1 v26.2.2.2.2.1 v26.2.2.2.2.2.1 v26.2.2.2.2.2.2.1 v26.2.2.2.2.2.2.2 v29 h30) ⟨rfl, rfl⟩ ⟨Nat.le_of_ble_eq_true rfl, Nat.le_of_ble_eq_true rfl⟩ rfl rfl (Nat.le_of_ble_eq_true rfl) 0 rfl rfl [0, 1, 2, 4, 5, 6, 7, 8, 9, 10, 11, 12, 13, 14, 15] [3, 16, 17] rfl rfl ⟨rfl, rfl, by decide⟩ ⟨Nat.zero_le _, Nat.zero_le _⟩ [3, 4, 5, 0, 6, 7, 8, 9, 10, 11, 12, 13, 14, 15, 16, 17, 1, 2] rfl rfl ?_
    refine G_istore X (lv' := [(9, .int v29.1), (8, .int v26.1), (7, .int (v23 - 1)), (0, .ref a0), (1, .int x1), (2, .int v1), (3, .int v4), (4, .int v7), (5, .int v10), (6, .int j14)]) dL_would_89 (by decide) rfl ?_
    refine G_aload_n X dL_would_91 3 rfl ?_
    obtain ⟨v32, h33, h34⟩ := bnd h31
    refine G1_calli X (As := []) (rest := []) (wr := [(a0_mending, .inr (1, [.ref a0_mending_steps, .ref a0_mending_tried, .ref a0_mending_best, .int v29.2.1])), (a0_mending_steps, .inl (cR, 4, .inr (.inr (.inr (.inr (fun j => some (a0_mending_steps_r j))))))), ((a0_mending_steps_r 0), .inr (3, [.ref (a0_mending_steps_a 0)])), ((a0_mending_steps_a 0), .inl (cI, 352, .inl v29.2.2.1)), ((a0_mending_steps_r 1), .inr (3, [.ref (a0_mending_steps_a 1)])), ((a0_mending_steps_a 1), .inl (cI, 352, .inl v29.2.2.2.1)), ((a0_mending_steps_r 2), .inr (3, [.ref (a0_mending_steps_a 2)])), ((a0_mending_steps_a 2), .inl (cI, 352, .inl v29.2.2.2.2.1)), ((a0_mending_steps_r 3), .inr (3, [.ref (a0_mending_steps_a 3)])), ((a0_mending_steps_a 3), .inl (cI, 352, .inl v29.2.2.2.2.2.1)), (a0_mending_tried, .inl (cI, 4, .inl v29.2.2.2.2.2.2.1)), (a0_mending_best, .inl (cI, 4, .inl v29.2.2.2.2.2.2.2)), (a0_past, .inr (0, [.ref a0_past_states, .int i_a0_past_oldest, .int i_a0_past_many])), (a0_text, .inr (2, [.ref a0_text_signs, .ref a0_text_numbers, .int i_a0_text_length, .int i_a0_text_at, .int i_a0_text_faultPosition, .int i_a0_text_faultReason, .int i_a0_text_faultCause]))]) (ws' := [(a0, .inr (5, [.ref a0_now, .ref a0_trial, .ref a0_survey, .ref a0_mending, .ref a0_past, .ref a0_text])), (a0_now, .inr (3, [.ref a0_now_numbers])), (a0_now_numbers, .inl (cI, 352, .inl f_a0_now_numbers)), (a0_survey, .inr (4, [.ref a0_now])), (a0_mending, .inr (1, [.ref a0_mending_steps, .ref a0_mending_tried, .ref a0_mending_best, .int v29.2.1])), (a0_mending_steps, .inl (cR, 4, .inr (.inr (.inr (.inr (fun j => some (a0_mending_steps_r j))))))), ((a0_mending_steps_r 0), .inr (3, [.ref (a0_mending_steps_a 0)])), ((a0_mending_steps_a 0), .inl (cI, 352, .inl v29.2.2.1)), ((a0_mending_steps_r 1), .inr (3, [.ref (a0_mending_steps_a 1)])), ((a0_mending_steps_a 1), .inl (cI, 352, .inl v29.2.2.2.1)), ((a0_mending_steps_r 2), .inr (3, [.ref (a0_mending_steps_a 2)])), ((a0_mending_steps_a 2), .inl (cI, 352, .inl v29.2.2.2.2.1)), ((a0_mending_steps_r 3), .inr (3, [.ref (a0_mending_steps_a 3)])), ((a0_mending_steps_a 3), .inl (cI, 352, .inl v29.2.2.2.2.2.1)), (a0_mending_tried, .inl (cI, 4, .inl v29.2.2.2.2.2.2.1)), (a0_mending_best, .inl (cI, 4, .inl v29.2.2.2.2.2.2.2)), (a0_past, .inr (0, [.ref a0_past_states, .int i_a0_past_oldest, .int i_a0_past_many])), (a0_text, .inr (2, [.ref a0_text_signs, .ref a0_text_numbers, .int i_a0_text_length, .int i_a0_text_at, .int i_a0_text_faultPosition, .int i_a0_text_faultReason, .int i_a0_text_faultCause]))]) dL_would_92 pkX5_safeFor gL_would_X5_safeFor (kkX5_safeFor l D cI cR a0 a0_now a0_trial a0_survey a0_mending a0_past a0_text a0_now a0_now_numbers f_a0_now_numbers v32 h33) ⟨rfl, rfl⟩ ⟨Nat.le_of_ble_eq_true rfl, Nat.le_of_ble_eq_true rfl⟩ rfl rfl (Nat.le_of_ble_eq_true rfl) 0 rfl rfl [0, 3, 1, 2] [4, 5, 6, 7, 8, 9, 10, 11, 12, 13, 14, 15, 16, 17] rfl rfl ⟨rfl, rfl, by decide⟩ ⟨Nat.zero_le _, Nat.zero_le _⟩ [14, 16, 17, 15, 0, 1, 2, 3, 4, 5, 6, 7, 8, 9, 10, 11, 12, 13] rfl rfl ?_
    refine G_istore X (lv' := [(10, .int v32), (9, .int v29.1), (8, .int v26.1), (7, .int (v23 - 1)), (0, .ref a0), (1, .int x1), (2, .int v1), (3, .int v4), (4, .int v7), (5, .int v10), (6, .int j14)]) dL_would_95 (by decide) rfl ?_
    refine G_iload_n X dL_would_97 7 rfl ?_
    refine G_iload_n X dL_would_98 6 rfl ?_
    obtain ⟨j35, h36, h37⟩ := bnd h34
    have J38 : G p l e rmL_would s m args below meth c D A 12 Q 0 0 202 [(0, .ref a0), (6, .int j14), (7, .int (v23 - 1)), (8, .int v26.1), (9, .int v29.1), (10, .int v32)] [.int j35] [(a0, .inr (5, [.ref a0_now, .ref a0_trial, .ref a0_survey, .ref a0_mending, .ref a0_past, .ref a0_text])), (a0_now, .inr (3, [.ref a0_now_numbers])), (a0_now_numbers, .inl (cI, 352, .inl f_a0_now_numbers)), (a0_survey, .inr (4, [.ref a0_now])), (a0_mending, .inr (1, [.ref a0_mending_steps, .ref a0_mending_tried, .ref a0_mending_best, .int v29.2.1])), (a0_mending_steps, .inl (cR, 4, .inr (.inr (.inr (.inr (fun j => some (a0_mending_steps_r j))))))), ((a0_mending_steps_r 0), .inr (3, [.ref (a0_mending_steps_a 0)])), ((a0_mending_steps_a 0), .inl (cI, 352, .inl v29.2.2.1)), ((a0_mending_steps_r 1), .inr (3, [.ref (a0_mending_steps_a 1)])), ((a0_mending_steps_a 1), .inl (cI, 352, .inl v29.2.2.2.1)), ((a0_mending_steps_r 2), .inr (3, [.ref (a0_mending_steps_a 2)])), ((a0_mending_steps_a 2), .inl (cI, 352, .inl v29.2.2.2.2.1)), ((a0_mending_steps_r 3), .inr (3, [.ref (a0_mending_steps_a 3)])), ((a0_mending_steps_a 3), .inl (cI, 352, .inl v29.2.2.2.2.2.1)), (a0_mending_tried, .inl (cI, 4, .inl v29.2.2.2.2.2.2.1)), (a0_mending_best, .inl (cI, 4, .inl v29.2.2.2.2.2.2.2)), (a0_past, .inr (0, [.ref a0_past_states, .int i_a0_past_oldest, .int i_a0_past_many])), (a0_text, .inr (2, [.ref a0_text_signs, .ref a0_text_numbers, .int i_a0_text_length, .int i_a0_text_at, .int i_a0_text_faultPosition, .int i_a0_text_faultReason, .int i_a0_text_faultCause]))] := by
      refine G_istore X (lv' := [(11, .int j35), (0, .ref a0), (6, .int j14), (7, .int (v23 - 1)), (8, .int v26.1), (9, .int v29.1), (10, .int v32)]) dL_would_202 (by decide) rfl ?_
      refine G_iload X dL_would_204 0 rfl ?_
      obtain ⟨j39, h40, h41⟩ := bnd h37
      have J42 : G p l e rmL_would s m args below meth c D A 12 Q 0 0 308 [(0, .ref a0), (10, .int v32)] [.int j39] [(a0, .inr (5, [.ref a0_now, .ref a0_trial, .ref a0_survey, .ref a0_mending, .ref a0_past, .ref a0_text])), (a0_now, .inr (3, [.ref a0_now_numbers])), (a0_now_numbers, .inl (cI, 352, .inl f_a0_now_numbers)), (a0_survey, .inr (4, [.ref a0_now])), (a0_mending, .inr (1, [.ref a0_mending_steps, .ref a0_mending_tried, .ref a0_mending_best, .int v29.2.1])), (a0_mending_steps, .inl (cR, 4, .inr (.inr (.inr (.inr (fun j => some (a0_mending_steps_r j))))))), ((a0_mending_steps_r 0), .inr (3, [.ref (a0_mending_steps_a 0)])), ((a0_mending_steps_a 0), .inl (cI, 352, .inl v29.2.2.1)), ((a0_mending_steps_r 1), .inr (3, [.ref (a0_mending_steps_a 1)])), ((a0_mending_steps_a 1), .inl (cI, 352, .inl v29.2.2.2.1)), ((a0_mending_steps_r 2), .inr (3, [.ref (a0_mending_steps_a 2)])), ((a0_mending_steps_a 2), .inl (cI, 352, .inl v29.2.2.2.2.1)), ((a0_mending_steps_r 3), .inr (3, [.ref (a0_mending_steps_a 3)])), ((a0_mending_steps_a 3), .inl (cI, 352, .inl v29.2.2.2.2.2.1)), (a0_mending_tried, .inl (cI, 4, .inl v29.2.2.2.2.2.2.1)), (a0_mending_best, .inl (cI, 4, .inl v29.2.2.2.2.2.2.2)), (a0_past, .inr (0, [.ref a0_past_states, .int i_a0_past_oldest, .int i_a0_past_many])), (a0_text, .inr (2, [.ref a0_text_signs, .ref a0_text_numbers, .int i_a0_text_length, .int i_a0_text_at, .int i_a0_text_faultPosition, .int i_a0_text_faultReason, .int i_a0_text_faultCause]))] := by
        refine G_istore X (lv' := [(11, .int j39), (0, .ref a0), (10, .int v32)]) dL_would_308 (by decide) rfl ?_
        refine G_iload X dL_would_310 0 rfl ?_
        refine G_if_eq X (tgt := 353) dL_would_312 (by decide) (fun h43 => ?_) (fun h43 => ?_)
        · have h44 := ifp h43 h41
          refine G_iconst X (v := 0) dL_would_353 (by decide) ?_
          cases h44
          exact rt _ _ _ _ dL_would_354 rfl ⟨rfl, rfl⟩
        · have h45 := ifn h43 h41
          refine G_iload X dL_would_315 2 rfl ?_
          refine G_ldc X dL_would_317 flL_would_38 ?_
          refine G_icmp_eq X (tgt := 349) dL_would_319 (by decide) (fun h46 => ?_) (fun h46 => ?_)
          · have h47 := ifp h46 h45
            refine G_iconst X (v := 1) dL_would_349 (by decide) ?_
            refine G_goto X (tgt := 354) dL_would_350 (by decide) ?_
            cases h47
            exact rt _ _ _ _ dL_would_354 rfl ⟨rfl, rfl⟩
          · have h48 := ifn h46 h45
            refine G_iload X dL_would_322 2 rfl ?_
            refine G_iconst X (v := 1) dL_would_324 (by decide) ?_
            refine G_icmp_lt X (tgt := 353) dL_would_325 (by decide) (fun h49 => ?_) (fun h49 => ?_)
            · have h50 := ifp h49 h48
              refine G_iconst X (v := 0) dL_would_353 (by decide) ?_
              cases h50
              exact rt _ _ _ _ dL_would_354 rfl ⟨rfl, rfl⟩
            · have h51 := ifn h49 h48
              refine G_iload X dL_would_328 2 rfl ?_
              refine G_aload_n X dL_would_330 1 rfl ?_
              refine G_bipush X (v := 21) dL_would_331 (by decide) ?_
              obtain ⟨v52, h53, h54⟩ := bnd h51
              refine G1_calli X (As := [.int 21]) (rest := [.int v32]) (wr := [(a0_mending, .inr (1, [.ref a0_mending_steps, .ref a0_mending_tried, .ref a0_mending_best, .int v29.2.1])), (a0_mending_steps, .inl (cR, 4, .inr (.inr (.inr (.inr (fun j => some (a0_mending_steps_r j))))))), ((a0_mending_steps_r 0), .inr (3, [.ref (a0_mending_steps_a 0)])), ((a0_mending_steps_a 0), .inl (cI, 352, .inl v29.2.2.1)), ((a0_mending_steps_r 1), .inr (3, [.ref (a0_mending_steps_a 1)])), ((a0_mending_steps_a 1), .inl (cI, 352, .inl v29.2.2.2.1)), ((a0_mending_steps_r 2), .inr (3, [.ref (a0_mending_steps_a 2)])), ((a0_mending_steps_a 2), .inl (cI, 352, .inl v29.2.2.2.2.1)), ((a0_mending_steps_r 3), .inr (3, [.ref (a0_mending_steps_a 3)])), ((a0_mending_steps_a 3), .inl (cI, 352, .inl v29.2.2.2.2.2.1)), (a0_mending_tried, .inl (cI, 4, .inl v29.2.2.2.2.2.2.1)), (a0_mending_best, .inl (cI, 4, .inl v29.2.2.2.2.2.2.2))]) (ws' := [(a0, .inr (5, [.ref a0_now, .ref a0_trial, .ref a0_survey, .ref a0_mending, .ref a0_past, .ref a0_text])), (a0_now, .inr (3, [.ref a0_now_numbers])), (a0_now_numbers, .inl (cI, 352, .inl f_a0_now_numbers)), (a0_survey, .inr (4, [.ref a0_now])), (a0_mending, .inr (1, [.ref a0_mending_steps, .ref a0_mending_tried, .ref a0_mending_best, .int v29.2.1])), (a0_mending_steps, .inl (cR, 4, .inr (.inr (.inr (.inr (fun j => some (a0_mending_steps_r j))))))), ((a0_mending_steps_r 0), .inr (3, [.ref (a0_mending_steps_a 0)])), ((a0_mending_steps_a 0), .inl (cI, 352, .inl v29.2.2.1)), ((a0_mending_steps_r 1), .inr (3, [.ref (a0_mending_steps_a 1)])), ((a0_mending_steps_a 1), .inl (cI, 352, .inl v29.2.2.2.1)), ((a0_mending_steps_r 2), .inr (3, [.ref (a0_mending_steps_a 2)])), ((a0_mending_steps_a 2), .inl (cI, 352, .inl v29.2.2.2.2.1)), ((a0_mending_steps_r 3), .inr (3, [.ref (a0_mending_steps_a 3)])), ((a0_mending_steps_a 3), .inl (cI, 352, .inl v29.2.2.2.2.2.1)), (a0_mending_tried, .inl (cI, 4, .inl v29.2.2.2.2.2.2.1)), (a0_mending_best, .inl (cI, 4, .inl v29.2.2.2.2.2.2.2)), (a0_past, .inr (0, [.ref a0_past_states, .int i_a0_past_oldest, .int i_a0_past_many])), (a0_text, .inr (2, [.ref a0_text_signs, .ref a0_text_numbers, .int i_a0_text_length, .int i_a0_text_at, .int i_a0_text_faultPosition, .int i_a0_text_faultReason, .int i_a0_text_faultCause]))]) dL_would_333 pkX5_count gL_would_X5_count (kkX5_count l D cI cR a0 a0_now a0_trial a0_survey a0_mending a0_past a0_text a0_now a0_now_numbers a0_past_states a0_text_signs a0_text_numbers f_a0_now_numbers i_a0_past_oldest i_a0_past_many i_a0_text_length i_a0_text_at i_a0_text_faultPosition i_a0_text_faultReason i_a0_text_faultCause 21 v52 h53) ⟨rfl, rfl⟩ ⟨Nat.le_of_ble_eq_true rfl, Nat.le_of_ble_eq_true rfl⟩ rfl rfl (Nat.le_of_ble_eq_true rfl) 0 rfl rfl [0, 3, 1, 2, 16, 17] [4, 5, 6, 7, 8, 9, 10, 11, 12, 13, 14, 15] rfl rfl ⟨rfl, rfl, by decide⟩ ⟨Nat.zero_le _, Nat.zero_le _⟩ [12, 14, 15, 13, 0, 1, 2, 3, 4, 5, 6, 7, 8, 9, 10, 11, 16, 17] rfl rfl ?_
              refine G_iconst X (v := 1) dL_would_336 (by decide) ?_
              refine G_iadd X dL_would_337 ?_
              refine G_icmp_gt X (tgt := 353) dL_would_338 (by decide) (fun h55 => ?_) (fun h55 => ?_)
              · have h56 := ifp h55 h54
                refine G_iconst X (v := 0) dL_would_353 (by decide) ?_
                cases h56
                exact rt _ _ _ _ dL_would_354 rfl ⟨rfl, rfl⟩
              · have h57 := ifn h55 h54
                refine G_aload_n X dL_would_341 1 rfl ?_
                refine G_iconst X (v := 3) dL_would_342 (by decide) ?_
                obtain ⟨v58, h59, h60⟩ := bnd h57
                refine G1_calli X (As := [.int 3]) (rest := []) (wr := [(a0_mending, .inr (1, [.ref a0_mending_steps, .ref a0_mending_tried, .ref a0_mending_best, .int v29.2.1])), (a0_mending_steps, .inl (cR, 4, .inr (.inr (.inr (.inr (fun j => some (a0_mending_steps_r j))))))), ((a0_mending_steps_r 0), .inr (3, [.ref (a0_mending_steps_a 0)])), ((a0_mending_steps_a 0), .inl (cI, 352, .inl v29.2.2.1)), ((a0_mending_steps_r 1), .inr (3, [.ref (a0_mending_steps_a 1)])), ((a0_mending_steps_a 1), .inl (cI, 352, .inl v29.2.2.2.1)), ((a0_mending_steps_r 2), .inr (3, [.ref (a0_mending_steps_a 2)])), ((a0_mending_steps_a 2), .inl (cI, 352, .inl v29.2.2.2.2.1)), ((a0_mending_steps_r 3), .inr (3, [.ref (a0_mending_steps_a 3)])), ((a0_mending_steps_a 3), .inl (cI, 352, .inl v29.2.2.2.2.2.1)), (a0_mending_tried, .inl (cI, 4, .inl v29.2.2.2.2.2.2.1)), (a0_mending_best, .inl (cI, 4, .inl v29.2.2.2.2.2.2.2))]) (ws' := [(a0, .inr (5, [.ref a0_now, .ref a0_trial, .ref a0_survey, .ref a0_mending, .ref a0_past, .ref a0_text])), (a0_now, .inr (3, [.ref a0_now_numbers])), (a0_now_numbers, .inl (cI, 352, .inl f_a0_now_numbers)), (a0_survey, .inr (4, [.ref a0_now])), (a0_mending, .inr (1, [.ref a0_mending_steps, .ref a0_mending_tried, .ref a0_mending_best, .int v29.2.1])), (a0_mending_steps, .inl (cR, 4, .inr (.inr (.inr (.inr (fun j => some (a0_mending_steps_r j))))))), ((a0_mending_steps_r 0), .inr (3, [.ref (a0_mending_steps_a 0)])), ((a0_mending_steps_a 0), .inl (cI, 352, .inl v29.2.2.1)), ((a0_mending_steps_r 1), .inr (3, [.ref (a0_mending_steps_a 1)])), ((a0_mending_steps_a 1), .inl (cI, 352, .inl v29.2.2.2.1)), ((a0_mending_steps_r 2), .inr (3, [.ref (a0_mending_steps_a 2)])), ((a0_mending_steps_a 2), .inl (cI, 352, .inl v29.2.2.2.2.1)), ((a0_mending_steps_r 3), .inr (3, [.ref (a0_mending_steps_a 3)])), ((a0_mending_steps_a 3), .inl (cI, 352, .inl v29.2.2.2.2.2.1)), (a0_mending_tried, .inl (cI, 4, .inl v29.2.2.2.2.2.2.1)), (a0_mending_best, .inl (cI, 4, .inl v29.2.2.2.2.2.2.2)), (a0_past, .inr (0, [.ref a0_past_states, .int i_a0_past_oldest, .int i_a0_past_many])), (a0_text, .inr (2, [.ref a0_text_signs, .ref a0_text_numbers, .int i_a0_text_length, .int i_a0_text_at, .int i_a0_text_faultPosition, .int i_a0_text_faultReason, .int i_a0_text_faultCause]))]) dL_would_343 pkX5_count gL_would_X5_count (kkX5_count l D cI cR a0 a0_now a0_trial a0_survey a0_mending a0_past a0_text a0_now a0_now_numbers a0_past_states a0_text_signs a0_text_numbers f_a0_now_numbers i_a0_past_oldest i_a0_past_many i_a0_text_length i_a0_text_at i_a0_text_faultPosition i_a0_text_faultReason i_a0_text_faultCause 3 v58 h59) ⟨rfl, rfl⟩ ⟨Nat.le_of_ble_eq_true rfl, Nat.le_of_ble_eq_true rfl⟩ rfl rfl (Nat.le_of_ble_eq_true rfl) 0 rfl rfl [0, 3, 1, 2, 16, 17] [4, 5, 6, 7, 8, 9, 10, 11, 12, 13, 14, 15] rfl rfl ⟨rfl, rfl, by decide⟩ ⟨Nat.zero_le _, Nat.zero_le _⟩ [12, 14, 15, 13, 0, 1, 2, 3, 4, 5, 6, 7, 8, 9, 10, 11, 16, 17] rfl rfl ?_
                refine G_if_eq X (tgt := 353) dL_would_346 (by decide) (fun h61 => ?_) (fun h61 => ?_)
                · have h62 := ifp h61 h60
                  refine G_iconst X (v := 0) dL_would_353 (by decide) ?_
                  cases h62
                  exact rt _ _ _ _ dL_would_354 rfl ⟨rfl, rfl⟩
                · have h63 := ifn h61 h60
                  refine G_iconst X (v := 1) dL_would_349 (by decide) ?_
                  refine G_goto X (tgt := 354) dL_would_350 (by decide) ?_
                  cases h63
                  exact rt _ _ _ _ dL_would_354 rfl ⟨rfl, rfl⟩
      refine G_if_eq X (tgt := 307) dL_would_206 (by decide) (fun h64 => ?_) (fun h64 => ?_)
      · have h65 := ifp h64 h40
        refine G_iconst X (v := 0) dL_would_307 (by decide) ?_
        cases h65
        exact G_lv [1, 6] rfl (J42)
      · have h66 := ifn h64 h40
        refine G_iload X dL_would_209 3 rfl ?_
        refine G_if_ge X (tgt := 224) dL_would_211 (by decide) (fun h67 => ?_) (fun h67 => ?_)
        · have h68 := ifp h67 h66
          refine G_iload X dL_would_224 2 rfl ?_
          refine G_iconst X (v := 4) dL_would_226 (by decide) ?_
          refine G_icmp_le X (tgt := 240) dL_would_227 (by decide) (fun h69 => ?_) (fun h69 => ?_)
          · have h70 := ifp h69 h68
            refine G_iload X dL_would_240 3 rfl ?_
            refine G_iload X dL_would_242 2 rfl ?_
            refine G_icmp_lt X (tgt := 257) dL_would_244 (by decide) (fun h71 => ?_) (fun h71 => ?_)
            · have h72 := ifp h71 h70
              refine G_iload X dL_would_257 4 rfl ?_
              refine G_if_lt X (tgt := 307) dL_would_259 (by decide) (fun h73 => ?_) (fun h73 => ?_)
              · have h74 := ifp h73 h72
                refine G_iconst X (v := 0) dL_would_307 (by decide) ?_
                cases h74
                exact G_lv [1, 6] rfl (J42)
              · have h75 := ifn h73 h72
                refine G_aload_n X dL_would_262 1 rfl ?_
                refine G_iload X dL_would_263 4 rfl ?_
                refine G_iconst X (v := 1) dL_would_265 (by decide) ?_
                obtain ⟨v76, h77, h78⟩ := bnd h75
                refine G1_calli X (As := [.int v26.1, .int 1]) (rest := []) (wr := [(a0_mending, .inr (1, [.ref a0_mending_steps, .ref a0_mending_tried, .ref a0_mending_best, .int v29.2.1])), (a0_mending_steps, .inl (cR, 4, .inr (.inr (.inr (.inr (fun j => some (a0_mending_steps_r j))))))), ((a0_mending_steps_r 0), .inr (3, [.ref (a0_mending_steps_a 0)])), ((a0_mending_steps_a 0), .inl (cI, 352, .inl v29.2.2.1)), ((a0_mending_steps_r 1), .inr (3, [.ref (a0_mending_steps_a 1)])), ((a0_mending_steps_a 1), .inl (cI, 352, .inl v29.2.2.2.1)), ((a0_mending_steps_r 2), .inr (3, [.ref (a0_mending_steps_a 2)])), ((a0_mending_steps_a 2), .inl (cI, 352, .inl v29.2.2.2.2.1)), ((a0_mending_steps_r 3), .inr (3, [.ref (a0_mending_steps_a 3)])), ((a0_mending_steps_a 3), .inl (cI, 352, .inl v29.2.2.2.2.2.1)), (a0_mending_tried, .inl (cI, 4, .inl v29.2.2.2.2.2.2.1)), (a0_mending_best, .inl (cI, 4, .inl v29.2.2.2.2.2.2.2)), (a0_past, .inr (0, [.ref a0_past_states, .int i_a0_past_oldest, .int i_a0_past_many])), (a0_text, .inr (2, [.ref a0_text_signs, .ref a0_text_numbers, .int i_a0_text_length, .int i_a0_text_at, .int i_a0_text_faultPosition, .int i_a0_text_faultReason, .int i_a0_text_faultCause]))]) (ws' := [(a0, .inr (5, [.ref a0_now, .ref a0_trial, .ref a0_survey, .ref a0_mending, .ref a0_past, .ref a0_text])), (a0_now, .inr (3, [.ref a0_now_numbers])), (a0_now_numbers, .inl (cI, 352, .inl f_a0_now_numbers)), (a0_survey, .inr (4, [.ref a0_now])), (a0_mending, .inr (1, [.ref a0_mending_steps, .ref a0_mending_tried, .ref a0_mending_best, .int v29.2.1])), (a0_mending_steps, .inl (cR, 4, .inr (.inr (.inr (.inr (fun j => some (a0_mending_steps_r j))))))), ((a0_mending_steps_r 0), .inr (3, [.ref (a0_mending_steps_a 0)])), ((a0_mending_steps_a 0), .inl (cI, 352, .inl v29.2.2.1)), ((a0_mending_steps_r 1), .inr (3, [.ref (a0_mending_steps_a 1)])), ((a0_mending_steps_a 1), .inl (cI, 352, .inl v29.2.2.2.1)), ((a0_mending_steps_r 2), .inr (3, [.ref (a0_mending_steps_a 2)])), ((a0_mending_steps_a 2), .inl (cI, 352, .inl v29.2.2.2.2.1)), ((a0_mending_steps_r 3), .inr (3, [.ref (a0_mending_steps_a 3)])), ((a0_mending_steps_a 3), .inl (cI, 352, .inl v29.2.2.2.2.2.1)), (a0_mending_tried, .inl (cI, 4, .inl v29.2.2.2.2.2.2.1)), (a0_mending_best, .inl (cI, 4, .inl v29.2.2.2.2.2.2.2)), (a0_past, .inr (0, [.ref a0_past_states, .int i_a0_past_oldest, .int i_a0_past_many])), (a0_text, .inr (2, [.ref a0_text_signs, .ref a0_text_numbers, .int i_a0_text_length, .int i_a0_text_at, .int i_a0_text_faultPosition, .int i_a0_text_faultReason, .int i_a0_text_faultCause]))]) dL_would_266 pkX5_row gL_would_X5_row (kkX5_row l D cI cR a0 a0_now a0_trial a0_survey a0_mending a0_past a0_text a0_now a0_now_numbers f_a0_now_numbers v26.1 1 v76 h77) ⟨rfl, rfl⟩ ⟨Nat.le_of_ble_eq_true rfl, Nat.le_of_ble_eq_true rfl⟩ rfl rfl (Nat.le_of_ble_eq_true rfl) 0 rfl rfl [0, 3, 1, 2] [4, 5, 6, 7, 8, 9, 10, 11, 12, 13, 14, 15, 16, 17] rfl rfl ⟨rfl, rfl, by decide⟩ ⟨Nat.zero_le _, Nat.zero_le _⟩ [14, 16, 17, 15, 0, 1, 2, 3, 4, 5, 6, 7, 8, 9, 10, 11, 12, 13] rfl rfl ?_
                refine G_if_ne X (tgt := 307) dL_would_269 (by decide) (fun h79 => ?_) (fun h79 => ?_)
                · have h80 := ifp h79 h78
                  refine G_iload X dL_would_272 2 rfl ?_
                  refine G_iconst X (v := 4) dL_would_274 (by decide) ?_
                  refine G_icmp_le X (tgt := 288) dL_would_275 (by decide) (fun h81 => ?_) (fun h81 => ?_)
                  · have h82 := ifp h81 h80
                    refine G_iload X dL_would_288 5 rfl ?_
                    refine G_if_lt X (tgt := 307) dL_would_290 (by decide) (fun h83 => ?_) (fun h83 => ?_)
                    · have h84 := ifp h83 h82
                      refine G_iconst X (v := 0) dL_would_307 (by decide) ?_
                      cases h84
                      exact G_lv [1, 6] rfl (J42)
                    · have h85 := ifn h83 h82
                      refine G_iload X dL_would_293 5 rfl ?_
                      refine G_bipush X (v := 8) dL_would_295 (by decide) ?_
                      refine G_iload X dL_would_297 2 rfl ?_
                      refine G_imul X dL_would_299 ?_
                      refine G_icmp_gt X (tgt := 307) dL_would_300 (by decide) (fun h86 => ?_) (fun h86 => ?_)
                      · have h87 := ifp h86 h85
                        refine G_iconst X (v := 0) dL_would_307 (by decide) ?_
                        cases h87
                        exact G_lv [1, 6] rfl (J42)
                      · have h88 := ifn h86 h85
                        refine G_iconst X (v := 1) dL_would_303 (by decide) ?_
                        refine G_goto X (tgt := 308) dL_would_304 (by decide) ?_
                        cases h88
                        exact G_lv [1, 6] rfl (J42)
                  · have h89 := ifn h81 h80
                    refine G_iload X dL_would_278 5 rfl ?_
                    refine G_ldc X dL_would_280 flL_would_60 ?_
                    refine G_icmp_ne X (tgt := 307) dL_would_282 (by decide) (fun h90 => ?_) (fun h90 => ?_)
                    · have h91 := ifp h90 h89
                      refine G_goto X (tgt := 303) dL_would_285 (by decide) ?_
                      refine G_iconst X (v := 1) dL_would_303 (by decide) ?_
                      refine G_goto X (tgt := 308) dL_would_304 (by decide) ?_
                      cases h91
                      exact G_lv [1, 6] rfl (J42)
                    · have h92 := ifn h90 h89
                      refine G_iconst X (v := 0) dL_would_307 (by decide) ?_
                      cases h92
                      exact G_lv [1, 6] rfl (J42)
                · have h93 := ifn h79 h78
                  refine G_iconst X (v := 0) dL_would_307 (by decide) ?_
                  cases h93
                  exact G_lv [1, 6] rfl (J42)
            · have h94 := ifn h71 h70
              refine G_iload X dL_would_247 4 rfl ?_
              refine G_ldc X dL_would_249 flL_would_38 ?_
              refine G_icmp_ne X (tgt := 307) dL_would_251 (by decide) (fun h95 => ?_) (fun h95 => ?_)
              · have h96 := ifp h95 h94
                refine G_goto X (tgt := 272) dL_would_254 (by decide) ?_
                refine G_iload X dL_would_272 2 rfl ?_
                refine G_iconst X (v := 4) dL_would_274 (by decide) ?_
                refine G_icmp_le X (tgt := 288) dL_would_275 (by decide) (fun h97 => ?_) (fun h97 => ?_)
                · have h98 := ifp h97 h96
                  refine G_iload X dL_would_288 5 rfl ?_
                  refine G_if_lt X (tgt := 307) dL_would_290 (by decide) (fun h99 => ?_) (fun h99 => ?_)
                  · have h100 := ifp h99 h98
                    refine G_iconst X (v := 0) dL_would_307 (by decide) ?_
                    cases h100
                    exact G_lv [1, 6] rfl (J42)
                  · have h101 := ifn h99 h98
                    refine G_iload X dL_would_293 5 rfl ?_
                    refine G_bipush X (v := 8) dL_would_295 (by decide) ?_
                    refine G_iload X dL_would_297 2 rfl ?_
                    refine G_imul X dL_would_299 ?_
                    refine G_icmp_gt X (tgt := 307) dL_would_300 (by decide) (fun h102 => ?_) (fun h102 => ?_)
                    · have h103 := ifp h102 h101
                      refine G_iconst X (v := 0) dL_would_307 (by decide) ?_
                      cases h103
                      exact G_lv [1, 6] rfl (J42)
                    · have h104 := ifn h102 h101
                      refine G_iconst X (v := 1) dL_would_303 (by decide) ?_
                      refine G_goto X (tgt := 308) dL_would_304 (by decide) ?_
                      cases h104
                      exact G_lv [1, 6] rfl (J42)
                · have h105 := ifn h97 h96
                  refine G_iload X dL_would_278 5 rfl ?_
                  refine G_ldc X dL_would_280 flL_would_60 ?_
                  refine G_icmp_ne X (tgt := 307) dL_would_282 (by decide) (fun h106 => ?_) (fun h106 => ?_)
                  · have h107 := ifp h106 h105
                    refine G_goto X (tgt := 303) dL_would_285 (by decide) ?_
                    refine G_iconst X (v := 1) dL_would_303 (by decide) ?_
                    refine G_goto X (tgt := 308) dL_would_304 (by decide) ?_
                    cases h107
                    exact G_lv [1, 6] rfl (J42)
                  · have h108 := ifn h106 h105
                    refine G_iconst X (v := 0) dL_would_307 (by decide) ?_
                    cases h108
                    exact G_lv [1, 6] rfl (J42)
              · have h109 := ifn h95 h94
                refine G_iconst X (v := 0) dL_would_307 (by decide) ?_
                cases h109
                exact G_lv [1, 6] rfl (J42)
          · have h110 := ifn h69 h68
            refine G_iload X dL_would_230 4 rfl ?_
            refine G_ldc X dL_would_232 flL_would_60 ?_
            refine G_icmp_ne X (tgt := 307) dL_would_234 (by decide) (fun h111 => ?_) (fun h111 => ?_)
            · have h112 := ifp h111 h110
              refine G_goto X (tgt := 272) dL_would_237 (by decide) ?_
              refine G_iload X dL_would_272 2 rfl ?_
              refine G_iconst X (v := 4) dL_would_274 (by decide) ?_
              refine G_icmp_le X (tgt := 288) dL_would_275 (by decide) (fun h113 => ?_) (fun h113 => ?_)
              · have h114 := ifp h113 h112
                refine G_iload X dL_would_288 5 rfl ?_
                refine G_if_lt X (tgt := 307) dL_would_290 (by decide) (fun h115 => ?_) (fun h115 => ?_)
                · have h116 := ifp h115 h114
                  refine G_iconst X (v := 0) dL_would_307 (by decide) ?_
                  cases h116
                  exact G_lv [1, 6] rfl (J42)
                · have h117 := ifn h115 h114
                  refine G_iload X dL_would_293 5 rfl ?_
                  refine G_bipush X (v := 8) dL_would_295 (by decide) ?_
                  refine G_iload X dL_would_297 2 rfl ?_
                  refine G_imul X dL_would_299 ?_
                  refine G_icmp_gt X (tgt := 307) dL_would_300 (by decide) (fun h118 => ?_) (fun h118 => ?_)
                  · have h119 := ifp h118 h117
                    refine G_iconst X (v := 0) dL_would_307 (by decide) ?_
                    cases h119
                    exact G_lv [1, 6] rfl (J42)
                  · have h120 := ifn h118 h117
                    refine G_iconst X (v := 1) dL_would_303 (by decide) ?_
                    refine G_goto X (tgt := 308) dL_would_304 (by decide) ?_
                    cases h120
                    exact G_lv [1, 6] rfl (J42)
              · have h121 := ifn h113 h112
                refine G_iload X dL_would_278 5 rfl ?_
                refine G_ldc X dL_would_280 flL_would_60 ?_
                refine G_icmp_ne X (tgt := 307) dL_would_282 (by decide) (fun h122 => ?_) (fun h122 => ?_)
                · have h123 := ifp h122 h121
                  refine G_goto X (tgt := 303) dL_would_285 (by decide) ?_
                  refine G_iconst X (v := 1) dL_would_303 (by decide) ?_
                  refine G_goto X (tgt := 308) dL_would_304 (by decide) ?_
                  cases h123
                  exact G_lv [1, 6] rfl (J42)
                · have h124 := ifn h122 h121
                  refine G_iconst X (v := 0) dL_would_307 (by decide) ?_
                  cases h124
                  exact G_lv [1, 6] rfl (J42)
            · have h125 := ifn h111 h110
              refine G_iconst X (v := 0) dL_would_307 (by decide) ?_
              cases h125
              exact G_lv [1, 6] rfl (J42)
        · have h126 := ifn h67 h66
          refine G_iload X dL_would_214 4 rfl ?_
          refine G_ldc X dL_would_216 flL_would_58 ?_
          refine G_icmp_ne X (tgt := 307) dL_would_218 (by decide) (fun h127 => ?_) (fun h127 => ?_)
          · have h128 := ifp h127 h126
            refine G_goto X (tgt := 272) dL_would_221 (by decide) ?_
            refine G_iload X dL_would_272 2 rfl ?_
            refine G_iconst X (v := 4) dL_would_274 (by decide) ?_
            refine G_icmp_le X (tgt := 288) dL_would_275 (by decide) (fun h129 => ?_) (fun h129 => ?_)
            · have h130 := ifp h129 h128
              refine G_iload X dL_would_288 5 rfl ?_
              refine G_if_lt X (tgt := 307) dL_would_290 (by decide) (fun h131 => ?_) (fun h131 => ?_)
              · have h132 := ifp h131 h130
                refine G_iconst X (v := 0) dL_would_307 (by decide) ?_
                cases h132
                exact G_lv [1, 6] rfl (J42)
              · have h133 := ifn h131 h130
                refine G_iload X dL_would_293 5 rfl ?_
                refine G_bipush X (v := 8) dL_would_295 (by decide) ?_
                refine G_iload X dL_would_297 2 rfl ?_
                refine G_imul X dL_would_299 ?_
                refine G_icmp_gt X (tgt := 307) dL_would_300 (by decide) (fun h134 => ?_) (fun h134 => ?_)
                · have h135 := ifp h134 h133
                  refine G_iconst X (v := 0) dL_would_307 (by decide) ?_
                  cases h135
                  exact G_lv [1, 6] rfl (J42)
                · have h136 := ifn h134 h133
                  refine G_iconst X (v := 1) dL_would_303 (by decide) ?_
                  refine G_goto X (tgt := 308) dL_would_304 (by decide) ?_
                  cases h136
                  exact G_lv [1, 6] rfl (J42)
            · have h137 := ifn h129 h128
              refine G_iload X dL_would_278 5 rfl ?_
              refine G_ldc X dL_would_280 flL_would_60 ?_
              refine G_icmp_ne X (tgt := 307) dL_would_282 (by decide) (fun h138 => ?_) (fun h138 => ?_)
              · have h139 := ifp h138 h137
                refine G_goto X (tgt := 303) dL_would_285 (by decide) ?_
                refine G_iconst X (v := 1) dL_would_303 (by decide) ?_
                refine G_goto X (tgt := 308) dL_would_304 (by decide) ?_
                cases h139
                exact G_lv [1, 6] rfl (J42)
              · have h140 := ifn h138 h137
                refine G_iconst X (v := 0) dL_would_307 (by decide) ?_
                cases h140
                exact G_lv [1, 6] rfl (J42)
          · have h141 := ifn h127 h126
            refine G_iconst X (v := 0) dL_would_307 (by decide) ?_
            cases h141
            exact G_lv [1, 6] rfl (J42)
    refine G_icmp_eq X (tgt := 108) dL_would_99 (by decide) (fun h142 => ?_) (fun h142 => ?_)
    · have h143 := ifp h142 h36
      refine G_iload X dL_would_108 9 rfl ?_
      refine G_ldc X dL_would_110 flL_would_58 ?_
      refine G_icmp_ne X (tgt := 119) dL_would_112 (by decide) (fun h144 => ?_) (fun h144 => ?_)
      · have h145 := ifp h144 h143
        refine G_iconst X (v := 1) dL_would_115 (by decide) ?_
        refine G_goto X (tgt := 202) dL_would_116 (by decide) ?_
        cases h145
        exact G_lv [4, 10, 3, 2, 1, 0] rfl (J38)
      · have h146 := ifn h144 h143
        refine G_iconst X (v := 0) dL_would_119 (by decide) ?_
        refine G_goto X (tgt := 202) dL_would_120 (by decide) ?_
        cases h146
        exact G_lv [4, 10, 3, 2, 1, 0] rfl (J38)
    · have h147 := ifn h142 h36
      refine G_iload X dL_would_102 8 rfl ?_
      refine G_iconst X (v := 4) dL_would_104 (by decide) ?_
      refine G_icmp_ne X (tgt := 123) dL_would_105 (by decide) (fun h148 => ?_) (fun h148 => ?_)
      · have h149 := ifp h148 h147
        refine G_iload X dL_would_108 9 rfl ?_
        refine G_ldc X dL_would_110 flL_would_58 ?_
        refine G_icmp_ne X (tgt := 119) dL_would_112 (by decide) (fun h150 => ?_) (fun h150 => ?_)
        · have h151 := ifp h150 h149
          refine G_iconst X (v := 1) dL_would_115 (by decide) ?_
          refine G_goto X (tgt := 202) dL_would_116 (by decide) ?_
          cases h151
          exact G_lv [4, 10, 3, 2, 1, 0] rfl (J38)
        · have h152 := ifn h150 h149
          refine G_iconst X (v := 0) dL_would_119 (by decide) ?_
          refine G_goto X (tgt := 202) dL_would_120 (by decide) ?_
          cases h152
          exact G_lv [4, 10, 3, 2, 1, 0] rfl (J38)
      · have h153 := ifn h148 h147
        refine G_aload_n X dL_would_123 4 rfl ?_
        refine G_iload_n X dL_would_124 7 rfl ?_
        refine G_iconst X (v := 1) dL_would_125 (by decide) ?_
        obtain ⟨v154, h155, h156⟩ := bnd h153
        refine G1_calli X (As := [.int v4, .int 1]) (rest := []) (wr := [(a0_mending, .inr (1, [.ref a0_mending_steps, .ref a0_mending_tried, .ref a0_mending_best, .int v29.2.1])), (a0_mending_steps, .inl (cR, 4, .inr (.inr (.inr (.inr (fun j => some (a0_mending_steps_r j))))))), ((a0_mending_steps_r 0), .inr (3, [.ref (a0_mending_steps_a 0)])), ((a0_mending_steps_a 0), .inl (cI, 352, .inl v29.2.2.1)), ((a0_mending_steps_r 1), .inr (3, [.ref (a0_mending_steps_a 1)])), ((a0_mending_steps_a 1), .inl (cI, 352, .inl v29.2.2.2.1)), ((a0_mending_steps_r 2), .inr (3, [.ref (a0_mending_steps_a 2)])), ((a0_mending_steps_a 2), .inl (cI, 352, .inl v29.2.2.2.2.1)), ((a0_mending_steps_r 3), .inr (3, [.ref (a0_mending_steps_a 3)])), ((a0_mending_steps_a 3), .inl (cI, 352, .inl v29.2.2.2.2.2.1)), (a0_mending_tried, .inl (cI, 4, .inl v29.2.2.2.2.2.2.1)), (a0_mending_best, .inl (cI, 4, .inl v29.2.2.2.2.2.2.2)), (a0_past, .inr (0, [.ref a0_past_states, .int i_a0_past_oldest, .int i_a0_past_many])), (a0_text, .inr (2, [.ref a0_text_signs, .ref a0_text_numbers, .int i_a0_text_length, .int i_a0_text_at, .int i_a0_text_faultPosition, .int i_a0_text_faultReason, .int i_a0_text_faultCause]))]) (ws' := [(a0, .inr (5, [.ref a0_now, .ref a0_trial, .ref a0_survey, .ref a0_mending, .ref a0_past, .ref a0_text])), (a0_now, .inr (3, [.ref a0_now_numbers])), (a0_now_numbers, .inl (cI, 352, .inl f_a0_now_numbers)), (a0_survey, .inr (4, [.ref a0_now])), (a0_mending, .inr (1, [.ref a0_mending_steps, .ref a0_mending_tried, .ref a0_mending_best, .int v29.2.1])), (a0_mending_steps, .inl (cR, 4, .inr (.inr (.inr (.inr (fun j => some (a0_mending_steps_r j))))))), ((a0_mending_steps_r 0), .inr (3, [.ref (a0_mending_steps_a 0)])), ((a0_mending_steps_a 0), .inl (cI, 352, .inl v29.2.2.1)), ((a0_mending_steps_r 1), .inr (3, [.ref (a0_mending_steps_a 1)])), ((a0_mending_steps_a 1), .inl (cI, 352, .inl v29.2.2.2.1)), ((a0_mending_steps_r 2), .inr (3, [.ref (a0_mending_steps_a 2)])), ((a0_mending_steps_a 2), .inl (cI, 352, .inl v29.2.2.2.2.1)), ((a0_mending_steps_r 3), .inr (3, [.ref (a0_mending_steps_a 3)])), ((a0_mending_steps_a 3), .inl (cI, 352, .inl v29.2.2.2.2.2.1)), (a0_mending_tried, .inl (cI, 4, .inl v29.2.2.2.2.2.2.1)), (a0_mending_best, .inl (cI, 4, .inl v29.2.2.2.2.2.2.2)), (a0_past, .inr (0, [.ref a0_past_states, .int i_a0_past_oldest, .int i_a0_past_many])), (a0_text, .inr (2, [.ref a0_text_signs, .ref a0_text_numbers, .int i_a0_text_length, .int i_a0_text_at, .int i_a0_text_faultPosition, .int i_a0_text_faultReason, .int i_a0_text_faultCause]))]) dL_would_126 pkX5_row gL_would_X5_row (kkX5_row l D cI cR a0 a0_now a0_trial a0_survey a0_mending a0_past a0_text a0_now a0_now_numbers f_a0_now_numbers v4 1 v154 h155) ⟨rfl, rfl⟩ ⟨Nat.le_of_ble_eq_true rfl, Nat.le_of_ble_eq_true rfl⟩ rfl rfl (Nat.le_of_ble_eq_true rfl) 0 rfl rfl [0, 3, 1, 2] [4, 5, 6, 7, 8, 9, 10, 11, 12, 13, 14, 15, 16, 17] rfl rfl ⟨rfl, rfl, by decide⟩ ⟨Nat.zero_le _, Nat.zero_le _⟩ [14, 16, 17, 15, 0, 1, 2, 3, 4, 5, 6, 7, 8, 9, 10, 11, 12, 13] rfl rfl ?_
        refine G_iconst X (v := 1) dL_would_129 (by decide) ?_
        refine G_icmp_ne X (tgt := 148) dL_would_130 (by decide) (fun h157 => ?_) (fun h157 => ?_)
        · have h158 := ifp h157 h156
          refine G_iload X dL_would_133 9 rfl ?_
          refine G_ldc X dL_would_135 flL_would_59 ?_
          refine G_icmp_ne X (tgt := 144) dL_would_137 (by decide) (fun h159 => ?_) (fun h159 => ?_)
          · have h160 := ifp h159 h158
            refine G_iconst X (v := 1) dL_would_140 (by decide) ?_
            refine G_goto X (tgt := 202) dL_would_141 (by decide) ?_
            cases h160
            exact G_lv [4, 10, 3, 2, 1, 0] rfl (J38)
          · have h161 := ifn h159 h158
            refine G_iconst X (v := 0) dL_would_144 (by decide) ?_
            refine G_goto X (tgt := 202) dL_would_145 (by decide) ?_
            cases h161
            exact G_lv [4, 10, 3, 2, 1, 0] rfl (J38)
        · have h162 := ifn h157 h156
          refine G_iload X dL_would_148 8 rfl ?_
          refine G_iconst X (v := 3) dL_would_150 (by decide) ?_
          refine G_icmp_ne X (tgt := 185) dL_would_151 (by decide) (fun h163 => ?_) (fun h163 => ?_)
          · have h164 := ifp h163 h162
            refine G_iload X dL_would_154 9 rfl ?_
            refine G_ldc X dL_would_156 flL_would_38 ?_
            refine G_icmp_eq X (tgt := 177) dL_would_158 (by decide) (fun h165 => ?_) (fun h165 => ?_)
            · have h166 := ifp h165 h164
              refine G_iconst X (v := 1) dL_would_177 (by decide) ?_
              refine G_goto X (tgt := 202) dL_would_178 (by decide) ?_
              cases h166
              exact G_lv [4, 10, 3, 2, 1, 0] rfl (J38)
            · have h167 := ifn h165 h164
              refine G_iload X dL_would_161 9 rfl ?_
              refine G_if_lt X (tgt := 181) dL_would_163 (by decide) (fun h168 => ?_) (fun h168 => ?_)
              · have h169 := ifp h168 h167
                refine G_iconst X (v := 0) dL_would_181 (by decide) ?_
                refine G_goto X (tgt := 202) dL_would_182 (by decide) ?_
                cases h169
                exact G_lv [4, 10, 3, 2, 1, 0] rfl (J38)
              · have h170 := ifn h168 h167
                refine G_iload X dL_would_166 9 rfl ?_
                refine G_aload_n X dL_would_168 4 rfl ?_
                refine G_bipush X (v := 21) dL_would_169 (by decide) ?_
                obtain ⟨v171, h172, h173⟩ := bnd h170
                refine G1_calli X (As := [.int 21]) (rest := [.int v10]) (wr := [(a0_mending, .inr (1, [.ref a0_mending_steps, .ref a0_mending_tried, .ref a0_mending_best, .int v29.2.1])), (a0_mending_steps, .inl (cR, 4, .inr (.inr (.inr (.inr (fun j => some (a0_mending_steps_r j))))))), ((a0_mending_steps_r 0), .inr (3, [.ref (a0_mending_steps_a 0)])), ((a0_mending_steps_a 0), .inl (cI, 352, .inl v29.2.2.1)), ((a0_mending_steps_r 1), .inr (3, [.ref (a0_mending_steps_a 1)])), ((a0_mending_steps_a 1), .inl (cI, 352, .inl v29.2.2.2.1)), ((a0_mending_steps_r 2), .inr (3, [.ref (a0_mending_steps_a 2)])), ((a0_mending_steps_a 2), .inl (cI, 352, .inl v29.2.2.2.2.1)), ((a0_mending_steps_r 3), .inr (3, [.ref (a0_mending_steps_a 3)])), ((a0_mending_steps_a 3), .inl (cI, 352, .inl v29.2.2.2.2.2.1)), (a0_mending_tried, .inl (cI, 4, .inl v29.2.2.2.2.2.2.1)), (a0_mending_best, .inl (cI, 4, .inl v29.2.2.2.2.2.2.2))]) (ws' := [(a0, .inr (5, [.ref a0_now, .ref a0_trial, .ref a0_survey, .ref a0_mending, .ref a0_past, .ref a0_text])), (a0_now, .inr (3, [.ref a0_now_numbers])), (a0_now_numbers, .inl (cI, 352, .inl f_a0_now_numbers)), (a0_survey, .inr (4, [.ref a0_now])), (a0_mending, .inr (1, [.ref a0_mending_steps, .ref a0_mending_tried, .ref a0_mending_best, .int v29.2.1])), (a0_mending_steps, .inl (cR, 4, .inr (.inr (.inr (.inr (fun j => some (a0_mending_steps_r j))))))), ((a0_mending_steps_r 0), .inr (3, [.ref (a0_mending_steps_a 0)])), ((a0_mending_steps_a 0), .inl (cI, 352, .inl v29.2.2.1)), ((a0_mending_steps_r 1), .inr (3, [.ref (a0_mending_steps_a 1)])), ((a0_mending_steps_a 1), .inl (cI, 352, .inl v29.2.2.2.1)), ((a0_mending_steps_r 2), .inr (3, [.ref (a0_mending_steps_a 2)])), ((a0_mending_steps_a 2), .inl (cI, 352, .inl v29.2.2.2.2.1)), ((a0_mending_steps_r 3), .inr (3, [.ref (a0_mending_steps_a 3)])), ((a0_mending_steps_a 3), .inl (cI, 352, .inl v29.2.2.2.2.2.1)), (a0_mending_tried, .inl (cI, 4, .inl v29.2.2.2.2.2.2.1)), (a0_mending_best, .inl (cI, 4, .inl v29.2.2.2.2.2.2.2)), (a0_past, .inr (0, [.ref a0_past_states, .int i_a0_past_oldest, .int i_a0_past_many])), (a0_text, .inr (2, [.ref a0_text_signs, .ref a0_text_numbers, .int i_a0_text_length, .int i_a0_text_at, .int i_a0_text_faultPosition, .int i_a0_text_faultReason, .int i_a0_text_faultCause]))]) dL_would_171 pkX5_count gL_would_X5_count (kkX5_count l D cI cR a0 a0_now a0_trial a0_survey a0_mending a0_past a0_text a0_now a0_now_numbers a0_past_states a0_text_signs a0_text_numbers f_a0_now_numbers i_a0_past_oldest i_a0_past_many i_a0_text_length i_a0_text_at i_a0_text_faultPosition i_a0_text_faultReason i_a0_text_faultCause 21 v171 h172) ⟨rfl, rfl⟩ ⟨Nat.le_of_ble_eq_true rfl, Nat.le_of_ble_eq_true rfl⟩ rfl rfl (Nat.le_of_ble_eq_true rfl) 0 rfl rfl [0, 3, 1, 2, 16, 17] [4, 5, 6, 7, 8, 9, 10, 11, 12, 13, 14, 15] rfl rfl ⟨rfl, rfl, by decide⟩ ⟨Nat.zero_le _, Nat.zero_le _⟩ [12, 14, 15, 13, 0, 1, 2, 3, 4, 5, 6, 7, 8, 9, 10, 11, 16, 17] rfl rfl ?_
                refine G_icmp_gt X (tgt := 181) dL_would_174 (by decide) (fun h174 => ?_) (fun h174 => ?_)
                · have h175 := ifp h174 h173
                  refine G_iconst X (v := 0) dL_would_181 (by decide) ?_
                  refine G_goto X (tgt := 202) dL_would_182 (by decide) ?_
                  cases h175
                  exact G_lv [4, 10, 3, 2, 1, 0] rfl (J38)
                · have h176 := ifn h174 h173
                  refine G_iconst X (v := 1) dL_would_177 (by decide) ?_
                  refine G_goto X (tgt := 202) dL_would_178 (by decide) ?_
                  cases h176
                  exact G_lv [4, 10, 3, 2, 1, 0] rfl (J38)
          · have h177 := ifn h163 h162
            refine G_iload X dL_would_185 9 rfl ?_
            refine G_if_lt X (tgt := 201) dL_would_187 (by decide) (fun h178 => ?_) (fun h178 => ?_)
            · have h179 := ifp h178 h177
              refine G_iconst X (v := 0) dL_would_201 (by decide) ?_
              cases h179
              exact G_lv [4, 10, 3, 2, 1, 0] rfl (J38)
            · have h180 := ifn h178 h177
              refine G_iload X dL_would_190 9 rfl ?_
              refine G_bipush X (v := 8) dL_would_192 (by decide) ?_
              refine G_icmp_gt X (tgt := 201) dL_would_194 (by decide) (fun h181 => ?_) (fun h181 => ?_)
              · have h182 := ifp h181 h180
                refine G_iconst X (v := 0) dL_would_201 (by decide) ?_
                cases h182
                exact G_lv [4, 10, 3, 2, 1, 0] rfl (J38)
              · have h183 := ifn h181 h180
                refine G_iconst X (v := 1) dL_would_197 (by decide) ?_
                refine G_goto X (tgt := 202) dL_would_198 (by decide) ?_
                cases h183
                exact G_lv [4, 10, 3, 2, 1, 0] rfl (J38)
  refine G_lv [6, 7, 5, 4, 3, 2, 1, 0] rfl ?_
  refine itr_ind (P := fun s13 : (Int32 × Int32) => G p l e rmL_would s m args below meth c D A 12 Q 0 0 38 [(0, .ref a0), (1, .int x1), (2, .int v1), (3, .int v4), (4, .int v7), (5, .int v10), (6, .int s13.1), (7, .int s13.2)] [] [(a0, .inr (5, [.ref a0_now, .ref a0_trial, .ref a0_survey, .ref a0_mending, .ref a0_past, .ref a0_text])), (a0_now, .inr (3, [.ref a0_now_numbers])), (a0_now_numbers, .inl (cI, 352, .inl f_a0_now_numbers)), (a0_survey, .inr (4, [.ref a0_now])), (a0_mending, .inr (1, [.ref a0_mending_steps, .ref a0_mending_tried, .ref a0_mending_best, .int i_a0_mending_sum])), (a0_mending_steps, .inl (cR, 4, .inr (.inr (.inr (.inr (fun j => some (a0_mending_steps_r j))))))), ((a0_mending_steps_r 0), .inr (3, [.ref (a0_mending_steps_a 0)])), ((a0_mending_steps_a 0), .inl (cI, 352, .inl f_a0_mending_steps_0)), ((a0_mending_steps_r 1), .inr (3, [.ref (a0_mending_steps_a 1)])), ((a0_mending_steps_a 1), .inl (cI, 352, .inl f_a0_mending_steps_1)), ((a0_mending_steps_r 2), .inr (3, [.ref (a0_mending_steps_a 2)])), ((a0_mending_steps_a 2), .inl (cI, 352, .inl f_a0_mending_steps_2)), ((a0_mending_steps_r 3), .inr (3, [.ref (a0_mending_steps_a 3)])), ((a0_mending_steps_a 3), .inl (cI, 352, .inl f_a0_mending_steps_3)), (a0_mending_tried, .inl (cI, 4, .inl f_a0_mending_tried)), (a0_mending_best, .inl (cI, 4, .inl f_a0_mending_best)), (a0_past, .inr (0, [.ref a0_past_states, .int i_a0_past_oldest, .int i_a0_past_many])), (a0_text, .inr (2, [.ref a0_text_signs, .ref a0_text_numbers, .int i_a0_text_length, .int i_a0_text_at, .int i_a0_text_faultPosition, .int i_a0_text_faultReason, .int i_a0_text_faultCause]))]) (fun s13 o20 h17 h18 h19 => ?_) FU _ h15
  unfold SL_would_38 at h17
  refine G_iload X dL_would_38 7 rfl ?_
  refine G_iload_n X dL_would_40 2 rfl ?_
  refine G_icmp_ge X (tgt := 64) dL_would_41 (by decide) (fun h184 => ?_) (fun h184 => ?_)
  · have h185 := ifp h184 h17
    cases h185
    have h186 := h19 _ rfl
    subst h186
    exact G_lv [0, 1, 2, 3, 4, 5, 6] rfl (J21)
  · have h187 := ifn h184 h17
    refine G_iload X dL_would_44 6 rfl ?_
    refine G_iconst X (v := 1) dL_would_46 (by decide) ?_
    refine G_aload_n X dL_would_47 0 rfl ?_
    refine G_iload X dL_would_48 7 rfl ?_
    refine G_iconst X (v := 1) dL_would_50 (by decide) ?_
    obtain ⟨v188, h189, h190⟩ := bnd h187
    refine G1_calli X (As := [.int s13.2, .int 1]) (rest := [.int 1, .int s13.1]) (wr := [(a0_mending, .inr (1, [.ref a0_mending_steps, .ref a0_mending_tried, .ref a0_mending_best, .int i_a0_mending_sum])), (a0_mending_steps, .inl (cR, 4, .inr (.inr (.inr (.inr (fun j => some (a0_mending_steps_r j))))))), ((a0_mending_steps_r 0), .inr (3, [.ref (a0_mending_steps_a 0)])), ((a0_mending_steps_a 0), .inl (cI, 352, .inl f_a0_mending_steps_0)), ((a0_mending_steps_r 1), .inr (3, [.ref (a0_mending_steps_a 1)])), ((a0_mending_steps_a 1), .inl (cI, 352, .inl f_a0_mending_steps_1)), ((a0_mending_steps_r 2), .inr (3, [.ref (a0_mending_steps_a 2)])), ((a0_mending_steps_a 2), .inl (cI, 352, .inl f_a0_mending_steps_2)), ((a0_mending_steps_r 3), .inr (3, [.ref (a0_mending_steps_a 3)])), ((a0_mending_steps_a 3), .inl (cI, 352, .inl f_a0_mending_steps_3)), (a0_mending_tried, .inl (cI, 4, .inl f_a0_mending_tried)), (a0_mending_best, .inl (cI, 4, .inl f_a0_mending_best)), (a0_past, .inr (0, [.ref a0_past_states, .int i_a0_past_oldest, .int i_a0_past_many])), (a0_text, .inr (2, [.ref a0_text_signs, .ref a0_text_numbers, .int i_a0_text_length, .int i_a0_text_at, .int i_a0_text_faultPosition, .int i_a0_text_faultReason, .int i_a0_text_faultCause]))]) (ws' := [(a0, .inr (5, [.ref a0_now, .ref a0_trial, .ref a0_survey, .ref a0_mending, .ref a0_past, .ref a0_text])), (a0_now, .inr (3, [.ref a0_now_numbers])), (a0_now_numbers, .inl (cI, 352, .inl f_a0_now_numbers)), (a0_survey, .inr (4, [.ref a0_now])), (a0_mending, .inr (1, [.ref a0_mending_steps, .ref a0_mending_tried, .ref a0_mending_best, .int i_a0_mending_sum])), (a0_mending_steps, .inl (cR, 4, .inr (.inr (.inr (.inr (fun j => some (a0_mending_steps_r j))))))), ((a0_mending_steps_r 0), .inr (3, [.ref (a0_mending_steps_a 0)])), ((a0_mending_steps_a 0), .inl (cI, 352, .inl f_a0_mending_steps_0)), ((a0_mending_steps_r 1), .inr (3, [.ref (a0_mending_steps_a 1)])), ((a0_mending_steps_a 1), .inl (cI, 352, .inl f_a0_mending_steps_1)), ((a0_mending_steps_r 2), .inr (3, [.ref (a0_mending_steps_a 2)])), ((a0_mending_steps_a 2), .inl (cI, 352, .inl f_a0_mending_steps_2)), ((a0_mending_steps_r 3), .inr (3, [.ref (a0_mending_steps_a 3)])), ((a0_mending_steps_a 3), .inl (cI, 352, .inl f_a0_mending_steps_3)), (a0_mending_tried, .inl (cI, 4, .inl f_a0_mending_tried)), (a0_mending_best, .inl (cI, 4, .inl f_a0_mending_best)), (a0_past, .inr (0, [.ref a0_past_states, .int i_a0_past_oldest, .int i_a0_past_many])), (a0_text, .inr (2, [.ref a0_text_signs, .ref a0_text_numbers, .int i_a0_text_length, .int i_a0_text_at, .int i_a0_text_faultPosition, .int i_a0_text_faultReason, .int i_a0_text_faultCause]))]) dL_would_51 pkX5_row gL_would_X5_row (kkX5_row l D cI cR a0 a0_now a0_trial a0_survey a0_mending a0_past a0_text a0_now a0_now_numbers f_a0_now_numbers s13.2 1 v188 h189) ⟨rfl, rfl⟩ ⟨Nat.le_of_ble_eq_true rfl, Nat.le_of_ble_eq_true rfl⟩ rfl rfl (Nat.le_of_ble_eq_true rfl) 0 rfl rfl [0, 3, 1, 2] [4, 5, 6, 7, 8, 9, 10, 11, 12, 13, 14, 15, 16, 17] rfl rfl ⟨rfl, rfl, by decide⟩ ⟨Nat.zero_le _, Nat.zero_le _⟩ [14, 16, 17, 15, 0, 1, 2, 3, 4, 5, 6, 7, 8, 9, 10, 11, 12, 13] rfl rfl ?_
    refine G_isub X dL_would_54 ?_
    refine G_iadd X dL_would_55 ?_
    refine G_istore X (lv' := [(6, .int (s13.1 + (1 - v188))), (0, .ref a0), (1, .int x1), (2, .int v1), (3, .int v4), (4, .int v7), (5, .int v10), (7, .int s13.2)]) dL_would_56 (by decide) rfl ?_
    refine G_iinc X (v := (s13.2 + 1)) (lv' := [(7, .int (s13.2 + 1)), (6, .int (s13.1 + (1 - v188))), (0, .ref a0), (1, .int x1), (2, .int v1), (3, .int v4), (4, .int v7), (5, .int v10)]) dL_would_58 7 rfl rfl (by decide) rfl ?_
    refine G_goto X (tgt := 38) dL_would_61 (by decide) ?_
    cases h190
    exact G_lv [2, 3, 4, 5, 6, 7, 1, 0] rfl (h18 _ rfl)
