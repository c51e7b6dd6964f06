def rmX6_oldest : Room := { frames := 6, cells := 0, slots := 0, locals := 136 }
theorem pkX6_oldest : cK yX6_oldest wsX6_oldest cX6_oldest 4 (some .int) 1 RX6 := ⟨⟨_, rfl⟩, by decide +kernel⟩
theorem flX6_oldest_51 : Cond.constant RX6 51 (-1000004) ∈ wsX6_oldest := by decide +kernel
set_option maxHeartbeats 4000000 in
set_option maxRecDepth 100000 in
theorem kkX6_oldest (l : Launch) (D : va_G) (cI cR : ClassId) (h h_s h_aside h_before h_past h_text h_lost h_tells : Nat) (i_h_known : Int32) (i_h_length : Int32) (i_h_losts : Int32) (i_h_bestOrder : Int32) (i_h_bestMany : Int32) (i_h_spot : Int32) (i_h_begin : Int32) (i_h_isForm : Int32) (i_h_letter : Int32) (i_h_faultReason : Int32) (i_h_faultCause : Int32) (f_h_s : Nat → Int32) (x0 : Int32) (z : Int32) (hz : MX6_oldest f_h_s x0 = some z) : cI1 l yX6_oldest wsX6_oldest rmX6_oldest D cI cR [.ref h, .int x0] [(h, .inr (6, [.ref h_s, .ref h_aside, .ref h_before, .ref h_past, .int i_h_known, .ref h_text, .int i_h_length, .ref h_lost, .int i_h_losts, .int i_h_bestOrder, .int i_h_bestMany, .int i_h_spot, .int i_h_begin, .int i_h_isForm, .int i_h_letter, .ref h_tells, .int i_h_faultReason, .int i_h_faultCause])), (h_s, .inl (cI, 703, .inl f_h_s))] z [(h, .inr (6, [.ref h_s, .ref h_aside, .ref h_before, .ref h_past, .int i_h_known, .ref h_text, .int i_h_length, .ref h_lost, .int i_h_losts, .int i_h_bestOrder, .int i_h_bestMany, .int i_h_spot, .int i_h_begin, .int i_h_isForm, .int i_h_letter, .ref h_tells, .int i_h_faultReason, .int i_h_faultCause])), (h_s, .inl (cI, 703, .inl f_h_s))] := by
  unfold MX6_oldest at hz
  refine kI_of (cc := cX6_oldest) (maxL := 4) (own := RX6) (by decide +kernel) rfl rfl (Nat.le_of_ble_eq_true rfl) (lv0 := [(0, .ref h), (1, .int x0)]) rfl (fun p e s m args below meth c A Q X rt => ?_)
  refine G_ldc X dX6_oldest_0 flX6_oldest_51 ?_
  refine G_istore_n X (lv' := [(2, .int (-1000004)), (0, .ref h), (1, .int x0)]) dX6_oldest_2 (by decide) rfl ?_
  refine G_iconst X (v := 0) dX6_oldest_3 (by decide) ?_
  refine G_istore_n X (lv' := [(3, .int 0), (2, .int (-1000004)), (0, .ref h), (1, .int x0)]) dX6_oldest_4 (by decide) rfl ?_
  obtain ⟨j2, h3, h4⟩ := bnd hz
  have J9 : G p l e rmX6_oldest s m args below meth c D A 4 Q 0 0 38 [(2, .int j2)] [] [(h, .inr (6, [.ref h_s, .ref h_aside, .ref h_before, .ref h_past, .int i_h_known, .ref h_text, .int i_h_length, .ref h_lost, .int i_h_losts, .int i_h_bestOrder, .int i_h_bestMany, .int i_h_spot, .int i_h_begin, .int i_h_isForm, .int i_h_letter, .ref h_tells, .int i_h_faultReason, .int i_h_faultCause])), (h_s, .inl (cI, 703, .inl f_h_s))] := by
    refine G_iload_n X dX6_oldest_38 0 rfl ?_
    cases h4
    exact rt _ _ _ _ dX6_oldest_39 ⟨rfl, rfl⟩
  refine G_lv [2, 3, 1, 0] rfl ?_
  refine itr_ind (P := fun s1 : (Int32 × Int32) => G p l e rmX6_oldest s m args below meth c D A 4 Q 0 0 5 [(0, .ref h), (1, .int x0), (2, .int s1.1), (3, .int s1.2)] [] [(h, .inr (6, [.ref h_s, .ref h_aside, .ref h_before, .ref h_past, .int i_h_known, .ref h_text, .int i_h_length, .ref h_lost, .int i_h_losts, .int i_h_bestOrder, .int i_h_bestMany, .int i_h_spot, .int i_h_begin, .int i_h_isForm, .int i_h_letter, .ref h_tells, .int i_h_faultReason, .int i_h_faultCause])), (h_s, .inl (cI, 703, .inl f_h_s))]) (fun s1 o8 h5 h6 h7 => ?_) FU _ h3
  unfold SX6_oldest_5 at h5
  refine G_iload_n X dX6_oldest_5 3 rfl ?_
  refine G_bipush X (v := 8) dX6_oldest_6 (by decide) ?_
  refine G_icmp_ge X (tgt := 38) dX6_oldest_8 (by decide) (fun h11 => ?_) (fun h11 => ?_)
  · have h12 := ifp h11 h5
    cases h12
    have h13 := h7 _ rfl
    subst h13
    exact G_lv [2] rfl (J9)
  · have h14 := ifn h11 h5
    refine G_aload_n X dX6_oldest_11 0 rfl ?_
    refine G_iload_n X dX6_oldest_12 1 rfl ?_
    refine G_iload_n X dX6_oldest_13 3 rfl ?_
    obtain ⟨v15, h16, h17⟩ := bnd h14
    refine G1_calli X (As := [.int x0, .int s1.2]) (rest := []) (wr := []) (ws' := [(h, .inr (6, [.ref h_s, .ref h_aside, .ref h_before, .ref h_past, .int i_h_known, .ref h_text, .int i_h_length, .ref h_lost, .int i_h_losts, .int i_h_bestOrder, .int i_h_bestMany, .int i_h_spot, .int i_h_begin, .int i_h_isForm, .int i_h_letter, .ref h_tells, .int i_h_faultReason, .int i_h_faultCause])), (h_s, .inl (cI, 703, .inl f_h_s))]) dX6_oldest_14 pkX6_heardAge gX6_oldest_X6_heardAge (kkX6_heardAge l D cI cR h h_s h_aside h_before h_past h_text h_lost h_tells i_h_known i_h_length i_h_losts i_h_bestOrder i_h_bestMany i_h_spot i_h_begin i_h_isForm i_h_letter i_h_faultReason i_h_faultCause f_h_s x0 s1.2 v15 h16) ⟨rfl, rfl⟩ ⟨Nat.le_of_ble_eq_true rfl, Nat.le_of_ble_eq_true rfl⟩ rfl rfl (Nat.le_of_ble_eq_true rfl) 0 rfl rfl [0, 1] [] rfl rfl ⟨rfl, rfl, by decide⟩ ⟨Nat.zero_le _, Nat.zero_le _⟩ [0, 1] rfl rfl ?_
    refine G_iload_n X dX6_oldest_17 2 rfl ?_
    refine G_icmp_le X (tgt := 30) dX6_oldest_18 (by decide) (fun h18 => ?_) (fun h18 => ?_)
    · have h19 := ifp h18 h17
      refine G_iload_n X dX6_oldest_30 2 rfl ?_
      refine G_istore_n X (lv' := [(2, .int s1.1), (0, .ref h), (1, .int x0), (3, .int s1.2)]) dX6_oldest_31 (by decide) rfl ?_
      refine G_iinc X (v := (s1.2 + 1)) (lv' := [(3, .int (s1.2 + 1)), (2, .int s1.1), (0, .ref h), (1, .int x0)]) dX6_oldest_32 3 rfl rfl (by decide) rfl ?_
      refine G_goto X (tgt := 5) dX6_oldest_35 (by decide) ?_
      cases h19
      exact G_lv [2, 3, 1, 0] rfl (h6 _ rfl)
    · have h20 := ifn h18 h17
      refine G_aload_n X dX6_oldest_21 0 rfl ?_
      refine G_iload_n X dX6_oldest_22 1 rfl ?_
      refine G_iload_n X dX6_oldest_23 3 rfl ?_
      obtain ⟨v21, h22, h23⟩ := bnd h20
      refine G1_calli X (As := [.int x0, .int s1.2]) (rest := []) (wr := []) (ws' := [(h, .inr (6, [.ref h_s, .ref h_aside, .ref h_before, .ref h_past, .int i_h_known, .ref h_text, .int i_h_length, .ref h_lost, .int i_h_losts, .int i_h_bestOrder, .int i_h_bestMany, .int i_h_spot, .int i_h_begin, .int i_h_isForm, .int i_h_letter, .ref h_tells, .int i_h_faultReason, .int i_h_faultCause])), (h_s, .inl (cI, 703, .inl f_h_s))]) dX6_oldest_24 pkX6_heardAge gX6_oldest_X6_heardAge (kkX6_heardAge l D cI cR h h_s h_aside h_before h_past h_text h_lost h_tells i_h_known i_h_length i_h_losts i_h_bestOrder i_h_bestMany i_h_spot i_h_begin i_h_isForm i_h_letter i_h_faultReason i_h_faultCause f_h_s x0 s1.2 v21 h22) ⟨rfl, rfl⟩ ⟨Nat.le_of_ble_eq_true rfl, Nat.le_of_ble_eq_true rfl⟩ rfl rfl (Nat.le_of_ble_eq_true rfl) 0 rfl rfl [0, 1] [] rfl rfl ⟨rfl, rfl, by decide⟩ ⟨Nat.zero_le _, Nat.zero_le _⟩ [0, 1] rfl rfl ?_
      refine G_goto X (tgt := 31) dX6_oldest_27 (by decide) ?_
      refine G_istore_n X (lv' := [(2, .int v21), (0, .ref h), (1, .int x0), (3, .int s1.2)]) dX6_oldest_31 (by decide) rfl ?_
      refine G_iinc X (v := (s1.2 + 1)) (lv' := [(3, .int (s1.2 + 1)), (2, .int v21), (0, .ref h), (1, .int x0)]) dX6_oldest_32 3 rfl rfl (by decide) rfl ?_
      refine G_goto X (tgt := 5) dX6_oldest_35 (by decide) ?_
      cases h23
      exact G_lv [2, 3, 1, 0] rfl (h6 _ rfl)
def rmX6_would : Room := { frames := 7, cells := 0, slots := 0, locals := 160 }
theorem pkX6_would : cK yX6_would wsX6_would cX6_would 3 (some .int) 2 RX6 := ⟨⟨_, rfl⟩, by decide +kernel⟩
theorem flX6_would_114 : Cond.constant RX6 114 (-1000001) ∈ wsX6_would := by decide +kernel
theorem flX6_would_115 : Cond.constant RX6 115 (-1000002) ∈ wsX6_would := by decide +kernel
set_option maxHeartbeats 4000000 in
set_option maxRecDepth 100000 in
theorem kkX6_would (l : Launch) (D : va_G) (cI cR : ClassId) (h h_s h_aside h_before h_past h_text h_lost h_tells : Nat) (i_h_known : Int32) (i_h_length : Int32) (i_h_losts : Int32) (i_h_bestOrder : Int32) (i_h_bestMany : Int32) (i_h_spot : Int32) (i_h_begin : Int32) (i_h_isForm : Int32) (i_h_letter : Int32) (i_h_faultReason : Int32) (i_h_faultCause : Int32) (f_h_s : Nat → Int32) (x0 : Int32) (x1 : Int32) (z : Int32) (hz : MX6_would f_h_s x0 x1 = some z) : cI1 l yX6_would wsX6_would rmX6_would D cI cR [.ref h, .int x0, .int x1] [(h, .inr (6, [.ref h_s, .ref h_aside, .ref h_before, .ref h_past, .int i_h_known, .ref h_text, .int i_h_length, .ref h_lost, .int i_h_losts, .int i_h_bestOrder, .int i_h_bestMany, .int i_h_spot, .int i_h_begin, .int i_h_isForm, .int i_h_letter, .ref h_tells, .int i_h_faultReason, .int i_h_faultCause])), (h_s, .inl (cI, 703, .inl f_h_s))] z [(h, .inr (6, [.ref h_s, .ref h_aside, .ref h_before, .ref h_past, .int i_h_known, .ref h_text, .int i_h_length, .ref h_lost, .int i_h_losts, .int i_h_bestOrder, .int i_h_bestMany, .int i_h_spot, .int i_h_begin, .int i_h_isForm, .int i_h_letter, .ref h_tells, .int i_h_faultReason, .int i_h_faultCause])), (h_s, .inl (cI, 703, .inl f_h_s))] := by
  unfold MX6_would at hz
  refine kI_of (cc := cX6_would) (maxL := 3) (own := RX6) (by decide +kernel) rfl rfl (Nat.le_of_ble_eq_true rfl) (lv0 := [(0, .ref h), (1, .int x0), (2, .int x1)]) rfl (fun p e s m args below meth c A Q X rt => ?_)
  refine G_aload_n X dX6_would_0 0 rfl ?_
  refine G_iload_n X dX6_would_1 1 rfl ?_
  obtain ⟨v1, h2, h3⟩ := bnd hz
  refine G1_calli X (As := [.int x0]) (rest := []) (wr := []) (ws' := [(h, .inr (6, [.ref h_s, .ref h_aside, .ref h_before, .ref h_past, .int i_h_known, .ref h_text, .int i_h_length, .ref h_lost, .int i_h_losts, .int i_h_bestOrder, .int i_h_bestMany, .int i_h_spot, .int i_h_begin, .int i_h_isForm, .int i_h_letter, .ref h_tells, .int i_h_faultReason, .int i_h_faultCause])), (h_s, .inl (cI, 703, .inl f_h_s))]) dX6_would_2 pkX6_isRow gX6_would_X6_isRow (kkX6_isRow l D cI cR h h_s h_aside h_before h_past h_text h_lost h_tells i_h_known i_h_length i_h_losts i_h_bestOrder i_h_bestMany i_h_spot i_h_begin i_h_isForm i_h_letter i_h_faultReason i_h_faultCause f_h_s x0 v1 h2) ⟨rfl, rfl⟩ ⟨Nat.le_of_ble_eq_true rfl, Nat.le_of_ble_eq_true rfl⟩ rfl rfl (Nat.le_of_ble_eq_true rfl) 0 rfl rfl [0, 1] [] rfl rfl ⟨rfl, rfl, by decide⟩ ⟨Nat.zero_le _, Nat.zero_le _⟩ [0, 1] rfl rfl ?_
  refine G_if_eq X (tgt := 17) dX6_would_5 (by decide) (fun h4 => ?_) (fun h4 => ?_)
  · have h5 := ifp h4 h3
    refine G_ldc X dX6_would_17 flX6_would_114 ?_
    cases h5
    exact rt _ _ _ _ dX6_would_19 ⟨rfl, rfl⟩
  · have h6 := ifn h4 h3
    refine G_iload_n X dX6_would_8 2 rfl ?_
    refine G_iconst X (v := 0) dX6_would_9 (by decide) ?_
    refine G_iconst X (v := 3) dX6_would_10 (by decide) ?_
    obtain ⟨v7, h8, h9⟩ := bnd h6
    refine G1_callsi X (As := [.int x1, .int 0, .int 3]) (rest := []) (wr := [(h, .inr (6, [.ref h_s, .ref h_aside, .ref h_before, .ref h_past, .int i_h_known, .ref h_text, .int i_h_length, .ref h_lost, .int i_h_losts, .int i_h_bestOrder, .int i_h_bestMany, .int i_h_spot, .int i_h_begin, .int i_h_isForm, .int i_h_letter, .ref h_tells, .int i_h_faultReason, .int i_h_faultCause])), (h_s, .inl (cI, 703, .inl f_h_s))]) (ws' := [(h, .inr (6, [.ref h_s, .ref h_aside, .ref h_before, .ref h_past, .int i_h_known, .ref h_text, .int i_h_length, .ref h_lost, .int i_h_losts, .int i_h_bestOrder, .int i_h_bestMany, .int i_h_spot, .int i_h_begin, .int i_h_isForm, .int i_h_letter, .ref h_tells, .int i_h_faultReason, .int i_h_faultCause])), (h_s, .inl (cI, 703, .inl f_h_s))]) dX6_would_11 pkX6_in gX6_would_X6_in (kkX6_in l D cI cR x1 0 3 v7 h8) ⟨rfl, rfl⟩ ⟨Nat.le_of_ble_eq_true rfl, Nat.le_of_ble_eq_true rfl⟩ rfl rfl (Nat.le_of_ble_eq_true rfl) [] [0, 1] rfl rfl ⟨rfl, rfl, by decide⟩ ⟨Nat.zero_le _, Nat.zero_le _⟩ [0, 1] rfl rfl ?_
    refine G_if_ne X (tgt := 20) dX6_would_14 (by decide) (fun h10 => ?_) (fun h10 => ?_)
    · have h11 := ifp h10 h9
      refine G_ldc X dX6_would_17 flX6_would_114 ?_
      cases h11
      exact rt _ _ _ _ dX6_would_19 ⟨rfl, rfl⟩
    · have h12 := ifn h10 h9
      refine G_aload_n X dX6_would_20 0 rfl ?_
      refine G_iload_n X dX6_would_21 1 rfl ?_
      obtain ⟨v13, h14, h15⟩ := bnd h12
      refine G1_calli X (As := [.int x0]) (rest := []) (wr := []) (ws' := [(h, .inr (6, [.ref h_s, .ref h_aside, .ref h_before, .ref h_past, .int i_h_known, .ref h_text, .int i_h_length, .ref h_lost, .int i_h_losts, .int i_h_bestOrder, .int i_h_bestMany, .int i_h_spot, .int i_h_begin, .int i_h_isForm, .int i_h_letter, .ref h_tells, .int i_h_faultReason, .int i_h_faultCause])), (h_s, .inl (cI, 703, .inl f_h_s))]) dX6_would_22 pkX6_lives gX6_would_X6_lives (kkX6_lives l D cI cR h h_s h_aside h_before h_past h_text h_lost h_tells i_h_known i_h_length i_h_losts i_h_bestOrder i_h_bestMany i_h_spot i_h_begin i_h_isForm i_h_letter i_h_faultReason i_h_faultCause f_h_s x0 v13 h14) ⟨rfl, rfl⟩ ⟨Nat.le_of_ble_eq_true rfl, Nat.le_of_ble_eq_true rfl⟩ rfl rfl (Nat.le_of_ble_eq_true rfl) 0 rfl rfl [0, 1] [] rfl rfl ⟨rfl, rfl, by decide⟩ ⟨Nat.zero_le _, Nat.zero_le _⟩ [0, 1] rfl rfl ?_
      refine G_if_eq X (tgt := 31) dX6_would_25 (by decide) (fun h16 => ?_) (fun h16 => ?_)
      · have h17 := ifp h16 h15
        refine G_iload_n X dX6_would_31 2 rfl ?_
        refine G_if_ne X (tgt := 43) dX6_would_32 (by decide) (fun h18 => ?_) (fun h18 => ?_)
        · have h19 := ifp h18 h17
          refine G_aload_n X dX6_would_35 0 rfl ?_
          refine G_iload_n X dX6_would_36 1 rfl ?_
          obtain ⟨v20, h21, h22⟩ := bnd h19
          refine G1_calli X (As := [.int x0]) (rest := []) (wr := []) (ws' := [(h, .inr (6, [.ref h_s, .ref h_aside, .ref h_before, .ref h_past, .int i_h_known, .ref h_text, .int i_h_length, .ref h_lost, .int i_h_losts, .int i_h_bestOrder, .int i_h_bestMany, .int i_h_spot, .int i_h_begin, .int i_h_isForm, .int i_h_letter, .ref h_tells, .int i_h_faultReason, .int i_h_faultCause])), (h_s, .inl (cI, 703, .inl f_h_s))]) dX6_would_37 pkX6_back gX6_would_X6_back (kkX6_back l D cI cR h h_s h_aside h_before h_past h_text h_lost h_tells i_h_known i_h_length i_h_losts i_h_bestOrder i_h_bestMany i_h_spot i_h_begin i_h_isForm i_h_letter i_h_faultReason i_h_faultCause f_h_s x0 v20 h21) ⟨rfl, rfl⟩ ⟨Nat.le_of_ble_eq_true rfl, Nat.le_of_ble_eq_true rfl⟩ rfl rfl (Nat.le_of_ble_eq_true rfl) 0 rfl rfl [0, 1] [] rfl rfl ⟨rfl, rfl, by decide⟩ ⟨Nat.zero_le _, Nat.zero_le _⟩ [0, 1] rfl rfl ?_
          refine G_goto X (tgt := 74) dX6_would_40 (by decide) ?_
          cases h22
          exact rt _ _ _ _ dX6_would_74 ⟨rfl, rfl⟩
        · have h23 := ifn h18 h17
          refine G_iload_n X dX6_would_43 2 rfl ?_
          refine G_iconst X (v := 1) dX6_would_44 (by decide) ?_
          refine G_icmp_ne X (tgt := 56) dX6_would_45 (by decide) (fun h24 => ?_) (fun h24 => ?_)
          · have h25 := ifp h24 h23
            refine G_aload_n X dX6_would_48 0 rfl ?_
            refine G_iload_n X dX6_would_49 1 rfl ?_
            obtain ⟨v26, h27, h28⟩ := bnd h25
            refine G1_calli X (As := [.int x0]) (rest := []) (wr := []) (ws' := [(h, .inr (6, [.ref h_s, .ref h_aside, .ref h_before, .ref h_past, .int i_h_known, .ref h_text, .int i_h_length, .ref h_lost, .int i_h_losts, .int i_h_bestOrder, .int i_h_bestMany, .int i_h_spot, .int i_h_begin, .int i_h_isForm, .int i_h_letter, .ref h_tells, .int i_h_faultReason, .int i_h_faultCause])), (h_s, .inl (cI, 703, .inl f_h_s))]) dX6_would_50 pkX6_wrongs gX6_would_X6_wrongs (kkX6_wrongs l D cI cR h h_s h_aside h_before h_past h_text h_lost h_tells i_h_known i_h_length i_h_losts i_h_bestOrder i_h_bestMany i_h_spot i_h_begin i_h_isForm i_h_letter i_h_faultReason i_h_faultCause f_h_s x0 v26 h27) ⟨rfl, rfl⟩ ⟨Nat.le_of_ble_eq_true rfl, Nat.le_of_ble_eq_true rfl⟩ rfl rfl (Nat.le_of_ble_eq_true rfl) 0 rfl rfl [0, 1] [] rfl rfl ⟨rfl, rfl, by decide⟩ ⟨Nat.zero_le _, Nat.zero_le _⟩ [0, 1] rfl rfl ?_
            refine G_goto X (tgt := 74) dX6_would_53 (by decide) ?_
            cases h28
            exact rt _ _ _ _ dX6_would_74 ⟨rfl, rfl⟩
          · have h29 := ifn h24 h23
            refine G_iload_n X dX6_would_56 2 rfl ?_
            refine G_iconst X (v := 2) dX6_would_57 (by decide) ?_
            refine G_icmp_ne X (tgt := 69) dX6_would_58 (by decide) (fun h30 => ?_) (fun h30 => ?_)
            · have h31 := ifp h30 h29
              refine G_aload_n X dX6_would_61 0 rfl ?_
              refine G_iload_n X dX6_would_62 1 rfl ?_
              obtain ⟨v32, h33, h34⟩ := bnd h31
              refine G1_calli X (As := [.int x0]) (rest := []) (wr := []) (ws' := [(h, .inr (6, [.ref h_s, .ref h_aside, .ref h_before, .ref h_past, .int i_h_known, .ref h_text, .int i_h_length, .ref h_lost, .int i_h_losts, .int i_h_bestOrder, .int i_h_bestMany, .int i_h_spot, .int i_h_begin, .int i_h_isForm, .int i_h_letter, .ref h_tells, .int i_h_faultReason, .int i_h_faultCause])), (h_s, .inl (cI, 703, .inl f_h_s))]) dX6_would_63 pkX6_unheard gX6_would_X6_unheard (kkX6_unheard l D cI cR h h_s h_aside h_before h_past h_text h_lost h_tells i_h_known i_h_length i_h_losts i_h_bestOrder i_h_bestMany i_h_spot i_h_begin i_h_isForm i_h_letter i_h_faultReason i_h_faultCause f_h_s x0 v32 h33) ⟨rfl, rfl⟩ ⟨Nat.le_of_ble_eq_true rfl, Nat.le_of_ble_eq_true rfl⟩ rfl rfl (Nat.le_of_ble_eq_true rfl) 0 rfl rfl [0, 1] [] rfl rfl ⟨rfl, rfl, by decide⟩ ⟨Nat.zero_le _, Nat.zero_le _⟩ [0, 1] rfl rfl ?_
              refine G_goto X (tgt := 74) dX6_would_66 (by decide) ?_
              cases h34
              exact rt _ _ _ _ dX6_would_74 ⟨rfl, rfl⟩
            · have h35 := ifn h30 h29
              refine G_aload_n X dX6_would_69 0 rfl ?_
              refine G_iload_n X dX6_would_70 1 rfl ?_
              obtain ⟨v36, h37, h38⟩ := bnd h35
              refine G1_calli X (As := [.int x0]) (rest := []) (wr := []) (ws' := [(h, .inr (6, [.ref h_s, .ref h_aside, .ref h_before, .ref h_past, .int i_h_known, .ref h_text, .int i_h_length, .ref h_lost, .int i_h_losts, .int i_h_bestOrder, .int i_h_bestMany, .int i_h_spot, .int i_h_begin, .int i_h_isForm, .int i_h_letter, .ref h_tells, .int i_h_faultReason, .int i_h_faultCause])), (h_s, .inl (cI, 703, .inl f_h_s))]) dX6_would_71 pkX6_oldest gX6_would_X6_oldest (kkX6_oldest l D cI cR h h_s h_aside h_before h_past h_text h_lost h_tells i_h_known i_h_length i_h_losts i_h_bestOrder i_h_bestMany i_h_spot i_h_begin i_h_isForm i_h_letter i_h_faultReason i_h_faultCause f_h_s x0 v36 h37) ⟨rfl, rfl⟩ ⟨Nat.le_of_ble_eq_true rfl, Nat.le_of_ble_eq_true rfl⟩ rfl rfl (Nat.le_of_ble_eq_true rfl) 0 rfl rfl [0, 1] [] rfl rfl ⟨rfl, rfl, by decide⟩ ⟨Nat.zero_le _, Nat.zero_le _⟩ [0, 1] rfl rfl ?_
              cases h38
              exact rt _ _ _ _ dX6_would_74 ⟨rfl, rfl⟩
      · have h39 := ifn h16 h15
        refine G_ldc X dX6_would_28 flX6_would_115 ?_
        cases h39
        exact rt _ _ _ _ dX6_would_30 ⟨rfl, rfl⟩
def rmX6_lostMany : Room := { frames := 2, cells := 0, slots := 0, locals := 43 }
theorem pkX6_lostMany : cK yX6_lostMany wsX6_lostMany cX6_lostMany 3 (some .int) 0 RX6 := ⟨⟨_, rfl⟩, by decide +kernel⟩
theorem hiX6_lostMany_X6 : ∀ w ∈ wsX60, w ∈ wsX6_lostMany := by decide +kernel
theorem flX6_lostMany_7 : Cond.fieldLink RX6 7 "EchoMarginsModel" "s" "[I" ∈ wsX6_lostMany := by decide +kernel
set_option maxHeartbeats 4000000 in
set_option maxRecDepth 100000 in
theorem kkX6_lostMany (l : Launch) (D : va_G) (cI cR : ClassId) (h h_s h_aside h_before h_past h_text h_lost h_tells : Nat) (i_h_known : Int32) (i_h_length : Int32) (i_h_losts : Int32) (i_h_bestOrder : Int32) (i_h_bestMany : Int32) (i_h_spot : Int32) (i_h_begin : Int32) (i_h_isForm : Int32) (i_h_letter : Int32) (i_h_faultReason : Int32) (i_h_faultCause : Int32) (f_h_s : Nat → Int32) (z : Int32) (hz : MX6_lostMany f_h_s = some z) : cI1 l yX6_lostMany wsX6_lostMany rmX6_lostMany D cI cR [.ref h] [(h, .inr (6, [.ref h_s, .ref h_aside, .ref h_before, .ref h_past, .int i_h_known, .ref h_text, .int i_h_length, .ref h_lost, .int i_h_losts, .int i_h_bestOrder, .int i_h_bestMany, .int i_h_spot, .int i_h_begin, .int i_h_isForm, .int i_h_letter, .ref h_tells, .int i_h_faultReason, .int i_h_faultCause])), (h_s, .inl (cI, 703, .inl f_h_s))] z [(h, .inr (6, [.ref h_s, .ref h_aside, .ref h_before, .ref h_past, .int i_h_known, .ref h_text, .int i_h_length, .ref h_lost, .int i_h_losts, .int i_h_bestOrder, .int i_h_bestMany, .int i_h_spot, .int i_h_begin, .int i_h_isForm, .int i_h_letter, .ref h_tells, .int i_h_faultReason, .int i_h_faultCause])), (h_s, .inl (cI, 703, .inl f_h_s))] := by
  unfold MX6_lostMany at hz
  refine kI_of (cc := cX6_lostMany) (maxL := 3) (own := RX6) (by decide +kernel) rfl rfl (Nat.le_of_ble_eq_true rfl) (lv0 := [(0, .ref h)]) rfl (fun p e s m args below meth c A Q X rt => ?_)
  refine G_iconst X (v := 0) dX6_lostMany_0 (by decide) ?_
  refine G_istore_n X (lv' := [(1, .int 0), (0, .ref h)]) dX6_lostMany_1 (by decide) rfl ?_
  refine G_iconst X (v := 0) dX6_lostMany_2 (by decide) ?_
  refine G_istore_n X (lv' := [(2, .int 0), (1, .int 0), (0, .ref h)]) dX6_lostMany_3 (by decide) rfl ?_
  obtain ⟨j2, h3, h4⟩ := bnd hz
  have J9 : G p l e rmX6_lostMany s m args below meth c D A 3 Q 0 0 36 [(1, .int j2)] [] [(h, .inr (6, [.ref h_s, .ref h_aside, .ref h_before, .ref h_past, .int i_h_known, .ref h_text, .int i_h_length, .ref h_lost, .int i_h_losts, .int i_h_bestOrder, .int i_h_bestMany, .int i_h_spot, .int i_h_begin, .int i_h_isForm, .int i_h_letter, .ref h_tells, .int i_h_faultReason, .int i_h_faultCause])), (h_s, .inl (cI, 703, .inl f_h_s))] := by
    refine G_iload_n X dX6_lostMany_36 0 rfl ?_
    cases h4
    exact rt _ _ _ _ dX6_lostMany_37 ⟨rfl, rfl⟩
  refine G_lv [2, 1, 0] rfl ?_
  refine itr_ind (P := fun s1 : (Int32 × Int32) => G p l e rmX6_lostMany s m args below meth c D A 3 Q 0 0 4 [(0, .ref h), (1, .int s1.1), (2, .int s1.2)] [] [(h, .inr (6, [.ref h_s, .ref h_aside, .ref h_before, .ref h_past, .int i_h_known, .ref h_text, .int i_h_length, .ref h_lost, .int i_h_losts, .int i_h_bestOrder, .int i_h_bestMany, .int i_h_spot, .int i_h_begin, .int i_h_isForm, .int i_h_letter, .ref h_tells, .int i_h_faultReason, .int i_h_faultCause])), (h_s, .inl (cI, 703, .inl f_h_s))]) (fun s1 o8 h5 h6 h7 => ?_) FU _ h3
  unfold SX6_lostMany_4 at h5
  refine G_iload_n X dX6_lostMany_4 2 rfl ?_
  refine G_aload_n X dX6_lostMany_5 0 rfl ?_
  refine G_get X (i0 := 0) (ci := 6) (j := 0) (C := RX6) (ref := RX6) (T := TX6) (N := 18) dX6_lostMany_6 rfl rfl hiX6_lostMany_X6 (by decide) flX6_lostMany_7 rfl rfl ?_
  refine G_iconst X (v := 0) dX6_lostMany_9 (by decide) ?_
  obtain ⟨v11, h12, h13⟩ := bnd h5
  refine G_iald X (i0 := 1) dX6_lostMany_10 rfl h12 ?_
  refine G_icmp_ge X (tgt := 36) dX6_lostMany_11 (by decide) (fun h14 => ?_) (fun h14 => ?_)
  · have h15 := ifp h14 h13
    cases h15
    have h16 := h7 _ rfl
    subst h16
    exact G_lv [1] rfl (J9)
  · have h17 := ifn h14 h13
    refine G_iload_n X dX6_lostMany_14 1 rfl ?_
    refine G_aload_n X dX6_lostMany_15 0 rfl ?_
    refine G_iload_n X dX6_lostMany_16 2 rfl ?_
    obtain ⟨v18, h19, h20⟩ := bnd h17
    refine G1_calli X (As := [.int s1.2]) (rest := [.int s1.1]) (wr := []) (ws' := [(h, .inr (6, [.ref h_s, .ref h_aside, .ref h_before, .ref h_past, .int i_h_known, .ref h_text, .int i_h_length, .ref h_lost, .int i_h_losts, .int i_h_bestOrder, .int i_h_bestMany, .int i_h_spot, .int i_h_begin, .int i_h_isForm, .int i_h_letter, .ref h_tells, .int i_h_faultReason, .int i_h_faultCause])), (h_s, .inl (cI, 703, .inl f_h_s))]) dX6_lostMany_17 pkX6_lives gX6_lostMany_X6_lives (kkX6_lives l D cI cR h h_s h_aside h_before h_past h_text h_lost h_tells i_h_known i_h_length i_h_losts i_h_bestOrder i_h_bestMany i_h_spot i_h_begin i_h_isForm i_h_letter i_h_faultReason i_h_faultCause f_h_s s1.2 v18 h19) ⟨rfl, rfl⟩ ⟨Nat.le_of_ble_eq_true rfl, Nat.le_of_ble_eq_true rfl⟩ rfl rfl (Nat.le_of_ble_eq_true rfl) 0 rfl rfl [0, 1] [] rfl rfl ⟨rfl, rfl, by decide⟩ ⟨Nat.zero_le _, Nat.zero_le _⟩ [0, 1] rfl rfl ?_
    refine G_if_eq X (tgt := 27) dX6_lostMany_20 (by decide) (fun h21 => ?_) (fun h21 => ?_)
    · have h22 := ifp h21 h20
      refine G_iconst X (v := 1) dX6_lostMany_27 (by decide) ?_
      refine G_iadd X dX6_lostMany_28 ?_
      refine G_istore_n X (lv' := [(1, .int (s1.1 + 1)), (0, .ref h), (2, .int s1.2)]) dX6_lostMany_29 (by decide) rfl ?_
      refine G_iinc X (v := (s1.2 + 1)) (lv' := [(2, .int (s1.2 + 1)), (1, .int (s1.1 + 1)), (0, .ref h)]) dX6_lostMany_30 2 rfl rfl (by decide) rfl ?_
      refine G_goto X (tgt := 4) dX6_lostMany_33 (by decide) ?_
      cases h22
      exact G_lv [2, 1, 0] rfl (h6 _ rfl)
    · have h23 := ifn h21 h20
      refine G_iconst X (v := 0) dX6_lostMany_23 (by decide) ?_
      refine G_goto X (tgt := 28) dX6_lostMany_24 (by decide) ?_
      refine G_iadd X dX6_lostMany_28 ?_
      refine G_istore_n X (lv' := [(1, .int (s1.1 + 0)), (0, .ref h), (2, .int s1.2)]) dX6_lostMany_29 (by decide) rfl ?_
      refine G_iinc X (v := (s1.2 + 1)) (lv' := [(2, .int (s1.2 + 1)), (1, .int (s1.1 + 0)), (0, .ref h)]) dX6_lostMany_30 2 rfl rfl (by decide) rfl ?_
      refine G_goto X (tgt := 4) dX6_lostMany_33 (by decide) ?_
      cases h23
      exact G_lv [2, 1, 0] rfl (h6 _ rfl)
def rmX6_findsLost : Room := { frames := 2, cells := 0, slots := 0, locals := 43 }
theorem pkX6_findsLost : cK yX6_findsLost wsX6_findsLost cX6_findsLost 2 none 0 RX6 := ⟨⟨_, rfl⟩, by decide +kernel⟩
theorem hiX6_findsLost_X6 : ∀ w ∈ wsX60, w ∈ wsX6_findsLost := by decide +kernel
theorem flX6_findsLost_163 : Cond.fieldLink RX6 163 "EchoMarginsModel" "losts" "I" ∈ wsX6_findsLost := by decide +kernel
theorem flX6_findsLost_7 : Cond.fieldLink RX6 7 "EchoMarginsModel" "s" "[I" ∈ wsX6_findsLost := by decide +kernel
theorem flX6_findsLost_25 : Cond.fieldLink RX6 25 "EchoMarginsModel" "lost" "[I" ∈ wsX6_findsLost := by decide +kernel
set_option maxHeartbeats 4000000 in
set_option maxRecDepth 100000 in
theorem kkX6_findsLost (l : Launch) (D : va_G) (cI cR : ClassId) (h h_s h_aside h_before h_past h_text h_lost h_tells : Nat) (i_h_known : Int32) (i_h_length : Int32) (i_h_losts : Int32) (i_h_bestOrder : Int32) (i_h_bestMany : Int32) (i_h_spot : Int32) (i_h_begin : Int32) (i_h_isForm : Int32) (i_h_letter : Int32) (i_h_faultReason : Int32) (i_h_faultCause : Int32) (f_h_s : Nat → Int32) (f_h_lost : Nat → Int32) (z : (Int32 × (Nat → Int32))) (hz : MX6_findsLost i_h_losts f_h_s f_h_lost = some z) : cV1 l yX6_findsLost wsX6_findsLost rmX6_findsLost D cI cR [.ref h] [(h, .inr (6, [.ref h_s, .ref h_aside, .ref h_before, .ref h_past, .int i_h_known, .ref h_text, .int i_h_length, .ref h_lost, .int i_h_losts, .int i_h_bestOrder, .int i_h_bestMany, .int i_h_spot, .int i_h_begin, .int i_h_isForm, .int i_h_letter, .ref h_tells, .int i_h_faultReason, .int i_h_faultCause])), (h_s, .inl (cI, 703, .inl f_h_s)), (h_lost, .inl (cI, 4, .inl f_h_lost))] [(h, .inr (6, [.ref h_s, .ref h_aside, .ref h_before, .ref h_past, .int i_h_known, .ref h_text, .int i_h_length, .ref h_lost, .int z.1, .int i_h_bestOrder, .int i_h_bestMany, .int i_h_spot, .int i_h_begin, .int i_h_isForm, .int i_h_letter, .ref h_tells, .int i_h_faultReason, .int i_h_faultCause])), (h_s, .inl (cI, 703, .inl f_h_s)), (h_lost, .inl (cI, 4, .inl z.2))] := by
  unfold MX6_findsLost at hz
  refine kV_of (cc := cX6_findsLost) (maxL := 2) (own := RX6) (by decide +kernel) rfl rfl (Nat.le_of_ble_eq_true rfl) (lv0 := [(0, .ref h)]) rfl (fun p e s m args below meth c A Q X rt => ?_)
  refine G_aload_n X dX6_findsLost_0 0 rfl ?_
  refine G_iconst X (v := 0) dX6_findsLost_1 (by decide) ?_
  refine G_put X (i0 := 0) (ci := 6) (j := 8) (C := RX6) (ref := RX6) (T := TX6) (N := 18) (ty := .int) (ws' := [(h, .inr (6, [.ref h_s, .ref h_aside, .ref h_before, .ref h_past, .int i_h_known, .ref h_text, .int i_h_length, .ref h_lost, .int 0, .int i_h_bestOrder, .int i_h_bestMany, .int i_h_spot, .int i_h_begin, .int i_h_isForm, .int i_h_letter, .ref h_tells, .int i_h_faultReason, .int i_h_faultCause])), (h_s, .inl (cI, 703, .inl f_h_s)), (h_lost, .inl (cI, 4, .inl f_h_lost))]) tyX6 dX6_findsLost_2 rfl rfl hiX6_findsLost_X6 tyX6_ok nmX6 (by decide) flX6_findsLost_163 rfl rfl rfl rfl rfl (Nat.le_of_ble_eq_true rfl) rfl ?_
  refine G_iconst X (v := 0) dX6_findsLost_5 (by decide) ?_
  refine G_istore_n X (lv' := [(1, .int 0), (0, .ref h)]) dX6_findsLost_6 (by decide) rfl ?_
  obtain ⟨j2, h3, h4⟩ := bnd hz
  have J9 : G p l e rmX6_findsLost s m args below meth c D A 2 Q 0 0 51 [] [] [(h, .inr (6, [.ref h_s, .ref h_aside, .ref h_before, .ref h_past, .int i_h_known, .ref h_text, .int i_h_length, .ref h_lost, .int j2.1, .int i_h_bestOrder, .int i_h_bestMany, .int i_h_spot, .int i_h_begin, .int i_h_isForm, .int i_h_letter, .ref h_tells, .int i_h_faultReason, .int i_h_faultCause])), (h_s, .inl (cI, 703, .inl f_h_s)), (h_lost, .inl (cI, 4, .inl j2.2))] := by
    cases h4
    exact rt _ _ _ dX6_findsLost_51 rfl
  refine G_lv [1, 0] rfl ?_
  refine itr_ind (P := fun s1 : (Int32 × Int32 × (Nat → Int32)) => G p l e rmX6_findsLost s m args below meth c D A 2 Q 0 0 7 [(0, .ref h), (1, .int s1.1)] [] [(h, .inr (6, [.ref h_s, .ref h_aside, .ref h_before, .ref h_past, .int i_h_known, .ref h_text, .int i_h_length, .ref h_lost, .int s1.2.1, .int i_h_bestOrder, .int i_h_bestMany, .int i_h_spot, .int i_h_begin, .int i_h_isForm, .int i_h_letter, .ref h_tells, .int i_h_faultReason, .int i_h_faultCause])), (h_s, .inl (cI, 703, .inl f_h_s)), (h_lost, .inl (cI, 4, .inl s1.2.2))]) (fun s1 o8 h5 h6 h7 => ?_) FU _ h3
  unfold SX6_findsLost_7 at h5
  refine G_iload_n X dX6_findsLost_7 1 rfl ?_
  refine G_aload_n X dX6_findsLost_8 0 rfl ?_
  refine G_get X (i0 := 0) (ci := 6) (j := 0) (C := RX6) (ref := RX6) (T := TX6) (N := 18) dX6_findsLost_9 rfl rfl hiX6_findsLost_X6 (by decide) flX6_findsLost_7 rfl rfl ?_
  refine G_iconst X (v := 0) dX6_findsLost_12 (by decide) ?_
  obtain ⟨v11, h12, h13⟩ := bnd h5
  refine G_iald X (i0 := 1) dX6_findsLost_13 rfl h12 ?_
  refine G_icmp_ge X (tgt := 51) dX6_findsLost_14 (by decide) (fun h14 => ?_) (fun h14 => ?_)
  · have h15 := ifp h14 h13
    cases h15
    have h16 := h7 _ rfl
    subst h16
    exact G_lv [] rfl (J9)
  · have h17 := ifn h14 h13
    refine G_aload_n X dX6_findsLost_17 0 rfl ?_
    refine G_iload_n X dX6_findsLost_18 1 rfl ?_
    obtain ⟨v18, h19, h20⟩ := bnd h17
    refine G1_calli X (As := [.int s1.1]) (rest := []) (wr := [(h_lost, .inl (cI, 4, .inl s1.2.2))]) (ws' := [(h, .inr (6, [.ref h_s, .ref h_aside, .ref h_before, .ref h_past, .int i_h_known, .ref h_text, .int i_h_length, .ref h_lost, .int s1.2.1, .int i_h_bestOrder, .int i_h_bestMany, .int i_h_spot, .int i_h_begin, .int i_h_isForm, .int i_h_letter, .ref h_tells, .int i_h_faultReason, .int i_h_faultCause])), (h_s, .inl (cI, 703, .inl f_h_s)), (h_lost, .inl (cI, 4, .inl s1.2.2))]) dX6_findsLost_19 pkX6_lives gX6_findsLost_X6_lives (kkX6_lives l D cI cR h h_s h_aside h_before h_past h_text h_lost h_tells i_h_known i_h_length s1.2.1 i_h_bestOrder i_h_bestMany i_h_spot i_h_begin i_h_isForm i_h_letter i_h_faultReason i_h_faultCause f_h_s s1.1 v18 h19) ⟨rfl, rfl⟩ ⟨Nat.le_of_ble_eq_true rfl, Nat.le_of_ble_eq_true rfl⟩ rfl rfl (Nat.le_of_ble_eq_true rfl) 0 rfl rfl [0, 1] [2] rfl rfl ⟨rfl, rfl, by decide⟩ ⟨Nat.zero_le _, Nat.zero_le _⟩ [1, 2, 0] rfl rfl ?_
    refine G_if_ne X (tgt := 45) dX6_findsLost_22 (by decide) (fun h21 => ?_) (fun h21 => ?_)
    · have h22 := ifp h21 h20
      refine G_aload_n X dX6_findsLost_25 0 rfl ?_
      refine G_get X (i0 := 0) (ci := 6) (j := 7) (C := RX6) (ref := RX6) (T := TX6) (N := 18) dX6_findsLost_26 rfl rfl hiX6_findsLost_X6 (by decide) flX6_findsLost_25 rfl rfl ?_
      refine G_aload_n X dX6_findsLost_29 0 rfl ?_
      refine G_get X (i0 := 0) (ci := 6) (j := 8) (C := RX6) (ref := RX6) (T := TX6) (N := 18) dX6_findsLost_30 rfl rfl hiX6_findsLost_X6 (by decide) flX6_findsLost_163 rfl rfl ?_
      refine G_iload_n X dX6_findsLost_33 1 rfl ?_
      obtain ⟨g23, h24, h25⟩ := bnd h22
      refine G_iast X (i0 := 2) (ws' := [(h, .inr (6, [.ref h_s, .ref h_aside, .ref h_before, .ref h_past, .int i_h_known, .ref h_text, .int i_h_length, .ref h_lost, .int s1.2.1, .int i_h_bestOrder, .int i_h_bestMany, .int i_h_spot, .int i_h_begin, .int i_h_isForm, .int i_h_letter, .ref h_tells, .int i_h_faultReason, .int i_h_faultCause])), (h_s, .inl (cI, 703, .inl f_h_s)), (h_lost, .inl (cI, 4, .inl g23))]) dX6_findsLost_34 rfl h24 rfl ?_
      refine G_aload_n X dX6_findsLost_35 0 rfl ?_
      refine G_dup X dX6_findsLost_36 rfl ?_
      refine G_get X (i0 := 0) (ci := 6) (j := 8) (C := RX6) (ref := RX6) (T := TX6) (N := 18) dX6_findsLost_37 rfl rfl hiX6_findsLost_X6 (by decide) flX6_findsLost_163 rfl rfl ?_
      refine G_iconst X (v := 1) dX6_findsLost_40 (by decide) ?_
      refine G_iadd X dX6_findsLost_41 ?_
      refine G_put X (i0 := 0) (ci := 6) (j := 8) (C := RX6) (ref := RX6) (T := TX6) (N := 18) (ty := .int) (ws' := [(h, .inr (6, [.ref h_s, .ref h_aside, .ref h_before, .ref h_past, .int i_h_known, .ref h_text, .int i_h_length, .ref h_lost, .int (s1.2.1 + 1), .int i_h_bestOrder, .int i_h_bestMany, .int i_h_spot, .int i_h_begin, .int i_h_isForm, .int i_h_letter, .ref h_tells, .int i_h_faultReason, .int i_h_faultCause])), (h_s, .inl (cI, 703, .inl f_h_s)), (h_lost, .inl (cI, 4, .inl g23))]) tyX6 dX6_findsLost_42 rfl rfl hiX6_findsLost_X6 tyX6_ok nmX6 (by decide) flX6_findsLost_163 rfl rfl rfl rfl rfl (Nat.le_of_ble_eq_true rfl) rfl ?_
      refine G_iinc X (v := (s1.1 + 1)) (lv' := [(1, .int (s1.1 + 1)), (0, .ref h)]) dX6_findsLost_45 1 rfl rfl (by decide) rfl ?_
      refine G_goto X (tgt := 7) dX6_findsLost_48 (by decide) ?_
      cases h25
      exact G_lv [1, 0] rfl (h6 _ rfl)
    · have h26 := ifn h21 h20
      refine G_iinc X (v := (s1.1 + 1)) (lv' := [(1, .int (s1.1 + 1)), (0, .ref h)]) dX6_findsLost_45 1 rfl rfl (by decide) rfl ?_
      refine G_goto X (tgt := 7) dX6_findsLost_48 (by decide) ?_
      cases h26
      exact G_lv [1, 0] rfl (h6 _ rfl)
def rmX6_isOrder : Room := { frames := 0, cells := 0, slots := 0, locals := 0 }
theorem pkX6_isOrder : cK yX6_isOrder wsX6_isOrder cX6_isOrder 4 (some .boolean) 1 RX6 := ⟨⟨_, rfl⟩, by decide +kernel⟩
theorem hiX6_isOrder_X6 : ∀ w ∈ wsX60, w ∈ wsX6_isOrder := by decide +kernel
theorem flX6_isOrder_163 : Cond.fieldLink RX6 163 "EchoMarginsModel" "losts" "I" ∈ wsX6_isOrder := by decide +kernel
set_option maxHeartbeats 4000000 in
set_option maxRecDepth 100000 in
theorem kkX6_isOrder (l : Launch) (D : va_G) (cI cR : ClassId) (h h_s h_aside h_before h_past h_text h_lost h_tells : Nat) (i_h_known : Int32) (i_h_length : Int32) (i_h_losts : Int32) (i_h_bestOrder : Int32) (i_h_bestMany : Int32) (i_h_spot : Int32) (i_h_begin : Int32) (i_h_isForm : Int32) (i_h_letter : Int32) (i_h_faultReason : Int32) (i_h_faultCause : Int32) (x0 : Int32) (z : Int32) (hz : MX6_isOrder i_h_losts x0 = some z) : cI1 l yX6_isOrder wsX6_isOrder rmX6_isOrder D cI cR [.ref h, .int x0] [(h, .inr (6, [.ref h_s, .ref h_aside, .ref h_before, .ref h_past, .int i_h_known, .ref h_text, .int i_h_length, .ref h_lost, .int i_h_losts, .int i_h_bestOrder, .int i_h_bestMany, .int i_h_spot, .int i_h_begin, .int i_h_isForm, .int i_h_letter, .ref h_tells, .int i_h_faultReason, .int i_h_faultCause]))] z [(h, .inr (6, [.ref h_s, .ref h_aside, .ref h_before, .ref h_past, .int i_h_known, .ref h_text, .int i_h_length, .ref h_lost, .int i_h_losts, .int i_h_bestOrder, .int i_h_bestMany, .int i_h_spot, .int i_h_begin, .int i_h_isForm, .int i_h_letter, .ref h_tells, .int i_h_faultReason, .int i_h_faultCause]))] := by
  unfold MX6_isOrder at hz
  refine kZ_of (cc := cX6_isOrder) (maxL := 4) (own := RX6) (by decide +kernel) rfl rfl (Nat.le_of_ble_eq_true rfl) (lv0 := [(0, .ref h), (1, .int x0)]) rfl (fun p e s m args below meth c A Q X rt => ?_)
  refine G_iconst X (v := 0) dX6_isOrder_0 (by decide) ?_
  refine G_istore_n X (lv' := [(2, .int 0), (0, .ref h), (1, .int x0)]) dX6_isOrder_1 (by decide) rfl ?_
  refine G_iconst X (v := 0) dX6_isOrder_2 (by decide) ?_
  refine G_istore_n X (lv' := [(3, .int 0), (2, .int 0), (0, .ref h), (1, .int x0)]) dX6_isOrder_3 (by decide) rfl ?_
  obtain ⟨j2, h3, h4⟩ := bnd hz
  have J9 : G p l e rmX6_isOrder s m args below meth c D A 4 Q 0 0 37 [(0, .ref h), (2, .int j2)] [] [(h, .inr (6, [.ref h_s, .ref h_aside, .ref h_before, .ref h_past, .int i_h_known, .ref h_text, .int i_h_length, .ref h_lost, .int i_h_losts, .int i_h_bestOrder, .int i_h_bestMany, .int i_h_spot, .int i_h_begin, .int i_h_isForm, .int i_h_letter, .ref h_tells, .int i_h_faultReason, .int i_h_faultCause]))] := by
    refine G_iload_n X dX6_isOrder_37 1 rfl ?_
    refine G_iconst X (v := 1) dX6_isOrder_38 (by decide) ?_
    refine G_aload_n X dX6_isOrder_39 0 rfl ?_
    refine G_get X (i0 := 0) (ci := 6) (j := 8) (C := RX6) (ref := RX6) (T := TX6) (N := 18) dX6_isOrder_40 rfl rfl hiX6_isOrder_X6 (by decide) flX6_isOrder_163 rfl rfl ?_
    refine G_ishl X dX6_isOrder_43 ?_
    refine G_iconst X (v := 1) dX6_isOrder_44 (by decide) ?_
    refine G_isub X dX6_isOrder_45 ?_
    refine G_icmp_ne X (tgt := 53) dX6_isOrder_46 (by decide) (fun h11 => ?_) (fun h11 => ?_)
    · have h12 := ifp h11 h4
      refine G_iconst X (v := 1) dX6_isOrder_49 (by decide) ?_
      refine G_goto X (tgt := 54) dX6_isOrder_50 (by decide) ?_
      cases h12
      exact rt _ _ _ _ dX6_isOrder_54 rfl ⟨rfl, rfl⟩
    · have h13 := ifn h11 h4
      refine G_iconst X (v := 0) dX6_isOrder_53 (by decide) ?_
      cases h13
      exact rt _ _ _ _ dX6_isOrder_54 rfl ⟨rfl, rfl⟩
  refine G_lv [2, 3, 1, 0] rfl ?_
  refine itr_ind (P := fun s1 : (Int32 × Int32) => G p l e rmX6_isOrder s m args below meth c D A 4 Q 0 0 4 [(0, .ref h), (1, .int x0), (2, .int s1.1), (3, .int s1.2)] [] [(h, .inr (6, [.ref h_s, .ref h_aside, .ref h_before, .ref h_past, .int i_h_known, .ref h_text, .int i_h_length, .ref h_lost, .int i_h_losts, .int i_h_bestOrder, .int i_h_bestMany, .int i_h_spot, .int i_h_begin, .int i_h_isForm, .int i_h_letter, .ref h_tells, .int i_h_faultReason, .int i_h_faultCause]))]) (fun s1 o8 h5 h6 h7 => ?_) FU _ h3
  unfold SX6_isOrder_4 at h5
  refine G_iload_n X dX6_isOrder_4 3 rfl ?_
  refine G_aload_n X dX6_isOrder_5 0 rfl ?_
  refine G_get X (i0 := 0) (ci := 6) (j := 8) (C := RX6) (ref := RX6) (T := TX6) (N := 18) dX6_isOrder_6 rfl rfl hiX6_isOrder_X6 (by decide) flX6_isOrder_163 rfl rfl ?_
  refine G_icmp_ge X (tgt := 37) dX6_isOrder_9 (by decide) (fun h14 => ?_) (fun h14 => ?_)
  · have h15 := ifp h14 h5
    cases h15
    have h16 := h7 _ rfl
    subst h16
    exact G_lv [0, 2] rfl (J9)
  · have h17 := ifn h14 h5
    refine G_iload_n X dX6_isOrder_12 2 rfl ?_
    refine G_iconst X (v := 1) dX6_isOrder_13 (by decide) ?_
    refine G_iload_n X dX6_isOrder_14 1 rfl ?_
    refine G_iconst X (v := 2) dX6_isOrder_15 (by decide) ?_
    refine G_aload_n X dX6_isOrder_16 0 rfl ?_
    refine G_get X (i0 := 0) (ci := 6) (j := 8) (C := RX6) (ref := RX6) (T := TX6) (N := 18) dX6_isOrder_17 rfl rfl hiX6_isOrder_X6 (by decide) flX6_isOrder_163 rfl rfl ?_
    refine G_iconst X (v := 1) dX6_isOrder_20 (by decide) ?_
    refine G_isub X dX6_isOrder_21 ?_
    refine G_iload_n X dX6_isOrder_22 3 rfl ?_
    refine G_isub X dX6_isOrder_23 ?_
    refine G_imul X dX6_isOrder_24 ?_
    refine G_ishr X dX6_isOrder_25 ?_
    refine G_iconst X (v := 3) dX6_isOrder_26 (by decide) ?_
    refine G_iand X dX6_isOrder_27 ?_
    refine G_ishl X dX6_isOrder_28 ?_
    refine G_ior X dX6_isOrder_29 ?_
    refine G_istore_n X (lv' := [(2, .int (s1.1 ||| (1 <<< (((x0 >>> ((2 * ((i_h_losts - 1) - s1.2)) &&& 31)) &&& 3) &&& 31)))), (0, .ref h), (1, .int x0), (3, .int s1.2)]) dX6_isOrder_30 (by decide) rfl ?_
    refine G_iinc X (v := (s1.2 + 1)) (lv' := [(3, .int (s1.2 + 1)), (2, .int (s1.1 ||| (1 <<< (((x0 >>> ((2 * ((i_h_losts - 1) - s1.2)) &&& 31)) &&& 3) &&& 31)))), (0, .ref h), (1, .int x0)]) dX6_isOrder_31 3 rfl rfl (by decide) rfl ?_
    refine G_goto X (tgt := 4) dX6_isOrder_34 (by decide) ?_
    cases h17
    exact G_lv [2, 3, 1, 0] rfl (h6 _ rfl)
def rmX6_cameBy : Room := { frames := 8, cells := 0, slots := 0, locals := 184 }
theorem pkX6_cameBy : cK yX6_cameBy wsX6_cameBy cX6_cameBy 4 (some .int) 1 RX6 := ⟨⟨_, rfl⟩, by decide +kernel⟩
theorem hiX6_cameBy_X6 : ∀ w ∈ wsX60, w ∈ wsX6_cameBy := by decide +kernel
theorem flX6_cameBy_7 : Cond.fieldLink RX6 7 "EchoMarginsModel" "s" "[I" ∈ wsX6_cameBy := by decide +kernel
theorem flX6_cameBy_13 : Cond.fieldLink RX6 13 "EchoMarginsModel" "aside" "[I" ∈ wsX6_cameBy := by decide +kernel
theorem flX6_cameBy_163 : Cond.fieldLink RX6 163 "EchoMarginsModel" "losts" "I" ∈ wsX6_cameBy := by decide +kernel
theorem flX6_cameBy_25 : Cond.fieldLink RX6 25 "EchoMarginsModel" "lost" "[I" ∈ wsX6_cameBy := by decide +kernel
set_option maxHeartbeats 4000000 in
set_option maxRecDepth 100000 in
theorem kkX6_cameBy (l : Launch) (D : va_G) (cI cR : ClassId) (h h_s h_aside h_before h_past h_text h_lost h_tells : Nat) (i_h_known : Int32) (i_h_length : Int32) (i_h_losts : Int32) (i_h_bestOrder : Int32) (i_h_bestMany : Int32) (i_h_spot : Int32) (i_h_begin : Int32) (i_h_isForm : Int32) (i_h_letter : Int32) (i_h_faultReason : Int32) (i_h_faultCause : Int32) (f_h_s : Nat → Int32) (f_h_aside : Nat → Int32) (f_h_lost : Nat → Int32) (x0 : Int32) (z : (Int32 × (Nat → Int32) × (Nat → Int32))) (hz : MX6_cameBy i_h_losts f_h_s f_h_aside f_h_lost x0 = some z) : cI1 l yX6_cameBy wsX6_cameBy rmX6_cameBy D cI cR [.ref h, .int x0] [(h, .inr (6, [.ref h_s, .ref h_aside, .ref h_before, .ref h_past, .int i_h_known, .ref h_text, .int i_h_length, .ref h_lost, .int i_h_losts, .int i_h_bestOrder, .int i_h_bestMany, .int i_h_spot, .int i_h_begin, .int i_h_isForm, .int i_h_letter, .ref h_tells, .int i_h_faultReason, .int i_h_faultCause])), (h_s, .inl (cI, 703, .inl f_h_s)), (h_aside, .inl (cI, 703, .inl f_h_aside)), (h_lost, .inl (cI, 4, .inl f_h_lost))] z.1 [(h, .inr (6, [.ref h_s, .ref h_aside, .ref h_before, .ref h_past, .int i_h_known, .ref h_text, .int i_h_length, .ref h_lost, .int i_h_losts, .int i_h_bestOrder, .int i_h_bestMany, .int i_h_spot, .int i_h_begin, .int i_h_isForm, .int i_h_letter, .ref h_tells, .int i_h_faultReason, .int i_h_faultCause])), (h_s, .inl (cI, 703, .inl z.2.1)), (h_aside, .inl (cI, 703, .inl z.2.2)), (h_lost, .inl (cI, 4, .inl f_h_lost))] := by
  unfold MX6_cameBy at hz
  refine kI_of (cc := cX6_cameBy) (maxL := 4) (own := RX6) (by decide +kernel) rfl rfl (Nat.le_of_ble_eq_true rfl) (lv0 := [(0, .ref h), (1, .int x0)]) rfl (fun p e s m args below meth c A Q X rt => ?_)
  refine G_iconst X (v := 0) dX6_cameBy_0 (by decide) ?_
  refine G_istore_n X (lv' := [(2, .int 0), (0, .ref h), (1, .int x0)]) dX6_cameBy_1 (by decide) rfl ?_
  refine G_aload_n X dX6_cameBy_2 1 rfl ?_
  refine G_get X (i0 := 0) (ci := 6) (j := 0) (C := RX6) (ref := RX6) (T := TX6) (N := 18) dX6_cameBy_3 rfl rfl hiX6_cameBy_X6 (by decide) flX6_cameBy_7 rfl rfl ?_
  refine G_iconst X (v := 0) dX6_cameBy_6 (by decide) ?_
  refine G_aload_n X dX6_cameBy_7 1 rfl ?_
  refine G_get X (i0 := 0) (ci := 6) (j := 1) (C := RX6) (ref := RX6) (T := TX6) (N := 18) dX6_cameBy_8 rfl rfl hiX6_cameBy_X6 (by decide) flX6_cameBy_13 rfl rfl ?_
  refine G_iconst X (v := 0) dX6_cameBy_11 (by decide) ?_
  obtain ⟨v1, h2, h3⟩ := bnd hz
  refine G1_callsv X (As := [.ref h_s, .int 0, .ref h_aside, .int 0]) (rest := []) (wr := [(h, .inr (6, [.ref h_s, .ref h_aside, .ref h_before, .ref h_past, .int i_h_known, .ref h_text, .int i_h_length, .ref h_lost, .int i_h_losts, .int i_h_bestOrder, .int i_h_bestMany, .int i_h_spot, .int i_h_begin, .int i_h_isForm, .int i_h_letter, .ref h_tells, .int i_h_faultReason, .int i_h_faultCause])), (h_lost, .inl (cI, 4, .inl f_h_lost))]) (ws' := [(h, .inr (6, [.ref h_s, .ref h_aside, .ref h_before, .ref h_past, .int i_h_known, .ref h_text, .int i_h_length, .ref h_lost, .int i_h_losts, .int i_h_bestOrder, .int i_h_bestMany, .int i_h_spot, .int i_h_begin, .int i_h_isForm, .int i_h_letter, .ref h_tells, .int i_h_faultReason, .int i_h_faultCause])), (h_s, .inl (cI, 703, .inl f_h_s)), (h_aside, .inl (cI, 703, .inl v1)), (h_lost, .inl (cI, 4, .inl f_h_lost))]) dX6_cameBy_12 pkX6_copies gX6_cameBy_X6_copies (kkX6_copies l D cI cR h_s h_aside 703 703 f_h_s f_h_aside 0 0 v1 h2) ⟨rfl, rfl⟩ ⟨Nat.le_of_ble_eq_true rfl, Nat.le_of_ble_eq_true rfl⟩ rfl rfl (Nat.le_of_ble_eq_true rfl) [1, 2] [0, 3] rfl rfl ⟨rfl, rfl, by decide⟩ ⟨Nat.zero_le _, Nat.zero_le _⟩ [0, 2, 3, 1] rfl rfl ?_
  refine G_iconst X (v := 0) dX6_cameBy_15 (by decide) ?_
  refine G_istore_n X (lv' := [(3, .int 0), (2, .int 0), (0, .ref h), (1, .int x0)]) dX6_cameBy_16 (by decide) rfl ?_
  obtain ⟨j5, h6, h7⟩ := bnd h3
  have J12 : G p l e rmX6_cameBy s m args below meth c D A 4 Q 0 0 57 [(0, .ref h), (2, .int j5.1)] [] [(h, .inr (6, [.ref h_s, .ref h_aside, .ref h_before, .ref h_past, .int i_h_known, .ref h_text, .int i_h_length, .ref h_lost, .int i_h_losts, .int i_h_bestOrder, .int i_h_bestMany, .int i_h_spot, .int i_h_begin, .int i_h_isForm, .int i_h_letter, .ref h_tells, .int i_h_faultReason, .int i_h_faultCause])), (h_s, .inl (cI, 703, .inl j5.2)), (h_aside, .inl (cI, 703, .inl v1)), (h_lost, .inl (cI, 4, .inl f_h_lost))] := by
    refine G_aload_n X dX6_cameBy_57 0 rfl ?_
    refine G_get X (i0 := 0) (ci := 6) (j := 1) (C := RX6) (ref := RX6) (T := TX6) (N := 18) dX6_cameBy_58 rfl rfl hiX6_cameBy_X6 (by decide) flX6_cameBy_13 rfl rfl ?_
    refine G_iconst X (v := 0) dX6_cameBy_61 (by decide) ?_
    refine G_aload_n X dX6_cameBy_62 0 rfl ?_
    refine G_get X (i0 := 0) (ci := 6) (j := 0) (C := RX6) (ref := RX6) (T := TX6) (N := 18) dX6_cameBy_63 rfl rfl hiX6_cameBy_X6 (by decide) flX6_cameBy_7 rfl rfl ?_
    refine G_iconst X (v := 0) dX6_cameBy_66 (by decide) ?_
    obtain ⟨v14, h15, h16⟩ := bnd h7
    refine G1_callsv X (As := [.ref h_aside, .int 0, .ref h_s, .int 0]) (rest := []) (wr := [(h, .inr (6, [.ref h_s, .ref h_aside, .ref h_before, .ref h_past, .int i_h_known, .ref h_text, .int i_h_length, .ref h_lost, .int i_h_losts, .int i_h_bestOrder, .int i_h_bestMany, .int i_h_spot, .int i_h_begin, .int i_h_isForm, .int i_h_letter, .ref h_tells, .int i_h_faultReason, .int i_h_faultCause])), (h_lost, .inl (cI, 4, .inl f_h_lost))]) (ws' := [(h, .inr (6, [.ref h_s, .ref h_aside, .ref h_before, .ref h_past, .int i_h_known, .ref h_text, .int i_h_length, .ref h_lost, .int i_h_losts, .int i_h_bestOrder, .int i_h_bestMany, .int i_h_spot, .int i_h_begin, .int i_h_isForm, .int i_h_letter, .ref h_tells, .int i_h_faultReason, .int i_h_faultCause])), (h_s, .inl (cI, 703, .inl v14)), (h_aside, .inl (cI, 703, .inl v1)), (h_lost, .inl (cI, 4, .inl f_h_lost))]) dX6_cameBy_67 pkX6_copies gX6_cameBy_X6_copies (kkX6_copies l D cI cR h_aside h_s 703 703 v1 j5.2 0 0 v14 h15) ⟨rfl, rfl⟩ ⟨Nat.le_of_ble_eq_true rfl, Nat.le_of_ble_eq_true rfl⟩ rfl rfl (Nat.le_of_ble_eq_true rfl) [2, 1] [0, 3] rfl rfl ⟨rfl, rfl, by decide⟩ ⟨Nat.zero_le _, Nat.zero_le _⟩ [0, 3, 2, 1] rfl rfl ?_
    refine G_iload_n X dX6_cameBy_70 1 rfl ?_
    cases h16
    exact rt _ _ _ _ dX6_cameBy_71 ⟨rfl, rfl⟩
  refine G_lv [2, 3, 1, 0] rfl ?_
  refine itr_ind (P := fun s4 : (Int32 × Int32 × (Nat → Int32)) => G p l e rmX6_cameBy s m args below meth c D A 4 Q 0 0 17 [(0, .ref h), (1, .int x0), (2, .int s4.1), (3, .int s4.2.1)] [] [(h, .inr (6, [.ref h_s, .ref h_aside, .ref h_before, .ref h_past, .int i_h_known, .ref h_text, .int i_h_length, .ref h_lost, .int i_h_losts, .int i_h_bestOrder, .int i_h_bestMany, .int i_h_spot, .int i_h_begin, .int i_h_isForm, .int i_h_letter, .ref h_tells, .int i_h_faultReason, .int i_h_faultCause])), (h_s, .inl (cI, 703, .inl s4.2.2)), (h_aside, .inl (cI, 703, .inl v1)), (h_lost, .inl (cI, 4, .inl f_h_lost))]) (fun s4 o11 h8 h9 h10 => ?_) FU _ h6
  unfold SX6_cameBy_17 at h8
  refine G_iload_n X dX6_cameBy_17 3 rfl ?_
  refine G_aload_n X dX6_cameBy_18 0 rfl ?_
  refine G_get X (i0 := 0) (ci := 6) (j := 8) (C := RX6) (ref := RX6) (T := TX6) (N := 18) dX6_cameBy_19 rfl rfl hiX6_cameBy_X6 (by decide) flX6_cameBy_163 rfl rfl ?_
  refine G_icmp_ge X (tgt := 57) dX6_cameBy_22 (by decide) (fun h17 => ?_) (fun h17 => ?_)
  · have h18 := ifp h17 h8
    cases h18
    have h19 := h10 _ rfl
    subst h19
    exact G_lv [0, 2] rfl (J12)
  · have h20 := ifn h17 h8
    refine G_iload_n X dX6_cameBy_25 2 rfl ?_
    refine G_aload_n X dX6_cameBy_26 0 rfl ?_
    refine G_aload_n X dX6_cameBy_27 0 rfl ?_
    refine G_get X (i0 := 0) (ci := 6) (j := 7) (C := RX6) (ref := RX6) (T := TX6) (N := 18) dX6_cameBy_28 rfl rfl hiX6_cameBy_X6 (by decide) flX6_cameBy_25 rfl rfl ?_
    refine G_iload_n X dX6_cameBy_31 1 rfl ?_
    refine G_iconst X (v := 2) dX6_cameBy_32 (by decide) ?_
    refine G_aload_n X dX6_cameBy_33 0 rfl ?_
    refine G_get X (i0 := 0) (ci := 6) (j := 8) (C := RX6) (ref := RX6) (T := TX6) (N := 18) dX6_cameBy_34 rfl rfl hiX6_cameBy_X6 (by decide) flX6_cameBy_163 rfl rfl ?_
    refine G_iconst X (v := 1) dX6_cameBy_37 (by decide) ?_
    refine G_isub X dX6_cameBy_38 ?_
    refine G_iload_n X dX6_cameBy_39 3 rfl ?_
    refine G_isub X dX6_cameBy_40 ?_
    refine G_imul X dX6_cameBy_41 ?_
    refine G_ishr X dX6_cameBy_42 ?_
    refine G_iconst X (v := 3) dX6_cameBy_43 (by decide) ?_
    refine G_iand X dX6_cameBy_44 ?_
    obtain ⟨v21, h22, h23⟩ := bnd h20
    refine G_iald X (i0 := 3) dX6_cameBy_45 rfl h22 ?_
    obtain ⟨v24, h25, h26⟩ := bnd h23
    refine G1_calli X (As := [.int v21]) (rest := [.int s4.1]) (wr := [(h_aside, .inl (cI, 703, .inl v1)), (h_lost, .inl (cI, 4, .inl f_h_lost))]) (ws' := [(h, .inr (6, [.ref h_s, .ref h_aside, .ref h_before, .ref h_past, .int i_h_known, .ref h_text, .int i_h_length, .ref h_lost, .int i_h_losts, .int i_h_bestOrder, .int i_h_bestMany, .int i_h_spot, .int i_h_begin, .int i_h_isForm, .int i_h_letter, .ref h_tells, .int i_h_faultReason, .int i_h_faultCause])), (h_s, .inl (cI, 703, .inl v24.2)), (h_aside, .inl (cI, 703, .inl v1)), (h_lost, .inl (cI, 4, .inl f_h_lost))]) dX6_cameBy_46 pkX6_goMend gX6_cameBy_X6_goMend (kkX6_goMend l D cI cR h h_s h_aside h_before h_past h_text h_lost h_tells i_h_known i_h_length i_h_losts i_h_bestOrder i_h_bestMany i_h_spot i_h_begin i_h_isForm i_h_letter i_h_faultReason i_h_faultCause s4.2.2 v21 v24 h25) ⟨rfl, rfl⟩ ⟨Nat.le_of_ble_eq_true rfl, Nat.le_of_ble_eq_true rfl⟩ rfl rfl (Nat.le_of_ble_eq_true rfl) 0 rfl rfl [0, 1] [2, 3] rfl rfl ⟨rfl, rfl, by decide⟩ ⟨Nat.zero_le _, Nat.zero_le _⟩ [2, 3, 0, 1] rfl rfl ?_
    refine G_iadd X dX6_cameBy_49 ?_
    refine G_istore_n X (lv' := [(2, .int (s4.1 + v24.1)), (0, .ref h), (1, .int x0), (3, .int s4.2.1)]) dX6_cameBy_50 (by decide) rfl ?_
    refine G_iinc X (v := (s4.2.1 + 1)) (lv' := [(3, .int (s4.2.1 + 1)), (2, .int (s4.1 + v24.1)), (0, .ref h), (1, .int x0)]) dX6_cameBy_51 3 rfl rfl (by decide) rfl ?_
    refine G_goto X (tgt := 17) dX6_cameBy_54 (by decide) ?_
    cases h26
    exact G_lv [2, 3, 1, 0] rfl (h9 _ rfl)
def rmX6_findsOrder : Room := { frames := 9, cells := 0, slots := 0, locals := 207 }
theorem pkX6_findsOrder : cK yX6_findsOrder wsX6_findsOrder cX6_findsOrder 3 none 0 RX6 := ⟨⟨_, rfl⟩, by decide +kernel⟩
theorem hiX6_findsOrder_X6 : ∀ w ∈ wsX60, w ∈ wsX6_findsOrder := by decide +kernel
theorem flX6_findsOrder_169 : Cond.fieldLink RX6 169 "EchoMarginsModel" "bestOrder" "I" ∈ wsX6_findsOrder := by decide +kernel
theorem flX6_findsOrder_172 : Cond.fieldLink RX6 172 "EchoMarginsModel" "bestMany" "I" ∈ wsX6_findsOrder := by decide +kernel
theorem flX6_findsOrder_163 : Cond.fieldLink RX6 163 "EchoMarginsModel" "losts" "I" ∈ wsX6_findsOrder := by decide +kernel
set_option maxHeartbeats 4000000 in
set_option maxRecDepth 100000 in
theorem kkX6_findsOrder (l : Launch) (D : va_G) (cI cR : ClassId) (h h_s h_aside h_before h_past h_text h_lost h_tells : Nat) (i_h_known : Int32) (i_h_length : Int32) (i_h_losts : Int32) (i_h_bestOrder : Int32) (i_h_bestMany : Int32) (i_h_spot : Int32) (i_h_begin : Int32) (i_h_isForm : Int32) (i_h_letter : Int32) (i_h_faultReason : Int32) (i_h_faultCause : Int32) (f_h_s : Nat → Int32) (f_h_aside : Nat → Int32) (f_h_lost : Nat → Int32) (z : (Int32 × Int32 × Int32 × (Nat → Int32) × (Nat → Int32) × (Nat → Int32))) (hz : MX6_findsOrder i_h_losts i_h_bestOrder i_h_bestMany f_h_s f_h_aside f_h_lost = some z) : cV1 l yX6_findsOrder wsX6_findsOrder rmX6_findsOrder D cI cR [.ref h] [(h, .inr (6, [.ref h_s, .ref h_aside, .ref h_before, .ref h_past, .int i_h_known, .ref h_text, .int i_h_length, .ref h_lost, .int i_h_losts, .int i_h_bestOrder, .int i_h_bestMany, .int i_h_spot, .int i_h_begin, .int i_h_isForm, .int i_h_letter, .ref h_tells, .int i_h_faultReason, .int i_h_faultCause])), (h_s, .inl (cI, 703, .inl f_h_s)), (h_aside, .inl (cI, 703, .inl f_h_aside)), (h_lost, .inl (cI, 4, .inl f_h_lost))] [(h, .inr (6, [.ref h_s, .ref h_aside, .ref h_before, .ref h_past, .int i_h_known, .ref h_text, .int i_h_length, .ref h_lost, .int z.1, .int z.2.1, .int z.2.2.1, .int i_h_spot, .int i_h_begin, .int i_h_isForm, .int i_h_letter, .ref h_tells, .int i_h_faultReason, .int i_h_faultCause])), (h_s, .inl (cI, 703, .inl z.2.2.2.1)), (h_aside, .inl (cI, 703, .inl z.2.2.2.2.1)), (h_lost, .inl (cI, 4, .inl z.2.2.2.2.2))] := by
  unfold MX6_findsOrder at hz
  refine kV_of (cc := cX6_findsOrder) (maxL := 3) (own := RX6) (by decide +kernel) rfl rfl (Nat.le_of_ble_eq_true rfl) (lv0 := [(0, .ref h)]) rfl (fun p e s m args below meth c A Q X rt => ?_)
  refine G_aload_n X dX6_findsOrder_0 0 rfl ?_
  obtain ⟨v1, h2, h3⟩ := bnd hz
  refine G1_callv X (As := []) (rest := []) (wr := [(h_aside, .inl (cI, 703, .inl f_h_aside))]) (ws' := [(h, .inr (6, [.ref h_s, .ref h_aside, .ref h_before, .ref h_past, .int i_h_known, .ref h_text, .int i_h_length, .ref h_lost, .int v1.1, .int i_h_bestOrder, .int i_h_bestMany, .int i_h_spot, .int i_h_begin, .int i_h_isForm, .int i_h_letter, .ref h_tells, .int i_h_faultReason, .int i_h_faultCause])), (h_s, .inl (cI, 703, .inl f_h_s)), (h_aside, .inl (cI, 703, .inl f_h_aside)), (h_lost, .inl (cI, 4, .inl v1.2))]) dX6_findsOrder_1 pkX6_findsLost gX6_findsOrder_X6_findsLost (kkX6_findsLost l D cI cR h h_s h_aside h_before h_past h_text h_lost h_tells i_h_known i_h_length i_h_losts i_h_bestOrder i_h_bestMany i_h_spot i_h_begin i_h_isForm i_h_letter i_h_faultReason i_h_faultCause f_h_s f_h_lost v1 h2) ⟨rfl, rfl⟩ ⟨Nat.le_of_ble_eq_true rfl, Nat.le_of_ble_eq_true rfl⟩ rfl rfl (Nat.le_of_ble_eq_true rfl) 0 rfl rfl [0, 1, 3] [2] rfl rfl ⟨rfl, rfl, by decide⟩ ⟨Nat.zero_le _, Nat.zero_le _⟩ [1, 2, 0, 3] rfl rfl ?_
  refine G_aload_n X dX6_findsOrder_4 0 rfl ?_
  refine G_iconst X (v := 0) dX6_findsOrder_5 (by decide) ?_
  refine G_put X (i0 := 0) (ci := 6) (j := 9) (C := RX6) (ref := RX6) (T := TX6) (N := 18) (ty := .int) (ws' := [(h, .inr (6, [.ref h_s, .ref h_aside, .ref h_before, .ref h_past, .int i_h_known, .ref h_text, .int i_h_length, .ref h_lost, .int v1.1, .int 0, .int i_h_bestMany, .int i_h_spot, .int i_h_begin, .int i_h_isForm, .int i_h_letter, .ref h_tells, .int i_h_faultReason, .int i_h_faultCause])), (h_s, .inl (cI, 703, .inl f_h_s)), (h_aside, .inl (cI, 703, .inl f_h_aside)), (h_lost, .inl (cI, 4, .inl v1.2))]) tyX6 dX6_findsOrder_6 rfl rfl hiX6_findsOrder_X6 tyX6_ok nmX6 (by decide) flX6_findsOrder_169 rfl rfl rfl rfl rfl (Nat.le_of_ble_eq_true rfl) rfl ?_
  refine G_aload_n X dX6_findsOrder_9 0 rfl ?_
  refine G_iconst X (v := (-1)) dX6_findsOrder_10 (by decide) ?_
  refine G_put X (i0 := 0) (ci := 6) (j := 10) (C := RX6) (ref := RX6) (T := TX6) (N := 18) (ty := .int) (ws' := [(h, .inr (6, [.ref h_s, .ref h_aside, .ref h_before, .ref h_past, .int i_h_known, .ref h_text, .int i_h_length, .ref h_lost, .int v1.1, .int 0, .int (-1), .int i_h_spot, .int i_h_begin, .int i_h_isForm, .int i_h_letter, .ref h_tells, .int i_h_faultReason, .int i_h_faultCause])), (h_s, .inl (cI, 703, .inl f_h_s)), (h_aside, .inl (cI, 703, .inl f_h_aside)), (h_lost, .inl (cI, 4, .inl v1.2))]) tyX6 dX6_findsOrder_11 rfl rfl hiX6_findsOrder_X6 tyX6_ok nmX6 (by decide) flX6_findsOrder_172 rfl rfl rfl rfl rfl (Nat.le_of_ble_eq_true rfl) rfl ?_
  refine G_iconst X (v := 0) dX6_findsOrder_14 (by decide) ?_
  refine G_istore_n X (lv' := [(1, .int 0), (0, .ref h)]) dX6_findsOrder_15 (by decide) rfl ?_
  obtain ⟨j5, h6, h7⟩ := bnd h3
  have J12 : G p l e rmX6_findsOrder s m args below meth c D A 3 Q 0 0 92 [] [] [(h, .inr (6, [.ref h_s, .ref h_aside, .ref h_before, .ref h_past, .int i_h_known, .ref h_text, .int i_h_length, .ref h_lost, .int v1.1, .int j5.1, .int j5.2.1, .int i_h_spot, .int i_h_begin, .int i_h_isForm, .int i_h_letter, .ref h_tells, .int i_h_faultReason, .int i_h_faultCause])), (h_s, .inl (cI, 703, .inl j5.2.2.1)), (h_aside, .inl (cI, 703, .inl j5.2.2.2)), (h_lost, .inl (cI, 4, .inl v1.2))] := by
    cases h7
    exact rt _ _ _ dX6_findsOrder_92 rfl
  refine G_lv [1, 0] rfl ?_
  refine itr_ind (P := fun s4 : (Int32 × Int32 × Int32 × (Nat → Int32) × (Nat → Int32)) => G p l e rmX6_findsOrder s m args below meth c D A 3 Q 0 0 16 [(0, .ref h), (1, .int s4.1)] [] [(h, .inr (6, [.ref h_s, .ref h_aside, .ref h_before, .ref h_past, .int i_h_known, .ref h_text, .int i_h_length, .ref h_lost, .int v1.1, .int s4.2.1, .int s4.2.2.1, .int i_h_spot, .int i_h_begin, .int i_h_isForm, .int i_h_letter, .ref h_tells, .int i_h_faultReason, .int i_h_faultCause])), (h_s, .inl (cI, 703, .inl s4.2.2.2.1)), (h_aside, .inl (cI, 703, .inl s4.2.2.2.2)), (h_lost, .inl (cI, 4, .inl v1.2))]) (fun s4 o11 h8 h9 h10 => ?_) FU _ h6
  unfold SX6_findsOrder_16 at h8
  refine G_iload_n X dX6_findsOrder_16 1 rfl ?_
  refine G_iconst X (v := 1) dX6_findsOrder_17 (by decide) ?_
  refine G_iconst X (v := 2) dX6_findsOrder_18 (by decide) ?_
  refine G_aload_n X dX6_findsOrder_19 0 rfl ?_
  refine G_get X (i0 := 0) (ci := 6) (j := 8) (C := RX6) (ref := RX6) (T := TX6) (N := 18) dX6_findsOrder_20 rfl rfl hiX6_findsOrder_X6 (by decide) flX6_findsOrder_163 rfl rfl ?_
  refine G_imul X dX6_findsOrder_23 ?_
  refine G_ishl X dX6_findsOrder_24 ?_
  refine G_icmp_ge X (tgt := 92) dX6_findsOrder_25 (by decide) (fun h14 => ?_) (fun h14 => ?_)
  · have h15 := ifp h14 h8
    cases h15
    have h16 := h10 _ rfl
    subst h16
    exact G_lv [] rfl (J12)
  · have h17 := ifn h14 h8
    refine G_aload_n X dX6_findsOrder_28 0 rfl ?_
    refine G_iload_n X dX6_findsOrder_29 1 rfl ?_
    obtain ⟨v18, h19, h20⟩ := bnd h17
    refine G1_calli X (As := [.int s4.1]) (rest := []) (wr := [(h_s, .inl (cI, 703, .inl s4.2.2.2.1)), (h_aside, .inl (cI, 703, .inl s4.2.2.2.2)), (h_lost, .inl (cI, 4, .inl v1.2))]) (ws' := [(h, .inr (6, [.ref h_s, .ref h_aside, .ref h_before, .ref h_past, .int i_h_known, .ref h_text, .int i_h_length, .ref h_lost, .int v1.1, .int s4.2.1, .int s4.2.2.1, .int i_h_spot, .int i_h_begin, .int i_h_isForm, .int i_h_letter, .ref h_tells, .int i_h_faultReason, .int i_h_faultCause])), (h_s, .inl (cI, 703, .inl s4.2.2.2.1)), (h_aside, .inl (cI, 703, .inl s4.2.2.2.2)), (h_lost, .inl (cI, 4, .inl v1.2))]) dX6_findsOrder_30 pkX6_isOrder gX6_findsOrder_X6_isOrder (kkX6_isOrder l D cI cR h h_s h_aside h_before h_past h_text h_lost h_tells i_h_known i_h_length v1.1 s4.2.1 s4.2.2.1 i_h_spot i_h_begin i_h_isForm i_h_letter i_h_faultReason i_h_faultCause s4.1 v18 h19) ⟨rfl, rfl⟩ ⟨Nat.le_of_ble_eq_true rfl, Nat.le_of_ble_eq_true rfl⟩ rfl rfl (Nat.le_of_ble_eq_true rfl) 0 rfl rfl [0] [1, 2, 3] rfl rfl ⟨rfl, rfl, by decide⟩ ⟨Nat.zero_le _, Nat.zero_le _⟩ [3, 0, 1, 2] rfl rfl ?_
    refine G_if_eq X (tgt := 44) dX6_findsOrder_33 (by decide) (fun h21 => ?_) (fun h21 => ?_)
    · have h22 := ifp h21 h20
      refine G_iconst X (v := (-1)) dX6_findsOrder_44 (by decide) ?_
      refine G_istore_n X (lv' := [(2, .int (-1)), (0, .ref h), (1, .int s4.1)]) dX6_findsOrder_45 (by decide) rfl ?_
      refine G_aload_n X dX6_findsOrder_46 1 rfl ?_
      refine G_iload_n X dX6_findsOrder_47 0 rfl ?_
      refine G_aload_n X dX6_findsOrder_48 1 rfl ?_
      refine G_get X (i0 := 0) (ci := 6) (j := 10) (C := RX6) (ref := RX6) (T := TX6) (N := 18) dX6_findsOrder_49 rfl rfl hiX6_findsOrder_X6 (by decide) flX6_findsOrder_172 rfl rfl ?_
      refine G_icmp_le X (tgt := 59) dX6_findsOrder_52 (by decide) (fun h23 => ?_) (fun h23 => ?_)
      · have h24 := ifp h23 h22
        refine G_aload_n X dX6_findsOrder_59 1 rfl ?_
        refine G_get X (i0 := 0) (ci := 6) (j := 9) (C := RX6) (ref := RX6) (T := TX6) (N := 18) dX6_findsOrder_60 rfl rfl hiX6_findsOrder_X6 (by decide) flX6_findsOrder_169 rfl rfl ?_
        refine G_put X (i0 := 0) (ci := 6) (j := 9) (C := RX6) (ref := RX6) (T := TX6) (N := 18) (ty := .int) (ws' := [(h, .inr (6, [.ref h_s, .ref h_aside, .ref h_before, .ref h_past, .int i_h_known, .ref h_text, .int i_h_length, .ref h_lost, .int v1.1, .int s4.2.1, .int s4.2.2.1, .int i_h_spot, .int i_h_begin, .int i_h_isForm, .int i_h_letter, .ref h_tells, .int i_h_faultReason, .int i_h_faultCause])), (h_s, .inl (cI, 703, .inl s4.2.2.2.1)), (h_aside, .inl (cI, 703, .inl s4.2.2.2.2)), (h_lost, .inl (cI, 4, .inl v1.2))]) tyX6 dX6_findsOrder_63 rfl rfl hiX6_findsOrder_X6 tyX6_ok nmX6 (by decide) flX6_findsOrder_169 rfl rfl rfl rfl rfl (Nat.le_of_ble_eq_true rfl) rfl ?_
        refine G_aload_n X dX6_findsOrder_66 1 rfl ?_
        refine G_iload_n X dX6_findsOrder_67 0 rfl ?_
        refine G_aload_n X dX6_findsOrder_68 1 rfl ?_
        refine G_get X (i0 := 0) (ci := 6) (j := 10) (C := RX6) (ref := RX6) (T := TX6) (N := 18) dX6_findsOrder_69 rfl rfl hiX6_findsOrder_X6 (by decide) flX6_findsOrder_172 rfl rfl ?_
        refine G_icmp_le X (tgt := 79) dX6_findsOrder_72 (by decide) (fun h25 => ?_) (fun h25 => ?_)
        · have h26 := ifp h25 h24
          refine G_aload_n X dX6_findsOrder_79 1 rfl ?_
          refine G_get X (i0 := 0) (ci := 6) (j := 10) (C := RX6) (ref := RX6) (T := TX6) (N := 18) dX6_findsOrder_80 rfl rfl hiX6_findsOrder_X6 (by decide) flX6_findsOrder_172 rfl rfl ?_
          refine G_put X (i0 := 0) (ci := 6) (j := 10) (C := RX6) (ref := RX6) (T := TX6) (N := 18) (ty := .int) (ws' := [(h, .inr (6, [.ref h_s, .ref h_aside, .ref h_before, .ref h_past, .int i_h_known, .ref h_text, .int i_h_length, .ref h_lost, .int v1.1, .int s4.2.1, .int s4.2.2.1, .int i_h_spot, .int i_h_begin, .int i_h_isForm, .int i_h_letter, .ref h_tells, .int i_h_faultReason, .int i_h_faultCause])), (h_s, .inl (cI, 703, .inl s4.2.2.2.1)), (h_aside, .inl (cI, 703, .inl s4.2.2.2.2)), (h_lost, .inl (cI, 4, .inl v1.2))]) tyX6 dX6_findsOrder_83 rfl rfl hiX6_findsOrder_X6 tyX6_ok nmX6 (by decide) flX6_findsOrder_172 rfl rfl rfl rfl rfl (Nat.le_of_ble_eq_true rfl) rfl ?_
          refine G_iinc X (v := (s4.1 + 1)) (lv' := [(1, .int (s4.1 + 1)), (2, .int (-1)), (0, .ref h)]) dX6_findsOrder_86 2 rfl rfl (by decide) rfl ?_
          refine G_goto X (tgt := 16) dX6_findsOrder_89 (by decide) ?_
          cases h26
          exact G_lv [2, 0] rfl (h9 _ rfl)
        · have h27 := ifn h25 h24
          refine G_iload_n X dX6_findsOrder_75 0 rfl ?_
          refine G_goto X (tgt := 83) dX6_findsOrder_76 (by decide) ?_
          refine G_put X (i0 := 0) (ci := 6) (j := 10) (C := RX6) (ref := RX6) (T := TX6) (N := 18) (ty := .int) (ws' := [(h, .inr (6, [.ref h_s, .ref h_aside, .ref h_before, .ref h_past, .int i_h_known, .ref h_text, .int i_h_length, .ref h_lost, .int v1.1, .int s4.2.1, .int (-1), .int i_h_spot, .int i_h_begin, .int i_h_isForm, .int i_h_letter, .ref h_tells, .int i_h_faultReason, .int i_h_faultCause])), (h_s, .inl (cI, 703, .inl s4.2.2.2.1)), (h_aside, .inl (cI, 703, .inl s4.2.2.2.2)), (h_lost, .inl (cI, 4, .inl v1.2))]) tyX6 dX6_findsOrder_83 rfl rfl hiX6_findsOrder_X6 tyX6_ok nmX6 (by decide) flX6_findsOrder_172 rfl rfl rfl rfl rfl (Nat.le_of_ble_eq_true rfl) rfl ?_
          refine G_iinc X (v := (s4.1 + 1)) (lv' := [(1, .int (s4.1 + 1)), (2, .int (-1)), (0, .ref h)]) dX6_findsOrder_86 2 rfl rfl (by decide) rfl ?_
          refine G_goto X (tgt := 16) dX6_findsOrder_89 (by decide) ?_
          cases h27
          exact G_lv [2, 0] rfl (h9 _ rfl)
      · have h28 := ifn h23 h22
        refine G_iload_n X dX6_findsOrder_55 2 rfl ?_
        refine G_goto X (tgt := 63) dX6_findsOrder_56 (by decide) ?_
        refine G_put X (i0 := 0) (ci := 6) (j := 9) (C := RX6) (ref := RX6) (T := TX6) (N := 18) (ty := .int) (ws' := [(h, .inr (6, [.ref h_s, .ref h_aside, .ref h_before, .ref h_past, .int i_h_known, .ref h_text, .int i_h_length, .ref h_lost, .int v1.1, .int s4.1, .int s4.2.2.1, .int i_h_spot, .int i_h_begin, .int i_h_isForm, .int i_h_letter, .ref h_tells, .int i_h_faultReason, .int i_h_faultCause])), (h_s, .inl (cI, 703, .inl s4.2.2.2.1)), (h_aside, .inl (cI, 703, .inl s4.2.2.2.2)), (h_lost, .inl (cI, 4, .inl v1.2))]) tyX6 dX6_findsOrder_63 rfl rfl hiX6_findsOrder_X6 tyX6_ok nmX6 (by decide) flX6_findsOrder_169 rfl rfl rfl rfl rfl (Nat.le_of_ble_eq_true rfl) rfl ?_
        refine G_aload_n X dX6_findsOrder_66 1 rfl ?_
        refine G_iload_n X dX6_findsOrder_67 0 rfl ?_
        refine G_aload_n X dX6_findsOrder_68 1 rfl ?_
        refine G_get X (i0 := 0) (ci := 6) (j := 10) (C := RX6) (ref := RX6) (T := TX6) (N := 18) dX6_findsOrder_69 rfl rfl hiX6_findsOrder_X6 (by decide) flX6_findsOrder_172 rfl rfl ?_
        refine G_icmp_le X (tgt := 79) dX6_findsOrder_72 (by decide) (fun h29 => ?_) (fun h29 => ?_)
        · have h30 := ifp h29 h28
          refine G_aload_n X dX6_findsOrder_79 1 rfl ?_
          refine G_get X (i0 := 0) (ci := 6) (j := 10) (C := RX6) (ref := RX6) (T := TX6) (N := 18) dX6_findsOrder_80 rfl rfl hiX6_findsOrder_X6 (by decide) flX6_findsOrder_172 rfl rfl ?_
          refine G_put X (i0 := 0) (ci := 6) (j := 10) (C := RX6) (ref := RX6) (T := TX6) (N := 18) (ty := .int) (ws' := [(h, .inr (6, [.ref h_s, .ref h_aside, .ref h_before, .ref h_past, .int i_h_known, .ref h_text, .int i_h_length, .ref h_lost, .int v1.1, .int s4.1, .int s4.2.2.1, .int i_h_spot, .int i_h_begin, .int i_h_isForm, .int i_h_letter, .ref h_tells, .int i_h_faultReason, .int i_h_faultCause])), (h_s, .inl (cI, 703, .inl s4.2.2.2.1)), (h_aside, .inl (cI, 703, .inl s4.2.2.2.2)), (h_lost, .inl (cI, 4, .inl v1.2))]) tyX6 dX6_findsOrder_83 rfl rfl hiX6_findsOrder_X6 tyX6_ok nmX6 (by decide) flX6_findsOrder_172 rfl rfl rfl rfl rfl (Nat.le_of_ble_eq_true rfl) rfl ?_
          refine G_iinc X (v := (s4.1 + 1)) (lv' := [(1, .int (s4.1 + 1)), (2, .int (-1)), (0, .ref h)]) dX6_findsOrder_86 2 rfl rfl (by decide) rfl ?_
          refine G_goto X (tgt := 16) dX6_findsOrder_89 (by decide) ?_
          cases h30
          exact G_lv [2, 0] rfl (h9 _ rfl)
        · have h31 := ifn h29 h28
          refine G_iload_n X dX6_findsOrder_75 0 rfl ?_
          refine G_goto X (tgt := 83) dX6_findsOrder_76 (by decide) ?_
          refine G_put X (i0 := 0) (ci := 6) (j := 10) (C := RX6) (ref := RX6) (T := TX6) (N := 18) (ty := .int) (ws' := [(h, .inr (6, [.ref h_s, .ref h_aside, .ref h_before, .ref h_past, .int i_h_known, .ref h_text, .int i_h_length, .ref h_lost, .int v1.1, .int s4.1, .int (-1), .int i_h_spot, .int i_h_begin, .int i_h_isForm, .int i_h_letter, .ref h_tells, .int i_h_faultReason, .int i_h_faultCause])), (h_s, .inl (cI, 703, .inl s4.2.2.2.1)), (h_aside, .inl (cI, 703, .inl s4.2.2.2.2)), (h_lost, .inl (cI, 4, .inl v1.2))]) tyX6 dX6_findsOrder_83 rfl rfl hiX6_findsOrder_X6 tyX6_ok nmX6 (by decide) flX6_findsOrder_172 rfl rfl rfl rfl rfl (Nat.le_of_ble_eq_true rfl) rfl ?_
          refine G_iinc X (v := (s4.1 + 1)) (lv' := [(1, .int (s4.1 + 1)), (2, .int (-1)), (0, .ref h)]) dX6_findsOrder_86 2 rfl rfl (by decide) rfl ?_
          refine G_goto X (tgt := 16) dX6_findsOrder_89 (by decide) ?_
          cases h31
          exact G_lv [2, 0] rfl (h9 _ rfl)
    · have h32 := ifn h21 h20
      refine G_aload_n X dX6_findsOrder_36 0 rfl ?_
      refine G_iload_n X dX6_findsOrder_37 1 rfl ?_
      obtain ⟨v33, h34, h35⟩ := bnd h32
      refine G1_calli X (As := [.int s4.1]) (rest := []) (wr := []) (ws' := [(h, .inr (6, [.ref h_s, .ref h_aside, .ref h_before, .ref h_past, .int i_h_known, .ref h_text, .int i_h_length, .ref h_lost, .int v1.1, .int s4.2.1, .int s4.2.2.1, .int i_h_spot, .int i_h_begin, .int i_h_isForm, .int i_h_letter, .ref h_tells, .int i_h_faultReason, .int i_h_faultCause])), (h_s, .inl (cI, 703, .inl v33.2.1)), (h_aside, .inl (cI, 703, .inl v33.2.2)), (h_lost, .inl (cI, 4, .inl v1.2))]) dX6_findsOrder_38 pkX6_cameBy gX6_findsOrder_X6_cameBy (kkX6_cameBy l D cI cR h h_s h_aside h_before h_past h_text h_lost h_tells i_h_known i_h_length v1.1 s4.2.1 s4.2.2.1 i_h_spot i_h_begin i_h_isForm i_h_letter i_h_faultReason i_h_faultCause s4.2.2.2.1 s4.2.2.2.2 v1.2 s4.1 v33 h34) ⟨rfl, rfl⟩ ⟨Nat.le_of_ble_eq_true rfl, Nat.le_of_ble_eq_true rfl⟩ rfl rfl (Nat.le_of_ble_eq_true rfl) 0 rfl rfl [0, 1, 2, 3] [] rfl rfl ⟨rfl, rfl, by decide⟩ ⟨Nat.zero_le _, Nat.zero_le _⟩ [0, 1, 2, 3] rfl rfl ?_
      refine G_goto X (tgt := 45) dX6_findsOrder_41 (by decide) ?_
      refine G_istore_n X (lv' := [(2, .int v33.1), (0, .ref h), (1, .int s4.1)]) dX6_findsOrder_45 (by decide) rfl ?_
      refine G_aload_n X dX6_findsOrder_46 1 rfl ?_
      refine G_iload_n X dX6_findsOrder_47 0 rfl ?_
      refine G_aload_n X dX6_findsOrder_48 1 rfl ?_
      refine G_get X (i0 := 0) (ci := 6) (j := 10) (C := RX6) (ref := RX6) (T := TX6) (N := 18) dX6_findsOrder_49 rfl rfl hiX6_findsOrder_X6 (by decide) flX6_findsOrder_172 rfl rfl ?_
      refine G_icmp_le X (tgt := 59) dX6_findsOrder_52 (by decide) (fun h36 => ?_) (fun h36 => ?_)
      · have h37 := ifp h36 h35
        refine G_aload_n X dX6_findsOrder_59 1 rfl ?_
        refine G_get X (i0 := 0) (ci := 6) (j := 9) (C := RX6) (ref := RX6) (T := TX6) (N := 18) dX6_findsOrder_60 rfl rfl hiX6_findsOrder_X6 (by decide) flX6_findsOrder_169 rfl rfl ?_
        refine G_put X (i0 := 0) (ci := 6) (j := 9) (C := RX6) (ref := RX6) (T := TX6) (N := 18) (ty := .int) (ws' := [(h, .inr (6, [.ref h_s, .ref h_aside, .ref h_before, .ref h_past, .int i_h_known, .ref h_text, .int i_h_length, .ref h_lost, .int v1.1, .int s4.2.1, .int s4.2.2.1, .int i_h_spot, .int i_h_begin, .int i_h_isForm, .int i_h_letter, .ref h_tells, .int i_h_faultReason, .int i_h_faultCause])), (h_s, .inl (cI, 703, .inl v33.2.1)), (h_aside, .inl (cI, 703, .inl v33.2.2)), (h_lost, .inl (cI, 4, .inl v1.2))]) tyX6 dX6_findsOrder_63 rfl rfl hiX6_findsOrder_X6 tyX6_ok nmX6 (by decide) flX6_findsOrder_169 rfl rfl rfl rfl rfl (Nat.le_of_ble_eq_true rfl) rfl ?_
        refine G_aload_n X dX6_findsOrder_66 1 rfl ?_
        refine G_iload_n X dX6_findsOrder_67 0 rfl ?_
        refine G_aload_n X dX6_findsOrder_68 1 rfl ?_
        refine G_get X (i0 := 0) (ci := 6) (j := 10) (C := RX6) (ref := RX6) (T := TX6) (N := 18) dX6_findsOrder_69 rfl rfl hiX6_findsOrder_X6 (by decide) flX6_findsOrder_172 rfl rfl ?_
        refine G_icmp_le X (tgt := 79) dX6_findsOrder_72 (by decide) (fun h38 => ?_) (fun h38 => ?_)
        · have h39 := ifp h38 h37
          refine G_aload_n X dX6_findsOrder_79 1 rfl ?_
          refine G_get X (i0 := 0) (ci := 6) (j := 10) (C := RX6) (ref := RX6) (T := TX6) (N := 18) dX6_findsOrder_80 rfl rfl hiX6_findsOrder_X6 (by decide) flX6_findsOrder_172 rfl rfl ?_
          refine G_put X (i0 := 0) (ci := 6) (j := 10) (C := RX6) (ref := RX6) (T := TX6) (N := 18) (ty := .int) (ws' := [(h, .inr (6, [.ref h_s, .ref h_aside, .ref h_before, .ref h_past, .int i_h_known, .ref h_text, .int i_h_length, .ref h_lost, .int v1.1, .int s4.2.1, .int s4.2.2.1, .int i_h_spot, .int i_h_begin, .int i_h_isForm, .int i_h_letter, .ref h_tells, .int i_h_faultReason, .int i_h_faultCause])), (h_s, .inl (cI, 703, .inl v33.2.1)), (h_aside, .inl (cI, 703, .inl v33.2.2)), (h_lost, .inl (cI, 4, .inl v1.2))]) tyX6 dX6_findsOrder_83 rfl rfl hiX6_findsOrder_X6 tyX6_ok nmX6 (by decide) flX6_findsOrder_172 rfl rfl rfl rfl rfl (Nat.le_of_ble_eq_true rfl) rfl ?_
          refine G_iinc X (v := (s4.1 + 1)) (lv' := [(1, .int (s4.1 + 1)), (2, .int v33.1), (0, .ref h)]) dX6_findsOrder_86 2 rfl rfl (by decide) rfl ?_
          refine G_goto X (tgt := 16) dX6_findsOrder_89 (by decide) ?_
          cases h39
          exact G_lv [2, 0] rfl (h9 _ rfl)
        · have h40 := ifn h38 h37
          refine G_iload_n X dX6_findsOrder_75 0 rfl ?_
          refine G_goto X (tgt := 83) dX6_findsOrder_76 (by decide) ?_
          refine G_put X (i0 := 0) (ci := 6) (j := 10) (C := RX6) (ref := RX6) (T := TX6) (N := 18) (ty := .int) (ws' := [(h, .inr (6, [.ref h_s, .ref h_aside, .ref h_before, .ref h_past, .int i_h_known, .ref h_text, .int i_h_length, .ref h_lost, .int v1.1, .int s4.2.1, .int v33.1, .int i_h_spot, .int i_h_begin, .int i_h_isForm, .int i_h_letter, .ref h_tells, .int i_h_faultReason, .int i_h_faultCause])), (h_s, .inl (cI, 703, .inl v33.2.1)), (h_aside, .inl (cI, 703, .inl v33.2.2)), (h_lost, .inl (cI, 4, .inl v1.2))]) tyX6 dX6_findsOrder_83 rfl rfl hiX6_findsOrder_X6 tyX6_ok nmX6 (by decide) flX6_findsOrder_172 rfl rfl rfl rfl rfl (Nat.le_of_ble_eq_true rfl) rfl ?_
          refine G_iinc X (v := (s4.1 + 1)) (lv' := [(1, .int (s4.1 + 1)), (2, .int v33.1), (0, .ref h)]) dX6_findsOrder_86 2 rfl rfl (by decide) rfl ?_
          refine G_goto X (tgt := 16) dX6_findsOrder_89 (by decide) ?_
          cases h40
          exact G_lv [2, 0] rfl (h9 _ rfl)
      · have h41 := ifn h36 h35
        refine G_iload_n X dX6_findsOrder_55 2 rfl ?_
        refine G_goto X (tgt := 63) dX6_findsOrder_56 (by decide) ?_
        refine G_put X (i0 := 0) (ci := 6) (j := 9) (C := RX6) (ref := RX6) (T := TX6) (N := 18) (ty := .int) (ws' := [(h, .inr (6, [.ref h_s, .ref h_aside, .ref h_before, .ref h_past, .int i_h_known, .ref h_text, .int i_h_length, .ref h_lost, .int v1.1, .int s4.1, .int s4.2.2.1, .int i_h_spot, .int i_h_begin, .int i_h_isForm, .int i_h_letter, .ref h_tells, .int i_h_faultReason, .int i_h_faultCause])), (h_s, .inl (cI, 703, .inl v33.2.1)), (h_aside, .inl (cI, 703, .inl v33.2.2)), (h_lost, .inl (cI, 4, .inl v1.2))]) tyX6 dX6_findsOrder_63 rfl rfl hiX6_findsOrder_X6 tyX6_ok nmX6 (by decide) flX6_findsOrder_169 rfl rfl rfl rfl rfl (Nat.le_of_ble_eq_true rfl) rfl ?_
        refine G_aload_n X dX6_findsOrder_66 1 rfl ?_
        refine G_iload_n X dX6_findsOrder_67 0 rfl ?_
        refine G_aload_n X dX6_findsOrder_68 1 rfl ?_
        refine G_get X (i0 := 0) (ci := 6) (j := 10) (C := RX6) (ref := RX6) (T := TX6) (N := 18) dX6_findsOrder_69 rfl rfl hiX6_findsOrder_X6 (by decide) flX6_findsOrder_172 rfl rfl ?_
        refine G_icmp_le X (tgt := 79) dX6_findsOrder_72 (by decide) (fun h42 => ?_) (fun h42 => ?_)
        · have h43 := ifp h42 h41
          refine G_aload_n X dX6_findsOrder_79 1 rfl ?_
          refine G_get X (i0 := 0) (ci := 6) (j := 10) (C := RX6) (ref := RX6) (T := TX6) (N := 18) dX6_findsOrder_80 rfl rfl hiX6_findsOrder_X6 (by decide) flX6_findsOrder_172 rfl rfl ?_
          refine G_put X (i0 := 0) (ci := 6) (j := 10) (C := RX6) (ref := RX6) (T := TX6) (N := 18) (ty := .int) (ws' := [(h, .inr (6, [.ref h_s, .ref h_aside, .ref h_before, .ref h_past, .int i_h_known, .ref h_text, .int i_h_length, .ref h_lost, .int v1.1, .int s4.1, .int s4.2.2.1, .int i_h_spot, .int i_h_begin, .int i_h_isForm, .int i_h_letter, .ref h_tells, .int i_h_faultReason, .int i_h_faultCause])), (h_s, .inl (cI, 703, .inl v33.2.1)), (h_aside, .inl (cI, 703, .inl v33.2.2)), (h_lost, .inl (cI, 4, .inl v1.2))]) tyX6 dX6_findsOrder_83 rfl rfl hiX6_findsOrder_X6 tyX6_ok nmX6 (by decide) flX6_findsOrder_172 rfl rfl rfl rfl rfl (Nat.le_of_ble_eq_true rfl) rfl ?_
          refine G_iinc X (v := (s4.1 + 1)) (lv' := [(1, .int (s4.1 + 1)), (2, .int v33.1), (0, .ref h)]) dX6_findsOrder_86 2 rfl rfl (by decide) rfl ?_
          refine G_goto X (tgt := 16) dX6_findsOrder_89 (by decide) ?_
          cases h43
          exact G_lv [2, 0] rfl (h9 _ rfl)
        · have h44 := ifn h42 h41
          refine G_iload_n X dX6_findsOrder_75 0 rfl ?_
          refine G_goto X (tgt := 83) dX6_findsOrder_76 (by decide) ?_
          refine G_put X (i0 := 0) (ci := 6) (j := 10) (C := RX6) (ref := RX6) (T := TX6) (N := 18) (ty := .int) (ws' := [(h, .inr (6, [.ref h_s, .ref h_aside, .ref h_before, .ref h_past, .int i_h_known, .ref h_text, .int i_h_length, .ref h_lost, .int v1.1, .int s4.1, .int v33.1, .int i_h_spot, .int i_h_begin, .int i_h_isForm, .int i_h_letter, .ref h_tells, .int i_h_faultReason, .int i_h_faultCause])), (h_s, .inl (cI, 703, .inl v33.2.1)), (h_aside, .inl (cI, 703, .inl v33.2.2)), (h_lost, .inl (cI, 4, .inl v1.2))]) tyX6 dX6_findsOrder_83 rfl rfl hiX6_findsOrder_X6 tyX6_ok nmX6 (by decide) flX6_findsOrder_172 rfl rfl rfl rfl rfl (Nat.le_of_ble_eq_true rfl) rfl ?_
          refine G_iinc X (v := (s4.1 + 1)) (lv' := [(1, .int (s4.1 + 1)), (2, .int v33.1), (0, .ref h)]) dX6_findsOrder_86 2 rfl rfl (by decide) rfl ?_
          refine G_goto X (tgt := 16) dX6_findsOrder_89 (by decide) ?_
          cases h44
          exact G_lv [2, 0] rfl (h9 _ rfl)
def rmX6_order : Room := { frames := 10, cells := 0, slots := 0, locals := 229 }
theorem pkX6_order : cK yX6_order wsX6_order cX6_order 2 (some .int) 1 RX6 := ⟨⟨_, rfl⟩, by decide +kernel⟩
theorem hiX6_order_X6 : ∀ w ∈ wsX60, w ∈ wsX6_order := by decide +kernel
theorem flX6_order_163 : Cond.fieldLink RX6 163 "EchoMarginsModel" "losts" "I" ∈ wsX6_order := by decide +kernel
theorem flX6_order_51 : Cond.constant RX6 51 (-1000004) ∈ wsX6_order := by decide +kernel
theorem flX6_order_25 : Cond.fieldLink RX6 25 "EchoMarginsModel" "lost" "[I" ∈ wsX6_order := by decide +kernel
theorem flX6_order_169 : Cond.fieldLink RX6 169 "EchoMarginsModel" "bestOrder" "I" ∈ wsX6_order := by decide +kernel
theorem flX6_order_119 : Cond.constant RX6 119 (-1000003) ∈ wsX6_order := by decide +kernel
theorem flX6_order_114 : Cond.constant RX6 114 (-1000001) ∈ wsX6_order := by decide +kernel
set_option maxHeartbeats 4000000 in
set_option maxRecDepth 100000 in
theorem kkX6_order (l : Launch) (D : va_G) (cI cR : ClassId) (h h_s h_aside h_before h_past h_text h_lost h_tells : Nat) (i_h_known : Int32) (i_h_length : Int32) (i_h_losts : Int32) (i_h_bestOrder : Int32) (i_h_bestMany : Int32) (i_h_spot : Int32) (i_h_begin : Int32) (i_h_isForm : Int32) (i_h_letter : Int32) (i_h_faultReason : Int32) (i_h_faultCause : Int32) (f_h_s : Nat → Int32) (f_h_aside : Nat → Int32) (f_h_lost : Nat → Int32) (x0 : Int32) (z : (Int32 × Int32 × Int32 × Int32 × (Nat → Int32) × (Nat → Int32) × (Nat → Int32))) (hz : MX6_order i_h_losts i_h_bestOrder i_h_bestMany f_h_s f_h_aside f_h_lost x0 = some z) : cI1 l yX6_order wsX6_order rmX6_order D cI cR [.ref h, .int x0] [(h, .inr (6, [.ref h_s, .ref h_aside, .ref h_before, .ref h_past, .int i_h_known, .ref h_text, .int i_h_length, .ref h_lost, .int i_h_losts, .int i_h_bestOrder, .int i_h_bestMany, .int i_h_spot, .int i_h_begin, .int i_h_isForm, .int i_h_letter, .ref h_tells, .int i_h_faultReason, .int i_h_faultCause])), (h_s, .inl (cI, 703, .inl f_h_s)), (h_aside, .inl (cI, 703, .inl f_h_aside)), (h_lost, .inl (cI, 4, .inl f_h_lost))] z.1 [(h, .inr (6, [.ref h_s, .ref h_aside, .ref h_before, .ref h_past, .int i_h_known, .ref h_text, .int i_h_length, .ref h_lost, .int z.2.1, .int z.2.2.1, .int z.2.2.2.1, .int i_h_spot, .int i_h_begin, .int i_h_isForm, .int i_h_letter, .ref h_tells, .int i_h_faultReason, .int i_h_faultCause])), (h_s, .inl (cI, 703, .inl z.2.2.2.2.1)), (h_aside, .inl (cI, 703, .inl z.2.2.2.2.2.1)), (h_lost, .inl (cI, 4, .inl z.2.2.2.2.2.2))] := by
  unfold MX6_order at hz
  refine kI_of (cc := cX6_order) (maxL := 2) (own := RX6) (by decide +kernel) rfl rfl (Nat.le_of_ble_eq_true rfl) (lv0 := [(0, .ref h), (1, .int x0)]) rfl (fun p e s m args below meth c A Q X rt => ?_)
  refine G_iload_n X dX6_order_0 1 rfl ?_
  refine G_if_ge X (tgt := 7) dX6_order_1 (by decide) (fun h1 => ?_) (fun h1 => ?_)
  · have h2 := ifp h1 hz
    refine G_aload_n X dX6_order_7 0 rfl ?_
    obtain ⟨v3, h4, h5⟩ := bnd h2
    refine G1_calli X (As := []) (rest := []) (wr := [(h_aside, .inl (cI, 703, .inl f_h_aside)), (h_lost, .inl (cI, 4, .inl f_h_lost))]) (ws' := [(h, .inr (6, [.ref h_s, .ref h_aside, .ref h_before, .ref h_past, .int i_h_known, .ref h_text, .int i_h_length, .ref h_lost, .int i_h_losts, .int i_h_bestOrder, .int i_h_bestMany, .int i_h_spot, .int i_h_begin, .int i_h_isForm, .int i_h_letter, .ref h_tells, .int i_h_faultReason, .int i_h_faultCause])), (h_s, .inl (cI, 703, .inl f_h_s)), (h_aside, .inl (cI, 703, .inl f_h_aside)), (h_lost, .inl (cI, 4, .inl f_h_lost))]) dX6_order_8 pkX6_lostMany gX6_order_X6_lostMany (kkX6_lostMany l D cI cR h h_s h_aside h_before h_past h_text h_lost h_tells i_h_known i_h_length i_h_losts i_h_bestOrder i_h_bestMany i_h_spot i_h_begin i_h_isForm i_h_letter i_h_faultReason i_h_faultCause f_h_s v3 h4) ⟨rfl, rfl⟩ ⟨Nat.le_of_ble_eq_true rfl, Nat.le_of_ble_eq_true rfl⟩ rfl rfl (Nat.le_of_ble_eq_true rfl) 0 rfl rfl [0, 1] [2, 3] rfl rfl ⟨rfl, rfl, by decide⟩ ⟨Nat.zero_le _, Nat.zero_le _⟩ [2, 3, 0, 1] rfl rfl ?_
    refine G_iconst X (v := 4) dX6_order_11 (by decide) ?_
    refine G_icmp_le X (tgt := 18) dX6_order_12 (by decide) (fun h6 => ?_) (fun h6 => ?_)
    · have h7 := ifp h6 h5
      refine G_aload_n X dX6_order_18 0 rfl ?_
      obtain ⟨v8, h9, h10⟩ := bnd h7
      refine G1_callv X (As := []) (rest := []) (wr := []) (ws' := [(h, .inr (6, [.ref h_s, .ref h_aside, .ref h_before, .ref h_past, .int i_h_known, .ref h_text, .int i_h_length, .ref h_lost, .int v8.1, .int v8.2.1, .int v8.2.2.1, .int i_h_spot, .int i_h_begin, .int i_h_isForm, .int i_h_letter, .ref h_tells, .int i_h_faultReason, .int i_h_faultCause])), (h_s, .inl (cI, 703, .inl v8.2.2.2.1)), (h_aside, .inl (cI, 703, .inl v8.2.2.2.2.1)), (h_lost, .inl (cI, 4, .inl v8.2.2.2.2.2))]) dX6_order_19 pkX6_findsOrder gX6_order_X6_findsOrder (kkX6_findsOrder l D cI cR h h_s h_aside h_before h_past h_text h_lost h_tells i_h_known i_h_length i_h_losts i_h_bestOrder i_h_bestMany i_h_spot i_h_begin i_h_isForm i_h_letter i_h_faultReason i_h_faultCause f_h_s f_h_aside f_h_lost v8 h9) ⟨rfl, rfl⟩ ⟨Nat.le_of_ble_eq_true rfl, Nat.le_of_ble_eq_true rfl⟩ rfl rfl (Nat.le_of_ble_eq_true rfl) 0 rfl rfl [0, 1, 2, 3] [] rfl rfl ⟨rfl, rfl, by decide⟩ ⟨Nat.zero_le _, Nat.zero_le _⟩ [0, 1, 2, 3] rfl rfl ?_
      refine G_iload_n X dX6_order_22 1 rfl ?_
      refine G_aload_n X dX6_order_23 0 rfl ?_
      refine G_get X (i0 := 0) (ci := 6) (j := 8) (C := RX6) (ref := RX6) (T := TX6) (N := 18) dX6_order_24 rfl rfl hiX6_order_X6 (by decide) flX6_order_163 rfl rfl ?_
      refine G_icmp_ge X (tgt := 55) dX6_order_27 (by decide) (fun h11 => ?_) (fun h11 => ?_)
      · have h12 := ifp h11 h10
        refine G_ldc X dX6_order_55 flX6_order_51 ?_
        cases h12
        exact rt _ _ _ _ dX6_order_57 ⟨rfl, rfl⟩
      · have h13 := ifn h11 h10
        refine G_aload_n X dX6_order_30 0 rfl ?_
        refine G_get X (i0 := 0) (ci := 6) (j := 7) (C := RX6) (ref := RX6) (T := TX6) (N := 18) dX6_order_31 rfl rfl hiX6_order_X6 (by decide) flX6_order_25 rfl rfl ?_
        refine G_aload_n X dX6_order_34 0 rfl ?_
        refine G_get X (i0 := 0) (ci := 6) (j := 9) (C := RX6) (ref := RX6) (T := TX6) (N := 18) dX6_order_35 rfl rfl hiX6_order_X6 (by decide) flX6_order_169 rfl rfl ?_
        refine G_iconst X (v := 2) dX6_order_38 (by decide) ?_
        refine G_aload_n X dX6_order_39 0 rfl ?_
        refine G_get X (i0 := 0) (ci := 6) (j := 8) (C := RX6) (ref := RX6) (T := TX6) (N := 18) dX6_order_40 rfl rfl hiX6_order_X6 (by decide) flX6_order_163 rfl rfl ?_
        refine G_iconst X (v := 1) dX6_order_43 (by decide) ?_
        refine G_isub X dX6_order_44 ?_
        refine G_iload_n X dX6_order_45 1 rfl ?_
        refine G_isub X dX6_order_46 ?_
        refine G_imul X dX6_order_47 ?_
        refine G_ishr X dX6_order_48 ?_
        refine G_iconst X (v := 3) dX6_order_49 (by decide) ?_
        refine G_iand X dX6_order_50 ?_
        obtain ⟨v14, h15, h16⟩ := bnd h13
        refine G_iald X (i0 := 3) dX6_order_51 rfl h15 ?_
        refine G_goto X (tgt := 57) dX6_order_52 (by decide) ?_
        cases h16
        exact rt _ _ _ _ dX6_order_57 ⟨rfl, rfl⟩
    · have h17 := ifn h6 h5
      refine G_ldc X dX6_order_15 flX6_order_119 ?_
      cases h17
      exact rt _ _ _ _ dX6_order_17 ⟨rfl, rfl⟩
  · have h18 := ifn h1 hz
    refine G_ldc X dX6_order_4 flX6_order_114 ?_
    cases h18
    exact rt _ _ _ _ dX6_order_6 ⟨rfl, rfl⟩
def rmX6_comes : Room := { frames := 10, cells := 0, slots := 0, locals := 229 }
theorem pkX6_comes : cK yX6_comes wsX6_comes cX6_comes 1 (some .int) 0 RX6 := ⟨⟨_, rfl⟩, by decide +kernel⟩
theorem hiX6_comes_X6 : ∀ w ∈ wsX60, w ∈ wsX6_comes := by decide +kernel
theorem flX6_comes_172 : Cond.fieldLink RX6 172 "EchoMarginsModel" "bestMany" "I" ∈ wsX6_comes := by decide +kernel
theorem flX6_comes_119 : Cond.constant RX6 119 (-1000003) ∈ wsX6_comes := by decide +kernel
set_option maxHeartbeats 4000000 in
set_option maxRecDepth 100000 in
theorem kkX6_comes (l : Launch) (D : va_G) (cI cR : ClassId) (h h_s h_aside h_before h_past h_text h_lost h_tells : Nat) (i_h_known : Int32) (i_h_length : Int32) (i_h_losts : Int32) (i_h_bestOrder : Int32) (i_h_bestMany : Int32) (i_h_spot : Int32) (i_h_begin : Int32) (i_h_isForm : Int32) (i_h_letter : Int32) (i_h_faultReason : Int32) (i_h_faultCause : Int32) (f_h_s : Nat → Int32) (f_h_aside : Nat → Int32) (f_h_lost : Nat → Int32) (z : (Int32 × Int32 × Int32 × Int32 × (Nat → Int32) × (Nat → Int32) × (Nat → Int32))) (hz : MX6_comes i_h_losts i_h_bestOrder i_h_bestMany f_h_s f_h_aside f_h_lost = some z) : cI1 l yX6_comes wsX6_comes rmX6_comes D cI cR [.ref h] [(h, .inr (6, [.ref h_s, .ref h_aside, .ref h_before, .ref h_past, .int i_h_known, .ref h_text, .int i_h_length, .ref h_lost, .int i_h_losts, .int i_h_bestOrder, .int i_h_bestMany, .int i_h_spot, .int i_h_begin, .int i_h_isForm, .int i_h_letter, .ref h_tells, .int i_h_faultReason, .int i_h_faultCause])), (h_s, .inl (cI, 703, .inl f_h_s)), (h_aside, .inl (cI, 703, .inl f_h_aside)), (h_lost, .inl (cI, 4, .inl f_h_lost))] z.1 [(h, .inr (6, [.ref h_s, .ref h_aside, .ref h_before, .ref h_past, .int i_h_known, .ref h_text, .int i_h_length, .ref h_lost, .int z.2.1, .int z.2.2.1, .int z.2.2.2.1, .int i_h_spot, .int i_h_begin, .int i_h_isForm, .int i_h_letter, .ref h_tells, .int i_h_faultReason, .int i_h_faultCause])), (h_s, .inl (cI, 703, .inl z.2.2.2.2.1)), (h_aside, .inl (cI, 703, .inl z.2.2.2.2.2.1)), (h_lost, .inl (cI, 4, .inl z.2.2.2.2.2.2))] := by
  unfold MX6_comes at hz
  refine kI_of (cc := cX6_comes) (maxL := 1) (own := RX6) (by decide +kernel) rfl rfl (Nat.le_of_ble_eq_true rfl) (lv0 := [(0, .ref h)]) rfl (fun p e s m args below meth c A Q X rt => ?_)
  refine G_aload_n X dX6_comes_0 0 rfl ?_
  obtain ⟨v1, h2, h3⟩ := bnd hz
  refine G1_calli X (As := []) (rest := []) (wr := [(h_aside, .inl (cI, 703, .inl f_h_aside)), (h_lost, .inl (cI, 4, .inl f_h_lost))]) (ws' := [(h, .inr (6, [.ref h_s, .ref h_aside, .ref h_before, .ref h_past, .int i_h_known, .ref h_text, .int i_h_length, .ref h_lost, .int i_h_losts, .int i_h_bestOrder, .int i_h_bestMany, .int i_h_spot, .int i_h_begin, .int i_h_isForm, .int i_h_letter, .ref h_tells, .int i_h_faultReason, .int i_h_faultCause])), (h_s, .inl (cI, 703, .inl f_h_s)), (h_aside, .inl (cI, 703, .inl f_h_aside)), (h_lost, .inl (cI, 4, .inl f_h_lost))]) dX6_comes_1 pkX6_lostMany gX6_comes_X6_lostMany (kkX6_lostMany l D cI cR h h_s h_aside h_before h_past h_text h_lost h_tells i_h_known i_h_length i_h_losts i_h_bestOrder i_h_bestMany i_h_spot i_h_begin i_h_isForm i_h_letter i_h_faultReason i_h_faultCause f_h_s v1 h2) ⟨rfl, rfl⟩ ⟨Nat.le_of_ble_eq_true rfl, Nat.le_of_ble_eq_true rfl⟩ rfl rfl (Nat.le_of_ble_eq_true rfl) 0 rfl rfl [0, 1] [2, 3] rfl rfl ⟨rfl, rfl, by decide⟩ ⟨Nat.zero_le _, Nat.zero_le _⟩ [2, 3, 0, 1] rfl rfl ?_
  refine G_iconst X (v := 4) dX6_comes_4 (by decide) ?_
  refine G_icmp_le X (tgt := 11) dX6_comes_5 (by decide) (fun h4 => ?_) (fun h4 => ?_)
  · have h5 := ifp h4 h3
    refine G_aload_n X dX6_comes_11 0 rfl ?_
    obtain ⟨v6, h7, h8⟩ := bnd h5
    refine G1_callv X (As := []) (rest := []) (wr := []) (ws' := [(h, .inr (6, [.ref h_s, .ref h_aside, .ref h_before, .ref h_past, .int i_h_known, .ref h_text, .int i_h_length, .ref h_lost, .int v6.1, .int v6.2.1, .int v6.2.2.1, .int i_h_spot, .int i_h_begin, .int i_h_isForm, .int i_h_letter, .ref h_tells, .int i_h_faultReason, .int i_h_faultCause])), (h_s, .inl (cI, 703, .inl v6.2.2.2.1)), (h_aside, .inl (cI, 703, .inl v6.2.2.2.2.1)), (h_lost, .inl (cI, 4, .inl v6.2.2.2.2.2))]) dX6_comes_12 pkX6_findsOrder gX6_comes_X6_findsOrder (kkX6_findsOrder l D cI cR h h_s h_aside h_before h_past h_text h_lost h_tells i_h_known i_h_length i_h_losts i_h_bestOrder i_h_bestMany i_h_spot i_h_begin i_h_isForm i_h_letter i_h_faultReason i_h_faultCause f_h_s f_h_aside f_h_lost v6 h7) ⟨rfl, rfl⟩ ⟨Nat.le_of_ble_eq_true rfl, Nat.le_of_ble_eq_true rfl⟩ rfl rfl (Nat.le_of_ble_eq_true rfl) 0 rfl rfl [0, 1, 2, 3] [] rfl rfl ⟨rfl, rfl, by decide⟩ ⟨Nat.zero_le _, Nat.zero_le _⟩ [0, 1, 2, 3] rfl rfl ?_
    refine G_aload_n X dX6_comes_15 0 rfl ?_
    refine G_get X (i0 := 0) (ci := 6) (j := 10) (C := RX6) (ref := RX6) (T := TX6) (N := 18) dX6_comes_16 rfl rfl hiX6_comes_X6 (by decide) flX6_comes_172 rfl rfl ?_
    cases h8
    exact rt _ _ _ _ dX6_comes_19 ⟨rfl, rfl⟩
  · have h9 := ifn h4 h3
    refine G_ldc X dX6_comes_8 flX6_comes_119 ?_
    cases h9
    exact rt _ _ _ _ dX6_comes_10 ⟨rfl, rfl⟩
def rmX6_isSafe : Room := { frames := 7, cells := 0, slots := 0, locals := 160 }
theorem pkX6_isSafe : cK yX6_isSafe wsX6_isSafe cX6_isSafe 2 (some .boolean) 1 RX6 := ⟨⟨_, rfl⟩, by decide +kernel⟩
set_option maxHeartbeats 4000000 in
set_option maxRecDepth 100000 in
theorem kkX6_isSafe (l : Launch) (D : va_G) (cI cR : ClassId) (h h_s h_aside h_before h_past h_text h_lost h_tells : Nat) (i_h_known : Int32) (i_h_length : Int32) (i_h_losts : Int32) (i_h_bestOrder : Int32) (i_h_bestMany : Int32) (i_h_spot : Int32) (i_h_begin : Int32) (i_h_isForm : Int32) (i_h_letter : Int32) (i_h_faultReason : Int32) (i_h_faultCause : Int32) (f_h_s : Nat → Int32) (x0 : Int32) (z : Int32) (hz : MX6_isSafe f_h_s x0 = some z) : cI1 l yX6_isSafe wsX6_isSafe rmX6_isSafe D cI cR [.ref h, .int x0] [(h, .inr (6, [.ref h_s, .ref h_aside, .ref h_before, .ref h_past, .int i_h_known, .ref h_text, .int i_h_length, .ref h_lost, .int i_h_losts, .int i_h_bestOrder, .int i_h_bestMany, .int i_h_spot, .int i_h_begin, .int i_h_isForm, .int i_h_letter, .ref h_tells, .int i_h_faultReason, .int i_h_faultCause])), (h_s, .inl (cI, 703, .inl f_h_s))] z [(h, .inr (6, [.ref h_s, .ref h_aside, .ref h_before, .ref h_past, .int i_h_known, .ref h_text, .int i_h_length, .ref h_lost, .int i_h_losts, .int i_h_bestOrder, .int i_h_bestMany, .int i_h_spot, .int i_h_begin, .int i_h_isForm, .int i_h_letter, .ref h_tells, .int i_h_faultReason, .int i_h_faultCause])), (h_s, .inl (cI, 703, .inl f_h_s))] := by
  unfold MX6_isSafe at hz
  refine kZ_of (cc := cX6_isSafe) (maxL := 2) (own := RX6) (by decide +kernel) rfl rfl (Nat.le_of_ble_eq_true rfl) (lv0 := [(0, .ref h), (1, .int x0)]) rfl (fun p e s m args below meth c A Q X rt => ?_)
  refine G_aload_n X dX6_isSafe_0 0 rfl ?_
  refine G_iload_n X dX6_isSafe_1 1 rfl ?_
  obtain ⟨v1, h2, h3⟩ := bnd hz
  refine G1_calli X (As := [.int x0]) (rest := []) (wr := []) (ws' := [(h, .inr (6, [.ref h_s, .ref h_aside, .ref h_before, .ref h_past, .int i_h_known, .ref h_text, .int i_h_length, .ref h_lost, .int i_h_losts, .int i_h_bestOrder, .int i_h_bestMany, .int i_h_spot, .int i_h_begin, .int i_h_isForm, .int i_h_letter, .ref h_tells, .int i_h_faultReason, .int i_h_faultCause])), (h_s, .inl (cI, 703, .inl f_h_s))]) dX6_isSafe_2 pkX6_lives gX6_isSafe_X6_lives (kkX6_lives l D cI cR h h_s h_aside h_before h_past h_text h_lost h_tells i_h_known i_h_length i_h_losts i_h_bestOrder i_h_bestMany i_h_spot i_h_begin i_h_isForm i_h_letter i_h_faultReason i_h_faultCause f_h_s x0 v1 h2) ⟨rfl, rfl⟩ ⟨Nat.le_of_ble_eq_true rfl, Nat.le_of_ble_eq_true rfl⟩ rfl rfl (Nat.le_of_ble_eq_true rfl) 0 rfl rfl [0, 1] [] rfl rfl ⟨rfl, rfl, by decide⟩ ⟨Nat.zero_le _, Nat.zero_le _⟩ [0, 1] rfl rfl ?_
  refine G_if_eq X (tgt := 28) dX6_isSafe_5 (by decide) (fun h4 => ?_) (fun h4 => ?_)
  · have h5 := ifp h4 h3
    refine G_iconst X (v := 0) dX6_isSafe_28 (by decide) ?_
    cases h5
    exact rt _ _ _ _ dX6_isSafe_29 rfl ⟨rfl, rfl⟩
  · have h6 := ifn h4 h3
    refine G_aload_n X dX6_isSafe_8 0 rfl ?_
    refine G_iload_n X dX6_isSafe_9 1 rfl ?_
    obtain ⟨v7, h8, h9⟩ := bnd h6
    refine G1_calli X (As := [.int x0]) (rest := []) (wr := []) (ws' := [(h, .inr (6, [.ref h_s, .ref h_aside, .ref h_before, .ref h_past, .int i_h_known, .ref h_text, .int i_h_length, .ref h_lost, .int i_h_losts, .int i_h_bestOrder, .int i_h_bestMany, .int i_h_spot, .int i_h_begin, .int i_h_isForm, .int i_h_letter, .ref h_tells, .int i_h_faultReason, .int i_h_faultCause])), (h_s, .inl (cI, 703, .inl f_h_s))]) dX6_isSafe_10 pkX6_back gX6_isSafe_X6_back (kkX6_back l D cI cR h h_s h_aside h_before h_past h_text h_lost h_tells i_h_known i_h_length i_h_losts i_h_bestOrder i_h_bestMany i_h_spot i_h_begin i_h_isForm i_h_letter i_h_faultReason i_h_faultCause f_h_s x0 v7 h8) ⟨rfl, rfl⟩ ⟨Nat.le_of_ble_eq_true rfl, Nat.le_of_ble_eq_true rfl⟩ rfl rfl (Nat.le_of_ble_eq_true rfl) 0 rfl rfl [0, 1] [] rfl rfl ⟨rfl, rfl, by decide⟩ ⟨Nat.zero_le _, Nat.zero_le _⟩ [0, 1] rfl rfl ?_
    refine G_bipush X (v := 8) dX6_isSafe_13 (by decide) ?_
    refine G_aload_n X dX6_isSafe_15 0 rfl ?_
    refine G_iload_n X dX6_isSafe_16 1 rfl ?_
    obtain ⟨v10, h11, h12⟩ := bnd h9
    refine G1_calli X (As := [.int x0]) (rest := [.int 8, .int v7]) (wr := []) (ws' := [(h, .inr (6, [.ref h_s, .ref h_aside, .ref h_before, .ref h_past, .int i_h_known, .ref h_text, .int i_h_length, .ref h_lost, .int i_h_losts, .int i_h_bestOrder, .int i_h_bestMany, .int i_h_spot, .int i_h_begin, .int i_h_isForm, .int i_h_letter, .ref h_tells, .int i_h_faultReason, .int i_h_faultCause])), (h_s, .inl (cI, 703, .inl f_h_s))]) dX6_isSafe_17 pkX6_unknown gX6_isSafe_X6_unknown (kkX6_unknown l D cI cR h h_s h_aside h_before h_past h_text h_lost h_tells i_h_known i_h_length i_h_losts i_h_bestOrder i_h_bestMany i_h_spot i_h_begin i_h_isForm i_h_letter i_h_faultReason i_h_faultCause f_h_s x0 v10 h11) ⟨rfl, rfl⟩ ⟨Nat.le_of_ble_eq_true rfl, Nat.le_of_ble_eq_true rfl⟩ rfl rfl (Nat.le_of_ble_eq_true rfl) 0 rfl rfl [0, 1] [] rfl rfl ⟨rfl, rfl, by decide⟩ ⟨Nat.zero_le _, Nat.zero_le _⟩ [0, 1] rfl rfl ?_
    refine G_isub X dX6_isSafe_20 ?_
    refine G_icmp_ne X (tgt := 28) dX6_isSafe_21 (by decide) (fun h13 => ?_) (fun h13 => ?_)
    · have h14 := ifp h13 h12
      refine G_iconst X (v := 1) dX6_isSafe_24 (by decide) ?_
      refine G_goto X (tgt := 29) dX6_isSafe_25 (by decide) ?_
      cases h14
      exact rt _ _ _ _ dX6_isSafe_29 rfl ⟨rfl, rfl⟩
    · have h15 := ifn h13 h12
      refine G_iconst X (v := 0) dX6_isSafe_28 (by decide) ?_
      cases h15
      exact rt _ _ _ _ dX6_isSafe_29 rfl ⟨rfl, rfl⟩
def rmX6_safeFor : Room := { frames := 8, cells := 0, slots := 0, locals := 181 }
theorem pkX6_safeFor : cK yX6_safeFor wsX6_safeFor cX6_safeFor 5 (some .int) 0 RX6 := ⟨⟨_, rfl⟩, by decide +kernel⟩
theorem hiX6_safeFor_X6 : ∀ w ∈ wsX60, w ∈ wsX6_safeFor := by decide +kernel
theorem flX6_safeFor_51 : Cond.constant RX6 51 (-1000004) ∈ wsX6_safeFor := by decide +kernel
theorem flX6_safeFor_7 : Cond.fieldLink RX6 7 "EchoMarginsModel" "s" "[I" ∈ wsX6_safeFor := by decide +kernel
set_option maxHeartbeats 4000000 in
set_option maxRecDepth 100000 in
theorem kkX6_safeFor (l : Launch) (D : va_G) (cI cR : ClassId) (h h_s h_aside h_before h_past h_text h_lost h_tells : Nat) (i_h_known : Int32) (i_h_length : Int32) (i_h_losts : Int32) (i_h_bestOrder : Int32) (i_h_bestMany : Int32) (i_h_spot : Int32) (i_h_begin : Int32) (i_h_isForm : Int32) (i_h_letter : Int32) (i_h_faultReason : Int32) (i_h_faultCause : Int32) (f_h_s : Nat → Int32) (z : Int32) (hz : MX6_safeFor f_h_s = some z) : cI1 l yX6_safeFor wsX6_safeFor rmX6_safeFor D cI cR [.ref h] [(h, .inr (6, [.ref h_s, .ref h_aside, .ref h_before, .ref h_past, .int i_h_known, .ref h_text, .int i_h_length, .ref h_lost, .int i_h_losts, .int i_h_bestOrder, .int i_h_bestMany, .int i_h_spot, .int i_h_begin, .int i_h_isForm, .int i_h_letter, .ref h_tells, .int i_h_faultReason, .int i_h_faultCause])), (h_s, .inl (cI, 703, .inl f_h_s))] z [(h, .inr (6, [.ref h_s, .ref h_aside, .ref h_before, .ref h_past, .int i_h_known, .ref h_text, .int i_h_length, .ref h_lost, .int i_h_losts, .int i_h_bestOrder, .int i_h_bestMany, .int i_h_spot, .int i_h_begin, .int i_h_isForm, .int i_h_letter, .ref h_tells, .int i_h_faultReason, .int i_h_faultCause])), (h_s, .inl (cI, 703, .inl f_h_s))] := by
  unfold MX6_safeFor at hz
  refine kI_of (cc := cX6_safeFor) (maxL := 5) (own := RX6) (by decide +kernel) rfl rfl (Nat.le_of_ble_eq_true rfl) (lv0 := [(0, .ref h)]) rfl (fun p e s m args below meth c A Q X rt => ?_)
  refine G_ldc X dX6_safeFor_0 flX6_safeFor_51 ?_
  refine G_istore_n X (lv' := [(1, .int (-1000004)), (0, .ref h)]) dX6_safeFor_2 (by decide) rfl ?_
  refine G_iconst X (v := 0) dX6_safeFor_3 (by decide) ?_
  refine G_istore_n X (lv' := [(2, .int 0), (1, .int (-1000004)), (0, .ref h)]) dX6_safeFor_4 (by decide) rfl ?_
  obtain ⟨j2, h3, h4⟩ := bnd hz
  have J9 : G p l e rmX6_safeFor s m args below meth c D A 5 Q 0 0 88 [(1, .int j2)] [] [(h, .inr (6, [.ref h_s, .ref h_aside, .ref h_before, .ref h_past, .int i_h_known, .ref h_text, .int i_h_length, .ref h_lost, .int i_h_losts, .int i_h_bestOrder, .int i_h_bestMany, .int i_h_spot, .int i_h_begin, .int i_h_isForm, .int i_h_letter, .ref h_tells, .int i_h_faultReason, .int i_h_faultCause])), (h_s, .inl (cI, 703, .inl f_h_s))] := by
    refine G_iload_n X dX6_safeFor_88 0 rfl ?_
    cases h4
    exact rt _ _ _ _ dX6_safeFor_89 ⟨rfl, rfl⟩
  refine G_lv [2, 1, 0] rfl ?_
  refine itr_ind (P := fun s1 : (Int32 × Int32) => G p l e rmX6_safeFor s m args below meth c D A 5 Q 0 0 5 [(0, .ref h), (1, .int s1.1), (2, .int s1.2)] [] [(h, .inr (6, [.ref h_s, .ref h_aside, .ref h_before, .ref h_past, .int i_h_known, .ref h_text, .int i_h_length, .ref h_lost, .int i_h_losts, .int i_h_bestOrder, .int i_h_bestMany, .int i_h_spot, .int i_h_begin, .int i_h_isForm, .int i_h_letter, .ref h_tells, .int i_h_faultReason, .int i_h_faultCause])), (h_s, .inl (cI, 703, .inl f_h_s))]) (fun s1 o8 h5 h6 h7 => ?_) FU _ h3
  unfold SX6_safeFor_5 at h5
  refine G_iload_n X dX6_safeFor_5 2 rfl ?_
  refine G_aload_n X dX6_safeFor_6 0 rfl ?_
  refine G_get X (i0 := 0) (ci := 6) (j := 0) (C := RX6) (ref := RX6) (T := TX6) (N := 18) dX6_safeFor_7 rfl rfl hiX6_safeFor_X6 (by decide) flX6_safeFor_7 rfl rfl ?_
  refine G_iconst X (v := 0) dX6_safeFor_10 (by decide) ?_
  obtain ⟨v11, h12, h13⟩ := bnd h5
  refine G_iald X (i0 := 1) dX6_safeFor_11 rfl h12 ?_
  refine G_icmp_ge X (tgt := 88) dX6_safeFor_12 (by decide) (fun h14 => ?_) (fun h14 => ?_)
  · have h15 := ifp h14 h13
    cases h15
    have h16 := h7 _ rfl
    subst h16
    exact G_lv [1] rfl (J9)
  · have h17 := ifn h14 h13
    refine G_iconst X (v := 0) dX6_safeFor_15 (by decide) ?_
    refine G_istore_n X (lv' := [(3, .int 0), (0, .ref h), (1, .int s1.1), (2, .int s1.2)]) dX6_safeFor_16 (by decide) rfl ?_
    obtain ⟨j19, h20, h21⟩ := bnd h17
    have J26 : G p l e rmX6_safeFor s m args below meth c D A 5 Q 0 0 82 [(0, .ref h), (1, .int j19), (2, .int s1.2)] [] [(h, .inr (6, [.ref h_s, .ref h_aside, .ref h_before, .ref h_past, .int i_h_known, .ref h_text, .int i_h_length, .ref h_lost, .int i_h_losts, .int i_h_bestOrder, .int i_h_bestMany, .int i_h_spot, .int i_h_begin, .int i_h_isForm, .int i_h_letter, .ref h_tells, .int i_h_faultReason, .int i_h_faultCause])), (h_s, .inl (cI, 703, .inl f_h_s))] := by
      refine G_iinc X (v := (s1.2 + 1)) (lv' := [(2, .int (s1.2 + 1)), (0, .ref h), (1, .int j19)]) dX6_safeFor_82 2 rfl rfl (by decide) rfl ?_
      refine G_goto X (tgt := 5) dX6_safeFor_85 (by decide) ?_
      cases h21
      exact G_lv [1, 2, 0] rfl (h6 _ rfl)
    refine G_lv [1, 2, 3, 0] rfl ?_
    refine itr_ind (P := fun s18 : (Int32 × Int32) => G p l e rmX6_safeFor s m args below meth c D A 5 Q 0 0 17 [(0, .ref h), (1, .int s18.1), (2, .int s1.2), (3, .int s18.2)] [] [(h, .inr (6, [.ref h_s, .ref h_aside, .ref h_before, .ref h_past, .int i_h_known, .ref h_text, .int i_h_length, .ref h_lost, .int i_h_losts, .int i_h_bestOrder, .int i_h_bestMany, .int i_h_spot, .int i_h_begin, .int i_h_isForm, .int i_h_letter, .ref h_tells, .int i_h_faultReason, .int i_h_faultCause])), (h_s, .inl (cI, 703, .inl f_h_s))]) (fun s18 o25 h22 h23 h24 => ?_) FU _ h20
    unfold SX6_safeFor_17 at h22
    refine G_iload_n X dX6_safeFor_17 3 rfl ?_
    refine G_bipush X (v := 8) dX6_safeFor_18 (by decide) ?_
    refine G_icmp_ge X (tgt := 82) dX6_safeFor_20 (by decide) (fun h28 => ?_) (fun h28 => ?_)
    · have h29 := ifp h28 h22
      cases h29
      have h30 := h24 _ rfl
      subst h30
      exact G_lv [0, 1, 2] rfl (J26)
    · have h31 := ifn h28 h22
      refine G_aload_n X dX6_safeFor_23 0 rfl ?_
      refine G_iload_n X dX6_safeFor_24 2 rfl ?_
      obtain ⟨v32, h33, h34⟩ := bnd h31
      refine G1_calli X (As := [.int s1.2]) (rest := []) (wr := []) (ws' := [(h, .inr (6, [.ref h_s, .ref h_aside, .ref h_before, .ref h_past, .int i_h_known, .ref h_text, .int i_h_length, .ref h_lost, .int i_h_losts, .int i_h_bestOrder, .int i_h_bestMany, .int i_h_spot, .int i_h_begin, .int i_h_isForm, .int i_h_letter, .ref h_tells, .int i_h_faultReason, .int i_h_faultCause])), (h_s, .inl (cI, 703, .inl f_h_s))]) dX6_safeFor_25 pkX6_isSafe gX6_safeFor_X6_isSafe (kkX6_isSafe l D cI cR h h_s h_aside h_before h_past h_text h_lost h_tells i_h_known i_h_length i_h_losts i_h_bestOrder i_h_bestMany i_h_spot i_h_begin i_h_isForm i_h_letter i_h_faultReason i_h_faultCause f_h_s s1.2 v32 h33) ⟨rfl, rfl⟩ ⟨Nat.le_of_ble_eq_true rfl, Nat.le_of_ble_eq_true rfl⟩ rfl rfl (Nat.le_of_ble_eq_true rfl) 0 rfl rfl [0, 1] [] rfl rfl ⟨rfl, rfl, by decide⟩ ⟨Nat.zero_le _, Nat.zero_le _⟩ [0, 1] rfl rfl ?_
      refine G_if_eq X (tgt := 76) dX6_safeFor_28 (by decide) (fun h35 => ?_) (fun h35 => ?_)
      · have h36 := ifp h35 h34
        refine G_iinc X (v := (s18.2 + 1)) (lv' := [(3, .int (s18.2 + 1)), (0, .ref h), (1, .int s18.1), (2, .int s1.2)]) dX6_safeFor_76 3 rfl rfl (by decide) rfl ?_
        refine G_goto X (tgt := 17) dX6_safeFor_79 (by decide) ?_
        cases h36
        exact G_lv [1, 2, 3, 0] rfl (h23 _ rfl)
      · have h37 := ifn h35 h34
        refine G_aload_n X dX6_safeFor_31 0 rfl ?_
        refine G_iload_n X dX6_safeFor_32 2 rfl ?_
        refine G_iconst X (v := 5) dX6_safeFor_33 (by decide) ?_
        refine G_iload_n X dX6_safeFor_34 3 rfl ?_
        refine G_iadd X dX6_safeFor_35 ?_
        obtain ⟨v38, h39, h40⟩ := bnd h37
        refine G1_calli X (As := [.int s1.2, .int (5 + s18.2)]) (rest := []) (wr := []) (ws' := [(h, .inr (6, [.ref h_s, .ref h_aside, .ref h_before, .ref h_past, .int i_h_known, .ref h_text, .int i_h_length, .ref h_lost, .int i_h_losts, .int i_h_bestOrder, .int i_h_bestMany, .int i_h_spot, .int i_h_begin, .int i_h_isForm, .int i_h_letter, .ref h_tells, .int i_h_faultReason, .int i_h_faultCause])), (h_s, .inl (cI, 703, .inl f_h_s))]) dX6_safeFor_36 pkX6_of gX6_safeFor_X6_of (kkX6_of l D cI cR h h_s h_aside h_before h_past h_text h_lost h_tells i_h_known i_h_length i_h_losts i_h_bestOrder i_h_bestMany i_h_spot i_h_begin i_h_isForm i_h_letter i_h_faultReason i_h_faultCause f_h_s s1.2 (5 + s18.2) v38 h39) ⟨rfl, rfl⟩ ⟨Nat.le_of_ble_eq_true rfl, Nat.le_of_ble_eq_true rfl⟩ rfl rfl (Nat.le_of_ble_eq_true rfl) 0 rfl rfl [0, 1] [] rfl rfl ⟨rfl, rfl, by decide⟩ ⟨Nat.zero_le _, Nat.zero_le _⟩ [0, 1] rfl rfl ?_
        refine G_if_le X (tgt := 76) dX6_safeFor_39 (by decide) (fun h41 => ?_) (fun h41 => ?_)
        · have h42 := ifp h41 h40
          refine G_iinc X (v := (s18.2 + 1)) (lv' := [(3, .int (s18.2 + 1)), (0, .ref h), (1, .int s18.1), (2, .int s1.2)]) dX6_safeFor_76 3 rfl rfl (by decide) rfl ?_
          refine G_goto X (tgt := 17) dX6_safeFor_79 (by decide) ?_
          cases h42
          exact G_lv [1, 2, 3, 0] rfl (h23 _ rfl)
        · have h43 := ifn h41 h40
          refine G_aload_n X dX6_safeFor_42 0 rfl ?_
          refine G_get X (i0 := 0) (ci := 6) (j := 0) (C := RX6) (ref := RX6) (T := TX6) (N := 18) dX6_safeFor_43 rfl rfl hiX6_safeFor_X6 (by decide) flX6_safeFor_7 rfl rfl ?_
          refine G_iconst X (v := 3) dX6_safeFor_46 (by decide) ?_
          obtain ⟨v44, h45, h46⟩ := bnd h43
          refine G_iald X (i0 := 1) dX6_safeFor_47 rfl h45 ?_
          refine G_aload_n X dX6_safeFor_48 0 rfl ?_
          refine G_iload_n X dX6_safeFor_49 2 rfl ?_
          refine G_iload_n X dX6_safeFor_50 3 rfl ?_
          obtain ⟨v47, h48, h49⟩ := bnd h46
          refine G1_calli X (As := [.int s1.2, .int s18.2]) (rest := [.int v44]) (wr := []) (ws' := [(h, .inr (6, [.ref h_s, .ref h_aside, .ref h_before, .ref h_past, .int i_h_known, .ref h_text, .int i_h_length, .ref h_lost, .int i_h_losts, .int i_h_bestOrder, .int i_h_bestMany, .int i_h_spot, .int i_h_begin, .int i_h_isForm, .int i_h_letter, .ref h_tells, .int i_h_faultReason, .int i_h_faultCause])), (h_s, .inl (cI, 703, .inl f_h_s))]) dX6_safeFor_51 pkX6_heardAge gX6_safeFor_X6_heardAge (kkX6_heardAge l D cI cR h h_s h_aside h_before h_past h_text h_lost h_tells i_h_known i_h_length i_h_losts i_h_bestOrder i_h_bestMany i_h_spot i_h_begin i_h_isForm i_h_letter i_h_faultReason i_h_faultCause f_h_s s1.2 s18.2 v47 h48) ⟨rfl, rfl⟩ ⟨Nat.le_of_ble_eq_true rfl, Nat.le_of_ble_eq_true rfl⟩ rfl rfl (Nat.le_of_ble_eq_true rfl) 0 rfl rfl [0, 1] [] rfl rfl ⟨rfl, rfl, by decide⟩ ⟨Nat.zero_le _, Nat.zero_le _⟩ [0, 1] rfl rfl ?_
          refine G_isub X dX6_safeFor_54 ?_
          refine G_iconst X (v := 1) dX6_safeFor_55 (by decide) ?_
          refine G_iadd X dX6_safeFor_56 ?_
          refine G_istore X (lv' := [(4, .int ((v44 - v47) + 1)), (0, .ref h), (1, .int s18.1), (2, .int s1.2), (3, .int s18.2)]) dX6_safeFor_57 (by decide) rfl ?_
          refine G_iload_n X dX6_safeFor_59 2 rfl ?_
          refine G_if_lt X (tgt := 69) dX6_safeFor_60 (by decide) (fun h50 => ?_) (fun h50 => ?_)
          · have h51 := ifp h50 h49
            refine G_iload X dX6_safeFor_69 0 rfl ?_
            refine G_goto X (tgt := 75) dX6_safeFor_71 (by decide) ?_
            refine G_istore_n X (lv' := [(1, .int ((v44 - v47) + 1)), (4, .int ((v44 - v47) + 1)), (0, .ref h), (2, .int s1.2), (3, .int s18.2)]) dX6_safeFor_75 (by decide) rfl ?_
            refine G_iinc X (v := (s18.2 + 1)) (lv' := [(3, .int (s18.2 + 1)), (1, .int ((v44 - v47) + 1)), (4, .int ((v44 - v47) + 1)), (0, .ref h), (2, .int s1.2)]) dX6_safeFor_76 4 rfl rfl (by decide) rfl ?_
            refine G_goto X (tgt := 17) dX6_safeFor_79 (by decide) ?_
            cases h51
            exact G_lv [3, 1, 4, 0] rfl (h23 _ rfl)
          · have h52 := ifn h50 h49
            refine G_iload X dX6_safeFor_63 0 rfl ?_
            refine G_iload_n X dX6_safeFor_65 2 rfl ?_
            refine G_icmp_ge X (tgt := 74) dX6_safeFor_66 (by decide) (fun h53 => ?_) (fun h53 => ?_)
            · have h54 := ifp h53 h52
              refine G_iload_n X dX6_safeFor_74 2 rfl ?_
              refine G_istore_n X (lv' := [(1, .int s18.1), (4, .int ((v44 - v47) + 1)), (0, .ref h), (2, .int s1.2), (3, .int s18.2)]) dX6_safeFor_75 (by decide) rfl ?_
              refine G_iinc X (v := (s18.2 + 1)) (lv' := [(3, .int (s18.2 + 1)), (1, .int s18.1), (4, .int ((v44 - v47) + 1)), (0, .ref h), (2, .int s1.2)]) dX6_safeFor_76 4 rfl rfl (by decide) rfl ?_
              refine G_goto X (tgt := 17) dX6_safeFor_79 (by decide) ?_
              cases h54
              exact G_lv [3, 1, 4, 0] rfl (h23 _ rfl)
            · have h55 := ifn h53 h52
              refine G_iload X dX6_safeFor_69 0 rfl ?_
              refine G_goto X (tgt := 75) dX6_safeFor_71 (by decide) ?_
              refine G_istore_n X (lv' := [(1, .int ((v44 - v47) + 1)), (4, .int ((v44 - v47) + 1)), (0, .ref h), (2, .int s1.2), (3, .int s18.2)]) dX6_safeFor_75 (by decide) rfl ?_
              refine G_iinc X (v := (s18.2 + 1)) (lv' := [(3, .int (s18.2 + 1)), (1, .int ((v44 - v47) + 1)), (4, .int ((v44 - v47) + 1)), (0, .ref h), (2, .int s1.2)]) dX6_safeFor_76 4 rfl rfl (by decide) rfl ?_
              refine G_goto X (tgt := 17) dX6_safeFor_79 (by decide) ?_
              cases h55
              exact G_lv [3, 1, 4, 0] rfl (h23 _ rfl)
def rmX6_echoes : Room := { frames := 1, cells := 0, slots := 0, locals := 22 }
theorem pkX6_echoes : cK yX6_echoes wsX6_echoes cX6_echoes 3 (some .int) 0 RX6 := ⟨⟨_, rfl⟩, by decide +kernel⟩
theorem hiX6_echoes_X6 : ∀ w ∈ wsX60, w ∈ wsX6_echoes := by decide +kernel
theorem flX6_echoes_7 : Cond.fieldLink RX6 7 "EchoMarginsModel" "s" "[I" ∈ wsX6_echoes := by decide +kernel
set_option maxHeartbeats 4000000 in
set_option maxRecDepth 100000 in
theorem kkX6_echoes (l : Launch) (D : va_G) (cI cR : ClassId) (h h_s h_aside h_before h_past h_text h_lost h_tells : Nat) (i_h_known : Int32) (i_h_length : Int32) (i_h_losts : Int32) (i_h_bestOrder : Int32) (i_h_bestMany : Int32) (i_h_spot : Int32) (i_h_begin : Int32) (i_h_isForm : Int32) (i_h_letter : Int32) (i_h_faultReason : Int32) (i_h_faultCause : Int32) (f_h_s : Nat → Int32) (z : Int32) (hz : MX6_echoes f_h_s = some z) : cI1 l yX6_echoes wsX6_echoes rmX6_echoes D cI cR [.ref h] [(h, .inr (6, [.ref h_s, .ref h_aside, .ref h_before, .ref h_past, .int i_h_known, .ref h_text, .int i_h_length, .ref h_lost, .int i_h_losts, .int i_h_bestOrder, .int i_h_bestMany, .int i_h_spot, .int i_h_begin, .int i_h_isForm, .int i_h_letter, .ref h_tells, .int i_h_faultReason, .int i_h_faultCause])), (h_s, .inl (cI, 703, .inl f_h_s))] z [(h, .inr (6, [.ref h_s, .ref h_aside, .ref h_before, .ref h_past, .int i_h_known, .ref h_text, .int i_h_length, .ref h_lost, .int i_h_losts, .int i_h_bestOrder, .int i_h_bestMany, .int i_h_spot, .int i_h_begin, .int i_h_isForm, .int i_h_letter, .ref h_tells, .int i_h_faultReason, .int i_h_faultCause])), (h_s, .inl (cI, 703, .inl f_h_s))] := by
  unfold MX6_echoes at hz
  refine kI_of (cc := cX6_echoes) (maxL := 3) (own := RX6) (by decide +kernel) rfl rfl (Nat.le_of_ble_eq_true rfl) (lv0 := [(0, .ref h)]) rfl (fun p e s m args below meth c A Q X rt => ?_)
  refine G_iconst X (v := 0) dX6_echoes_0 (by decide) ?_
  refine G_istore_n X (lv' := [(1, .int 0), (0, .ref h)]) dX6_echoes_1 (by decide) rfl ?_
  refine G_iconst X (v := 0) dX6_echoes_2 (by decide) ?_
  refine G_istore_n X (lv' := [(2, .int 0), (1, .int 0), (0, .ref h)]) dX6_echoes_3 (by decide) rfl ?_
  obtain ⟨j2, h3, h4⟩ := bnd hz
  have J9 : G p l e rmX6_echoes s m args below meth c D A 3 Q 0 0 29 [(1, .int j2)] [] [(h, .inr (6, [.ref h_s, .ref h_aside, .ref h_before, .ref h_past, .int i_h_known, .ref h_text, .int i_h_length, .ref h_lost, .int i_h_losts, .int i_h_bestOrder, .int i_h_bestMany, .int i_h_spot, .int i_h_begin, .int i_h_isForm, .int i_h_letter, .ref h_tells, .int i_h_faultReason, .int i_h_faultCause])), (h_s, .inl (cI, 703, .inl f_h_s))] := by
    refine G_iload_n X dX6_echoes_29 0 rfl ?_
    cases h4
    exact rt _ _ _ _ dX6_echoes_30 ⟨rfl, rfl⟩
  refine G_lv [2, 1, 0] rfl ?_
  refine itr_ind (P := fun s1 : (Int32 × Int32) => G p l e rmX6_echoes s m args below meth c D A 3 Q 0 0 4 [(0, .ref h), (1, .int s1.1), (2, .int s1.2)] [] [(h, .inr (6, [.ref h_s, .ref h_aside, .ref h_before, .ref h_past, .int i_h_known, .ref h_text, .int i_h_length, .ref h_lost, .int i_h_losts, .int i_h_bestOrder, .int i_h_bestMany, .int i_h_spot, .int i_h_begin, .int i_h_isForm, .int i_h_letter, .ref h_tells, .int i_h_faultReason, .int i_h_faultCause])), (h_s, .inl (cI, 703, .inl f_h_s))]) (fun s1 o8 h5 h6 h7 => ?_) FU _ h3
  unfold SX6_echoes_4 at h5
  refine G_iload_n X dX6_echoes_4 2 rfl ?_
  refine G_aload_n X dX6_echoes_5 0 rfl ?_
  refine G_get X (i0 := 0) (ci := 6) (j := 0) (C := RX6) (ref := RX6) (T := TX6) (N := 18) dX6_echoes_6 rfl rfl hiX6_echoes_X6 (by decide) flX6_echoes_7 rfl rfl ?_
  refine G_iconst X (v := 0) dX6_echoes_9 (by decide) ?_
  obtain ⟨v11, h12, h13⟩ := bnd h5
  refine G_iald X (i0 := 1) dX6_echoes_10 rfl h12 ?_
  refine G_icmp_ge X (tgt := 29) dX6_echoes_11 (by decide) (fun h14 => ?_) (fun h14 => ?_)
  · have h15 := ifp h14 h13
    cases h15
    have h16 := h7 _ rfl
    subst h16
    exact G_lv [1] rfl (J9)
  · have h17 := ifn h14 h13
    refine G_iload_n X dX6_echoes_14 1 rfl ?_
    refine G_aload_n X dX6_echoes_15 0 rfl ?_
    refine G_iload_n X dX6_echoes_16 2 rfl ?_
    refine G_iconst X (v := 4) dX6_echoes_17 (by decide) ?_
    obtain ⟨v18, h19, h20⟩ := bnd h17
    refine G1_calli X (As := [.int s1.2, .int 4]) (rest := [.int s1.1]) (wr := []) (ws' := [(h, .inr (6, [.ref h_s, .ref h_aside, .ref h_before, .ref h_past, .int i_h_known, .ref h_text, .int i_h_length, .ref h_lost, .int i_h_losts, .int i_h_bestOrder, .int i_h_bestMany, .int i_h_spot, .int i_h_begin, .int i_h_isForm, .int i_h_letter, .ref h_tells, .int i_h_faultReason, .int i_h_faultCause])), (h_s, .inl (cI, 703, .inl f_h_s))]) dX6_echoes_18 pkX6_of gX6_echoes_X6_of (kkX6_of l D cI cR h h_s h_aside h_before h_past h_text h_lost h_tells i_h_known i_h_length i_h_losts i_h_bestOrder i_h_bestMany i_h_spot i_h_begin i_h_isForm i_h_letter i_h_faultReason i_h_faultCause f_h_s s1.2 4 v18 h19) ⟨rfl, rfl⟩ ⟨Nat.le_of_ble_eq_true rfl, Nat.le_of_ble_eq_true rfl⟩ rfl rfl (Nat.le_of_ble_eq_true rfl) 0 rfl rfl [0, 1] [] rfl rfl ⟨rfl, rfl, by decide⟩ ⟨Nat.zero_le _, Nat.zero_le _⟩ [0, 1] rfl rfl ?_
    refine G_iadd X dX6_echoes_21 ?_
    refine G_istore_n X (lv' := [(1, .int (s1.1 + v18)), (0, .ref h), (2, .int s1.2)]) dX6_echoes_22 (by decide) rfl ?_
    refine G_iinc X (v := (s1.2 + 1)) (lv' := [(2, .int (s1.2 + 1)), (1, .int (s1.1 + v18)), (0, .ref h)]) dX6_echoes_23 2 rfl rfl (by decide) rfl ?_
    refine G_goto X (tgt := 4) dX6_echoes_26 (by decide) ?_
    cases h20
    exact G_lv [2, 1, 0] rfl (h6 _ rfl)
def rmX6_faded : Room := { frames := 4, cells := 0, slots := 0, locals := 89 }
theorem pkX6_faded : cK yX6_faded wsX6_faded cX6_faded 4 (some .int) 0 RX6 := ⟨⟨_, rfl⟩, by decide +kernel⟩
theorem hiX6_faded_X6 : ∀ w ∈ wsX60, w ∈ wsX6_faded := by decide +kernel
theorem flX6_faded_7 : Cond.fieldLink RX6 7 "EchoMarginsModel" "s" "[I" ∈ wsX6_faded := by decide +kernel
set_option maxHeartbeats 4000000 in
set_option maxRecDepth 100000 in
theorem kkX6_faded (l : Launch) (D : va_G) (cI cR : ClassId) (h h_s h_aside h_before h_past h_text h_lost h_tells : Nat) (i_h_known : Int32) (i_h_length : Int32) (i_h_losts : Int32) (i_h_bestOrder : Int32) (i_h_bestMany : Int32) (i_h_spot : Int32) (i_h_begin : Int32) (i_h_isForm : Int32) (i_h_letter : Int32) (i_h_faultReason : Int32) (i_h_faultCause : Int32) (f_h_s : Nat → Int32) (z : Int32) (hz : MX6_faded f_h_s = some z) : cI1 l yX6_faded wsX6_faded rmX6_faded D cI cR [.ref h] [(h, .inr (6, [.ref h_s, .ref h_aside, .ref h_before, .ref h_past, .int i_h_known, .ref h_text, .int i_h_length, .ref h_lost, .int i_h_losts, .int i_h_bestOrder, .int i_h_bestMany, .int i_h_spot, .int i_h_begin, .int i_h_isForm, .int i_h_letter, .ref h_tells, .int i_h_faultReason, .int i_h_faultCause])), (h_s, .inl (cI, 703, .inl f_h_s))] z [(h, .inr (6, [.ref h_s, .ref h_aside, .ref h_before, .ref h_past, .int i_h_known, .ref h_text, .int i_h_length, .ref h_lost, .int i_h_losts, .int i_h_bestOrder, .int i_h_bestMany, .int i_h_spot, .int i_h_begin, .int i_h_isForm, .int i_h_letter, .ref h_tells, .int i_h_faultReason, .int i_h_faultCause])), (h_s, .inl (cI, 703, .inl f_h_s))] := by
  unfold MX6_faded at hz
  refine kI_of (cc := cX6_faded) (maxL := 4) (own := RX6) (by decide +kernel) rfl rfl (Nat.le_of_ble_eq_true rfl) (lv0 := [(0, .ref h)]) rfl (fun p e s m args below meth c A Q X rt => ?_)
  refine G_iconst X (v := 0) dX6_faded_0 (by decide) ?_
  refine G_istore_n X (lv' := [(1, .int 0), (0, .ref h)]) dX6_faded_1 (by decide) rfl ?_
  refine G_iconst X (v := 0) dX6_faded_2 (by decide) ?_
  refine G_istore_n X (lv' := [(2, .int 0), (1, .int 0), (0, .ref h)]) dX6_faded_3 (by decide) rfl ?_
  obtain ⟨j2, h3, h4⟩ := bnd hz
  have J9 : G p l e rmX6_faded s m args below meth c D A 4 Q 0 0 55 [(1, .int j2)] [] [(h, .inr (6, [.ref h_s, .ref h_aside, .ref h_before, .ref h_past, .int i_h_known, .ref h_text, .int i_h_length, .ref h_lost, .int i_h_losts, .int i_h_bestOrder, .int i_h_bestMany, .int i_h_spot, .int i_h_begin, .int i_h_isForm, .int i_h_letter, .ref h_tells, .int i_h_faultReason, .int i_h_faultCause])), (h_s, .inl (cI, 703, .inl f_h_s))] := by
    refine G_iload_n X dX6_faded_55 0 rfl ?_
    cases h4
    exact rt _ _ _ _ dX6_faded_56 ⟨rfl, rfl⟩
  refine G_lv [2, 1, 0] rfl ?_
  refine itr_ind (P := fun s1 : (Int32 × Int32) => G p l e rmX6_faded s m args below meth c D A 4 Q 0 0 4 [(0, .ref h), (1, .int s1.1), (2, .int s1.2)] [] [(h, .inr (6, [.ref h_s, .ref h_aside, .ref h_before, .ref h_past, .int i_h_known, .ref h_text, .int i_h_length, .ref h_lost, .int i_h_losts, .int i_h_bestOrder, .int i_h_bestMany, .int i_h_spot, .int i_h_begin, .int i_h_isForm, .int i_h_letter, .ref h_tells, .int i_h_faultReason, .int i_h_faultCause])), (h_s, .inl (cI, 703, .inl f_h_s))]) (fun s1 o8 h5 h6 h7 => ?_) FU _ h3
  unfold SX6_faded_4 at h5
  refine G_iload_n X dX6_faded_4 2 rfl ?_
  refine G_aload_n X dX6_faded_5 0 rfl ?_
  refine G_get X (i0 := 0) (ci := 6) (j := 0) (C := RX6) (ref := RX6) (T := TX6) (N := 18) dX6_faded_6 rfl rfl hiX6_faded_X6 (by decide) flX6_faded_7 rfl rfl ?_
  refine G_iconst X (v := 0) dX6_faded_9 (by decide) ?_
  obtain ⟨v11, h12, h13⟩ := bnd h5
  refine G_iald X (i0 := 1) dX6_faded_10 rfl h12 ?_
  refine G_icmp_ge X (tgt := 55) dX6_faded_11 (by decide) (fun h14 => ?_) (fun h14 => ?_)
  · have h15 := ifp h14 h13
    cases h15
    have h16 := h7 _ rfl
    subst h16
    exact G_lv [1] rfl (J9)
  · have h17 := ifn h14 h13
    refine G_iconst X (v := 0) dX6_faded_14 (by decide) ?_
    refine G_istore_n X (lv' := [(3, .int 0), (0, .ref h), (1, .int s1.1), (2, .int s1.2)]) dX6_faded_15 (by decide) rfl ?_
    obtain ⟨j19, h20, h21⟩ := bnd h17
    have J26 : G p l e rmX6_faded s m args below meth c D A 4 Q 0 0 49 [(0, .ref h), (1, .int j19), (2, .int s1.2)] [] [(h, .inr (6, [.ref h_s, .ref h_aside, .ref h_before, .ref h_past, .int i_h_known, .ref h_text, .int i_h_length, .ref h_lost, .int i_h_losts, .int i_h_bestOrder, .int i_h_bestMany, .int i_h_spot, .int i_h_begin, .int i_h_isForm, .int i_h_letter, .ref h_tells, .int i_h_faultReason, .int i_h_faultCause])), (h_s, .inl (cI, 703, .inl f_h_s))] := by
      refine G_iinc X (v := (s1.2 + 1)) (lv' := [(2, .int (s1.2 + 1)), (0, .ref h), (1, .int j19)]) dX6_faded_49 2 rfl rfl (by decide) rfl ?_
      refine G_goto X (tgt := 4) dX6_faded_52 (by decide) ?_
      cases h21
      exact G_lv [1, 2, 0] rfl (h6 _ rfl)
    refine G_lv [1, 2, 3, 0] rfl ?_
    refine itr_ind (P := fun s18 : (Int32 × Int32) => G p l e rmX6_faded s m args below meth c D A 4 Q 0 0 16 [(0, .ref h), (1, .int s18.1), (2, .int s1.2), (3, .int s18.2)] [] [(h, .inr (6, [.ref h_s, .ref h_aside, .ref h_before, .ref h_past, .int i_h_known, .ref h_text, .int i_h_length, .ref h_lost, .int i_h_losts, .int i_h_bestOrder, .int i_h_bestMany, .int i_h_spot, .int i_h_begin, .int i_h_isForm, .int i_h_letter, .ref h_tells, .int i_h_faultReason, .int i_h_faultCause])), (h_s, .inl (cI, 703, .inl f_h_s))]) (fun s18 o25 h22 h23 h24 => ?_) FU _ h20
    unfold SX6_faded_16 at h22
    refine G_iload_n X dX6_faded_16 3 rfl ?_
    refine G_aload_n X dX6_faded_17 0 rfl ?_
    refine G_iload_n X dX6_faded_18 2 rfl ?_
    refine G_iconst X (v := 4) dX6_faded_19 (by decide) ?_
    obtain ⟨v28, h29, h30⟩ := bnd h22
    refine G1_calli X (As := [.int s1.2, .int 4]) (rest := [.int s18.2]) (wr := []) (ws' := [(h, .inr (6, [.ref h_s, .ref h_aside, .ref h_before, .ref h_past, .int i_h_known, .ref h_text, .int i_h_length, .ref h_lost, .int i_h_losts, .int i_h_bestOrder, .int i_h_bestMany, .int i_h_spot, .int i_h_begin, .int i_h_isForm, .int i_h_letter, .ref h_tells, .int i_h_faultReason, .int i_h_faultCause])), (h_s, .inl (cI, 703, .inl f_h_s))]) dX6_faded_20 pkX6_of gX6_faded_X6_of (kkX6_of l D cI cR h h_s h_aside h_before h_past h_text h_lost h_tells i_h_known i_h_length i_h_losts i_h_bestOrder i_h_bestMany i_h_spot i_h_begin i_h_isForm i_h_letter i_h_faultReason i_h_faultCause f_h_s s1.2 4 v28 h29) ⟨rfl, rfl⟩ ⟨Nat.le_of_ble_eq_true rfl, Nat.le_of_ble_eq_true rfl⟩ rfl rfl (Nat.le_of_ble_eq_true rfl) 0 rfl rfl [0, 1] [] rfl rfl ⟨rfl, rfl, by decide⟩ ⟨Nat.zero_le _, Nat.zero_le _⟩ [0, 1] rfl rfl ?_
    refine G_icmp_ge X (tgt := 49) dX6_faded_23 (by decide) (fun h31 => ?_) (fun h31 => ?_)
    · have h32 := ifp h31 h30
      cases h32
      have h33 := h24 _ rfl
      subst h33
      exact G_lv [0, 1, 2] rfl (J26)
    · have h34 := ifn h31 h30
      refine G_iload_n X dX6_faded_26 1 rfl ?_
      refine G_aload_n X dX6_faded_27 0 rfl ?_
      refine G_iload_n X dX6_faded_28 2 rfl ?_
      refine G_iload_n X dX6_faded_29 3 rfl ?_
      obtain ⟨v35, h36, h37⟩ := bnd h34
      refine G1_calli X (As := [.int s1.2, .int s18.2]) (rest := [.int s18.1]) (wr := []) (ws' := [(h, .inr (6, [.ref h_s, .ref h_aside, .ref h_before, .ref h_past, .int i_h_known, .ref h_text, .int i_h_length, .ref h_lost, .int i_h_losts, .int i_h_bestOrder, .int i_h_bestMany, .int i_h_spot, .int i_h_begin, .int i_h_isForm, .int i_h_letter, .ref h_tells, .int i_h_faultReason, .int i_h_faultCause])), (h_s, .inl (cI, 703, .inl f_h_s))]) dX6_faded_30 pkX6_isFaded gX6_faded_X6_isFaded (kkX6_isFaded l D cI cR h h_s h_aside h_before h_past h_text h_lost h_tells i_h_known i_h_length i_h_losts i_h_bestOrder i_h_bestMany i_h_spot i_h_begin i_h_isForm i_h_letter i_h_faultReason i_h_faultCause f_h_s s1.2 s18.2 v35 h36) ⟨rfl, rfl⟩ ⟨Nat.le_of_ble_eq_true rfl, Nat.le_of_ble_eq_true rfl⟩ rfl rfl (Nat.le_of_ble_eq_true rfl) 0 rfl rfl [0, 1] [] rfl rfl ⟨rfl, rfl, by decide⟩ ⟨Nat.zero_le _, Nat.zero_le _⟩ [0, 1] rfl rfl ?_
      refine G_if_eq X (tgt := 40) dX6_faded_33 (by decide) (fun h38 => ?_) (fun h38 => ?_)
      · have h39 := ifp h38 h37
        refine G_iconst X (v := 0) dX6_faded_40 (by decide) ?_
        refine G_iadd X dX6_faded_41 ?_
        refine G_istore_n X (lv' := [(1, .int (s18.1 + 0)), (0, .ref h), (2, .int s1.2), (3, .int s18.2)]) dX6_faded_42 (by decide) rfl ?_
        refine G_iinc X (v := (s18.2 + 1)) (lv' := [(3, .int (s18.2 + 1)), (1, .int (s18.1 + 0)), (0, .ref h), (2, .int s1.2)]) dX6_faded_43 3 rfl rfl (by decide) rfl ?_
        refine G_goto X (tgt := 16) dX6_faded_46 (by decide) ?_
        cases h39
        exact G_lv [2, 1, 3, 0] rfl (h23 _ rfl)
      · have h40 := ifn h38 h37
        refine G_iconst X (v := 1) dX6_faded_36 (by decide) ?_
        refine G_goto X (tgt := 41) dX6_faded_37 (by decide) ?_
        refine G_iadd X dX6_faded_41 ?_
        refine G_istore_n X (lv' := [(1, .int (s18.1 + 1)), (0, .ref h), (2, .int s1.2), (3, .int s18.2)]) dX6_faded_42 (by decide) rfl ?_
        refine G_iinc X (v := (s18.2 + 1)) (lv' := [(3, .int (s18.2 + 1)), (1, .int (s18.1 + 1)), (0, .ref h), (2, .int s1.2)]) dX6_faded_43 3 rfl rfl (by decide) rfl ?_
        refine G_goto X (tgt := 16) dX6_faded_46 (by decide) ?_
        cases h40
        exact G_lv [2, 1, 3, 0] rfl (h23 _ rfl)
def rmX6_ages : Room := { frames := 4, cells := 0, slots := 0, locals := 89 }
theorem pkX6_ages : cK yX6_ages wsX6_ages cX6_ages 4 (some .int) 0 RX6 := ⟨⟨_, rfl⟩, by decide +kernel⟩
theorem hiX6_ages_X6 : ∀ w ∈ wsX60, w ∈ wsX6_ages := by decide +kernel
theorem flX6_ages_7 : Cond.fieldLink RX6 7 "EchoMarginsModel" "s" "[I" ∈ wsX6_ages := by decide +kernel
set_option maxHeartbeats 4000000 in
set_option maxRecDepth 100000 in
theorem kkX6_ages (l : Launch) (D : va_G) (cI cR : ClassId) (h h_s h_aside h_before h_past h_text h_lost h_tells : Nat) (i_h_known : Int32) (i_h_length : Int32) (i_h_losts : Int32) (i_h_bestOrder : Int32) (i_h_bestMany : Int32) (i_h_spot : Int32) (i_h_begin : Int32) (i_h_isForm : Int32) (i_h_letter : Int32) (i_h_faultReason : Int32) (i_h_faultCause : Int32) (f_h_s : Nat → Int32) (z : Int32) (hz : MX6_ages f_h_s = some z) : cI1 l yX6_ages wsX6_ages rmX6_ages D cI cR [.ref h] [(h, .inr (6, [.ref h_s, .ref h_aside, .ref h_before, .ref h_past, .int i_h_known, .ref h_text, .int i_h_length, .ref h_lost, .int i_h_losts, .int i_h_bestOrder, .int i_h_bestMany, .int i_h_spot, .int i_h_begin, .int i_h_isForm, .int i_h_letter, .ref h_tells, .int i_h_faultReason, .int i_h_faultCause])), (h_s, .inl (cI, 703, .inl f_h_s))] z [(h, .inr (6, [.ref h_s, .ref h_aside, .ref h_before, .ref h_past, .int i_h_known, .ref h_text, .int i_h_length, .ref h_lost, .int i_h_losts, .int i_h_bestOrder, .int i_h_bestMany, .int i_h_spot, .int i_h_begin, .int i_h_isForm, .int i_h_letter, .ref h_tells, .int i_h_faultReason, .int i_h_faultCause])), (h_s, .inl (cI, 703, .inl f_h_s))] := by
  unfold MX6_ages at hz
  refine kI_of (cc := cX6_ages) (maxL := 4) (own := RX6) (by decide +kernel) rfl rfl (Nat.le_of_ble_eq_true rfl) (lv0 := [(0, .ref h)]) rfl (fun p e s m args below meth c A Q X rt => ?_)
  refine G_iconst X (v := 0) dX6_ages_0 (by decide) ?_
  refine G_istore_n X (lv' := [(1, .int 0), (0, .ref h)]) dX6_ages_1 (by decide) rfl ?_
  refine G_iconst X (v := 0) dX6_ages_2 (by decide) ?_
  refine G_istore_n X (lv' := [(2, .int 0), (1, .int 0), (0, .ref h)]) dX6_ages_3 (by decide) rfl ?_
  obtain ⟨j2, h3, h4⟩ := bnd hz
  have J9 : G p l e rmX6_ages s m args below meth c D A 4 Q 0 0 60 [(1, .int j2)] [] [(h, .inr (6, [.ref h_s, .ref h_aside, .ref h_before, .ref h_past, .int i_h_known, .ref h_text, .int i_h_length, .ref h_lost, .int i_h_losts, .int i_h_bestOrder, .int i_h_bestMany, .int i_h_spot, .int i_h_begin, .int i_h_isForm, .int i_h_letter, .ref h_tells, .int i_h_faultReason, .int i_h_faultCause])), (h_s, .inl (cI, 703, .inl f_h_s))] := by
    refine G_iload_n X dX6_ages_60 0 rfl ?_
    cases h4
    exact rt _ _ _ _ dX6_ages_61 ⟨rfl, rfl⟩
  refine G_lv [2, 1, 0] rfl ?_
  refine itr_ind (P := fun s1 : (Int32 × Int32) => G p l e rmX6_ages s m args below meth c D A 4 Q 0 0 4 [(0, .ref h), (1, .int s1.1), (2, .int s1.2)] [] [(h, .inr (6, [.ref h_s, .ref h_aside, .ref h_before, .ref h_past, .int i_h_known, .ref h_text, .int i_h_length, .ref h_lost, .int i_h_losts, .int i_h_bestOrder, .int i_h_bestMany, .int i_h_spot, .int i_h_begin, .int i_h_isForm, .int i_h_letter, .ref h_tells, .int i_h_faultReason, .int i_h_faultCause])), (h_s, .inl (cI, 703, .inl f_h_s))]) (fun s1 o8 h5 h6 h7 => ?_) FU _ h3
  unfold SX6_ages_4 at h5
  refine G_iload_n X dX6_ages_4 2 rfl ?_
  refine G_aload_n X dX6_ages_5 0 rfl ?_
  refine G_get X (i0 := 0) (ci := 6) (j := 0) (C := RX6) (ref := RX6) (T := TX6) (N := 18) dX6_ages_6 rfl rfl hiX6_ages_X6 (by decide) flX6_ages_7 rfl rfl ?_
  refine G_iconst X (v := 0) dX6_ages_9 (by decide) ?_
  obtain ⟨v11, h12, h13⟩ := bnd h5
  refine G_iald X (i0 := 1) dX6_ages_10 rfl h12 ?_
  refine G_icmp_ge X (tgt := 60) dX6_ages_11 (by decide) (fun h14 => ?_) (fun h14 => ?_)
  · have h15 := ifp h14 h13
    cases h15
    have h16 := h7 _ rfl
    subst h16
    exact G_lv [1] rfl (J9)
  · have h17 := ifn h14 h13
    refine G_iconst X (v := 0) dX6_ages_14 (by decide) ?_
    refine G_istore_n X (lv' := [(3, .int 0), (0, .ref h), (1, .int s1.1), (2, .int s1.2)]) dX6_ages_15 (by decide) rfl ?_
    obtain ⟨j19, h20, h21⟩ := bnd h17
    have J26 : G p l e rmX6_ages s m args below meth c D A 4 Q 0 0 54 [(0, .ref h), (1, .int j19), (2, .int s1.2)] [] [(h, .inr (6, [.ref h_s, .ref h_aside, .ref h_before, .ref h_past, .int i_h_known, .ref h_text, .int i_h_length, .ref h_lost, .int i_h_losts, .int i_h_bestOrder, .int i_h_bestMany, .int i_h_spot, .int i_h_begin, .int i_h_isForm, .int i_h_letter, .ref h_tells, .int i_h_faultReason, .int i_h_faultCause])), (h_s, .inl (cI, 703, .inl f_h_s))] := by
      refine G_iinc X (v := (s1.2 + 1)) (lv' := [(2, .int (s1.2 + 1)), (0, .ref h), (1, .int j19)]) dX6_ages_54 2 rfl rfl (by decide) rfl ?_
      refine G_goto X (tgt := 4) dX6_ages_57 (by decide) ?_
      cases h21
      exact G_lv [1, 2, 0] rfl (h6 _ rfl)
    refine G_lv [1, 2, 3, 0] rfl ?_
    refine itr_ind (P := fun s18 : (Int32 × Int32) => G p l e rmX6_ages s m args below meth c D A 4 Q 0 0 16 [(0, .ref h), (1, .int s18.1), (2, .int s1.2), (3, .int s18.2)] [] [(h, .inr (6, [.ref h_s, .ref h_aside, .ref h_before, .ref h_past, .int i_h_known, .ref h_text, .int i_h_length, .ref h_lost, .int i_h_losts, .int i_h_bestOrder, .int i_h_bestMany, .int i_h_spot, .int i_h_begin, .int i_h_isForm, .int i_h_letter, .ref h_tells, .int i_h_faultReason, .int i_h_faultCause])), (h_s, .inl (cI, 703, .inl f_h_s))]) (fun s18 o25 h22 h23 h24 => ?_) FU _ h20
    unfold SX6_ages_16 at h22
    refine G_iload_n X dX6_ages_16 3 rfl ?_
    refine G_aload_n X dX6_ages_17 0 rfl ?_
    refine G_iload_n X dX6_ages_18 2 rfl ?_
    refine G_iconst X (v := 4) dX6_ages_19 (by decide) ?_
    obtain ⟨v28, h29, h30⟩ := bnd h22
    refine G1_calli X (As := [.int s1.2, .int 4]) (rest := [.int s18.2]) (wr := []) (ws' := [(h, .inr (6, [.ref h_s, .ref h_aside, .ref h_before, .ref h_past, .int i_h_known, .ref h_text, .int i_h_length, .ref h_lost, .int i_h_losts, .int i_h_bestOrder, .int i_h_bestMany, .int i_h_spot, .int i_h_begin, .int i_h_isForm, .int i_h_letter, .ref h_tells, .int i_h_faultReason, .int i_h_faultCause])), (h_s, .inl (cI, 703, .inl f_h_s))]) dX6_ages_20 pkX6_of gX6_ages_X6_of (kkX6_of l D cI cR h h_s h_aside h_before h_past h_text h_lost h_tells i_h_known i_h_length i_h_losts i_h_bestOrder i_h_bestMany i_h_spot i_h_begin i_h_isForm i_h_letter i_h_faultReason i_h_faultCause f_h_s s1.2 4 v28 h29) ⟨rfl, rfl⟩ ⟨Nat.le_of_ble_eq_true rfl, Nat.le_of_ble_eq_true rfl⟩ rfl rfl (Nat.le_of_ble_eq_true rfl) 0 rfl rfl [0, 1] [] rfl rfl ⟨rfl, rfl, by decide⟩ ⟨Nat.zero_le _, Nat.zero_le _⟩ [0, 1] rfl rfl ?_
    refine G_icmp_ge X (tgt := 54) dX6_ages_23 (by decide) (fun h31 => ?_) (fun h31 => ?_)
    · have h32 := ifp h31 h30
      cases h32
      have h33 := h24 _ rfl
      subst h33
      exact G_lv [0, 1, 2] rfl (J26)
    · have h34 := ifn h31 h30
      refine G_iload_n X dX6_ages_26 1 rfl ?_
      refine G_aload_n X dX6_ages_27 0 rfl ?_
      refine G_iload_n X dX6_ages_28 2 rfl ?_
      refine G_iload_n X dX6_ages_29 3 rfl ?_
      obtain ⟨v35, h36, h37⟩ := bnd h34
      refine G1_calli X (As := [.int s1.2, .int s18.2]) (rest := [.int s18.1]) (wr := []) (ws' := [(h, .inr (6, [.ref h_s, .ref h_aside, .ref h_before, .ref h_past, .int i_h_known, .ref h_text, .int i_h_length, .ref h_lost, .int i_h_losts, .int i_h_bestOrder, .int i_h_bestMany, .int i_h_spot, .int i_h_begin, .int i_h_isForm, .int i_h_letter, .ref h_tells, .int i_h_faultReason, .int i_h_faultCause])), (h_s, .inl (cI, 703, .inl f_h_s))]) dX6_ages_30 pkX6_isFaded gX6_ages_X6_isFaded (kkX6_isFaded l D cI cR h h_s h_aside h_before h_past h_text h_lost h_tells i_h_known i_h_length i_h_losts i_h_bestOrder i_h_bestMany i_h_spot i_h_begin i_h_isForm i_h_letter i_h_faultReason i_h_faultCause f_h_s s1.2 s18.2 v35 h36) ⟨rfl, rfl⟩ ⟨Nat.le_of_ble_eq_true rfl, Nat.le_of_ble_eq_true rfl⟩ rfl rfl (Nat.le_of_ble_eq_true rfl) 0 rfl rfl [0, 1] [] rfl rfl ⟨rfl, rfl, by decide⟩ ⟨Nat.zero_le _, Nat.zero_le _⟩ [0, 1] rfl rfl ?_
      refine G_if_eq X (tgt := 40) dX6_ages_33 (by decide) (fun h38 => ?_) (fun h38 => ?_)
      · have h39 := ifp h38 h37
        refine G_aload_n X dX6_ages_40 0 rfl ?_
        refine G_iload_n X dX6_ages_41 2 rfl ?_
        refine G_iload_n X dX6_ages_42 3 rfl ?_
        obtain ⟨v40, h41, h42⟩ := bnd h39
        refine G1_calli X (As := [.int s1.2, .int s18.2]) (rest := [.int s18.1]) (wr := []) (ws' := [(h, .inr (6, [.ref h_s, .ref h_aside, .ref h_before, .ref h_past, .int i_h_known, .ref h_text, .int i_h_length, .ref h_lost, .int i_h_losts, .int i_h_bestOrder, .int i_h_bestMany, .int i_h_spot, .int i_h_begin, .int i_h_isForm, .int i_h_letter, .ref h_tells, .int i_h_faultReason, .int i_h_faultCause])), (h_s, .inl (cI, 703, .inl f_h_s))]) dX6_ages_43 pkX6_age gX6_ages_X6_age (kkX6_age l D cI cR h h_s h_aside h_before h_past h_text h_lost h_tells i_h_known i_h_length i_h_losts i_h_bestOrder i_h_bestMany i_h_spot i_h_begin i_h_isForm i_h_letter i_h_faultReason i_h_faultCause f_h_s s1.2 s18.2 v40 h41) ⟨rfl, rfl⟩ ⟨Nat.le_of_ble_eq_true rfl, Nat.le_of_ble_eq_true rfl⟩ rfl rfl (Nat.le_of_ble_eq_true rfl) 0 rfl rfl [0, 1] [] rfl rfl ⟨rfl, rfl, by decide⟩ ⟨Nat.zero_le _, Nat.zero_le _⟩ [0, 1] rfl rfl ?_
        refine G_iadd X dX6_ages_46 ?_
        refine G_istore_n X (lv' := [(1, .int (s18.1 + v40)), (0, .ref h), (2, .int s1.2), (3, .int s18.2)]) dX6_ages_47 (by decide) rfl ?_
        refine G_iinc X (v := (s18.2 + 1)) (lv' := [(3, .int (s18.2 + 1)), (1, .int (s18.1 + v40)), (0, .ref h), (2, .int s1.2)]) dX6_ages_48 3 rfl rfl (by decide) rfl ?_
        refine G_goto X (tgt := 16) dX6_ages_51 (by decide) ?_
        cases h42
        exact G_lv [2, 1, 3, 0] rfl (h23 _ rfl)
      · have h43 := ifn h38 h37
        refine G_iconst X (v := 0) dX6_ages_36 (by decide) ?_
        refine G_goto X (tgt := 46) dX6_ages_37 (by decide) ?_
        refine G_iadd X dX6_ages_46 ?_
        refine G_istore_n X (lv' := [(1, .int (s18.1 + 0)), (0, .ref h), (2, .int s1.2), (3, .int s18.2)]) dX6_ages_47 (by decide) rfl ?_
        refine G_iinc X (v := (s18.2 + 1)) (lv' := [(3, .int (s18.2 + 1)), (1, .int (s18.1 + 0)), (0, .ref h), (2, .int s1.2)]) dX6_ages_48 3 rfl rfl (by decide) rfl ?_
        refine G_goto X (tgt := 16) dX6_ages_51 (by decide) ?_
        cases h43
        exact G_lv [2, 1, 3, 0] rfl (h23 _ rfl)
def rmX6_mean : Room := { frames := 5, cells := 0, slots := 0, locals := 112 }
theorem pkX6_mean : cK yX6_mean wsX6_mean cX6_mean 2 (some .int) 0 RX6 := ⟨⟨_, rfl⟩, by decide +kernel⟩
theorem flX6_mean_51 : Cond.constant RX6 51 (-1000004) ∈ wsX6_mean := by decide +kernel
set_option maxHeartbeats 4000000 in
set_option maxRecDepth 100000 in
theorem kkX6_mean (l : Launch) (D : va_G) (cI cR : ClassId) (h h_s h_aside h_before h_past h_text h_lost h_tells : Nat) (i_h_known : Int32) (i_h_length : Int32) (i_h_losts : Int32) (i_h_bestOrder : Int32) (i_h_bestMany : Int32) (i_h_spot : Int32) (i_h_begin : Int32) (i_h_isForm : Int32) (i_h_letter : Int32) (i_h_faultReason : Int32) (i_h_faultCause : Int32) (f_h_s : Nat → Int32) (z : Int32) (hz : MX6_mean f_h_s = some z) : cI1 l yX6_mean wsX6_mean rmX6_mean D cI cR [.ref h] [(h, .inr (6, [.ref h_s, .ref h_aside, .ref h_before, .ref h_past, .int i_h_known, .ref h_text, .int i_h_length, .ref h_lost, .int i_h_losts, .int i_h_bestOrder, .int i_h_bestMany, .int i_h_spot, .int i_h_begin, .int i_h_isForm, .int i_h_letter, .ref h_tells, .int i_h_faultReason, .int i_h_faultCause])), (h_s, .inl (cI, 703, .inl f_h_s))] z [(h, .inr (6, [.ref h_s, .ref h_aside, .ref h_before, .ref h_past, .int i_h_known, .ref h_text, .int i_h_length, .ref h_lost, .int i_h_losts, .int i_h_bestOrder, .int i_h_bestMany, .int i_h_spot, .int i_h_begin, .int i_h_isForm, .int i_h_letter, .ref h_tells, .int i_h_faultReason, .int i_h_faultCause])), (h_s, .inl (cI, 703, .inl f_h_s))] := by
  unfold MX6_mean at hz
  refine kI_of (cc := cX6_mean) (maxL := 2) (own := RX6) (by decide +kernel) rfl rfl (Nat.le_of_ble_eq_true rfl) (lv0 := [(0, .ref h)]) rfl (fun p e s m args below meth c A Q X rt => ?_)
  refine G_aload_n X dX6_mean_0 0 rfl ?_
  obtain ⟨v1, h2, h3⟩ := bnd hz
  refine G1_calli X (As := []) (rest := []) (wr := []) (ws' := [(h, .inr (6, [.ref h_s, .ref h_aside, .ref h_before, .ref h_past, .int i_h_known, .ref h_text, .int i_h_length, .ref h_lost, .int i_h_losts, .int i_h_bestOrder, .int i_h_bestMany, .int i_h_spot, .int i_h_begin, .int i_h_isForm, .int i_h_letter, .ref h_tells, .int i_h_faultReason, .int i_h_faultCause])), (h_s, .inl (cI, 703, .inl f_h_s))]) dX6_mean_1 pkX6_echoes gX6_mean_X6_echoes (kkX6_echoes l D cI cR h h_s h_aside h_before h_past h_text h_lost h_tells i_h_known i_h_length i_h_losts i_h_bestOrder i_h_bestMany i_h_spot i_h_begin i_h_isForm i_h_letter i_h_faultReason i_h_faultCause f_h_s v1 h2) ⟨rfl, rfl⟩ ⟨Nat.le_of_ble_eq_true rfl, Nat.le_of_ble_eq_true rfl⟩ rfl rfl (Nat.le_of_ble_eq_true rfl) 0 rfl rfl [0, 1] [] rfl rfl ⟨rfl, rfl, by decide⟩ ⟨Nat.zero_le _, Nat.zero_le _⟩ [0, 1] rfl rfl ?_
  refine G_aload_n X dX6_mean_4 0 rfl ?_
  obtain ⟨v4, h5, h6⟩ := bnd h3
  refine G1_calli X (As := []) (rest := [.int v1]) (wr := []) (ws' := [(h, .inr (6, [.ref h_s, .ref h_aside, .ref h_before, .ref h_past, .int i_h_known, .ref h_text, .int i_h_length, .ref h_lost, .int i_h_losts, .int i_h_bestOrder, .int i_h_bestMany, .int i_h_spot, .int i_h_begin, .int i_h_isForm, .int i_h_letter, .ref h_tells, .int i_h_faultReason, .int i_h_faultCause])), (h_s, .inl (cI, 703, .inl f_h_s))]) dX6_mean_5 pkX6_faded gX6_mean_X6_faded (kkX6_faded l D cI cR h h_s h_aside h_before h_past h_text h_lost h_tells i_h_known i_h_length i_h_losts i_h_bestOrder i_h_bestMany i_h_spot i_h_begin i_h_isForm i_h_letter i_h_faultReason i_h_faultCause f_h_s v4 h5) ⟨rfl, rfl⟩ ⟨Nat.le_of_ble_eq_true rfl, Nat.le_of_ble_eq_true rfl⟩ rfl rfl (Nat.le_of_ble_eq_true rfl) 0 rfl rfl [0, 1] [] rfl rfl ⟨rfl, rfl, by decide⟩ ⟨Nat.zero_le _, Nat.zero_le _⟩ [0, 1] rfl rfl ?_
  refine G_isub X dX6_mean_8 ?_
  refine G_istore_n X (lv' := [(1, .int (v1 - v4)), (0, .ref h)]) dX6_mean_9 (by decide) rfl ?_
  refine G_iload_n X dX6_mean_10 0 rfl ?_
  refine G_if_ne X (tgt := 19) dX6_mean_11 (by decide) (fun h7 => ?_) (fun h7 => ?_)
  · have h8 := ifp h7 h6
    refine G_ldc X dX6_mean_14 flX6_mean_51 ?_
    refine G_goto X (tgt := 30) dX6_mean_16 (by decide) ?_
    cases h8
    exact rt _ _ _ _ dX6_mean_30 ⟨rfl, rfl⟩
  · have h9 := ifn h7 h6
    refine G_aload_n X dX6_mean_19 1 rfl ?_
    obtain ⟨v10, h11, h12⟩ := bnd h9
    refine G1_calli X (As := []) (rest := []) (wr := []) (ws' := [(h, .inr (6, [.ref h_s, .ref h_aside, .ref h_before, .ref h_past, .int i_h_known, .ref h_text, .int i_h_length, .ref h_lost, .int i_h_losts, .int i_h_bestOrder, .int i_h_bestMany, .int i_h_spot, .int i_h_begin, .int i_h_isForm, .int i_h_letter, .ref h_tells, .int i_h_faultReason, .int i_h_faultCause])), (h_s, .inl (cI, 703, .inl f_h_s))]) dX6_mean_20 pkX6_ages gX6_mean_X6_ages (kkX6_ages l D cI cR h h_s h_aside h_before h_past h_text h_lost h_tells i_h_known i_h_length i_h_losts i_h_bestOrder i_h_bestMany i_h_spot i_h_begin i_h_isForm i_h_letter i_h_faultReason i_h_faultCause f_h_s v10 h11) ⟨rfl, rfl⟩ ⟨Nat.le_of_ble_eq_true rfl, Nat.le_of_ble_eq_true rfl⟩ rfl rfl (Nat.le_of_ble_eq_true rfl) 0 rfl rfl [0, 1] [] rfl rfl ⟨rfl, rfl, by decide⟩ ⟨Nat.zero_le _, Nat.zero_le _⟩ [0, 1] rfl rfl ?_
    refine G_i2f X dX6_mean_23 ?_
    refine G_iload_n X dX6_mean_24 0 rfl ?_
    refine G_i2f X dX6_mean_25 ?_
    obtain ⟨v13, h14, h15⟩ := bnd h12
    refine G_fdiv X dX6_mean_26 h14 ?_
    obtain ⟨v16, h17, h18⟩ := bnd h15
    refine G1_callsi X (As := [.float v13]) (rest := []) (wr := [(h, .inr (6, [.ref h_s, .ref h_aside, .ref h_before, .ref h_past, .int i_h_known, .ref h_text, .int i_h_length, .ref h_lost, .int i_h_losts, .int i_h_bestOrder, .int i_h_bestMany, .int i_h_spot, .int i_h_begin, .int i_h_isForm, .int i_h_letter, .ref h_tells, .int i_h_faultReason, .int i_h_faultCause])), (h_s, .inl (cI, 703, .inl f_h_s))]) (ws' := [(h, .inr (6, [.ref h_s, .ref h_aside, .ref h_before, .ref h_past, .int i_h_known, .ref h_text, .int i_h_length, .ref h_lost, .int i_h_losts, .int i_h_bestOrder, .int i_h_bestMany, .int i_h_spot, .int i_h_begin, .int i_h_isForm, .int i_h_letter, .ref h_tells, .int i_h_faultReason, .int i_h_faultCause])), (h_s, .inl (cI, 703, .inl f_h_s))]) dX6_mean_27 pkJxf58ca_floatToIntBits_5c35a gX6_mean_Jxf58ca_floatToIntBits_5c35a (kkJxf58ca_floatToIntBits_5c35a l D cI cR v13 v16 h17) ⟨rfl, rfl⟩ ⟨Nat.le_of_ble_eq_true rfl, Nat.le_of_ble_eq_true rfl⟩ rfl rfl (Nat.le_of_ble_eq_true rfl) [] [0, 1] rfl rfl ⟨rfl, rfl, by decide⟩ ⟨Nat.zero_le _, Nat.zero_le _⟩ [0, 1] rfl rfl ?_
    cases h18
    exact rt _ _ _ _ dX6_mean_30 ⟨rfl, rfl⟩
def rmX6_share : Room := { frames := 7, cells := 0, slots := 0, locals := 160 }
theorem pkX6_share : cK yX6_share wsX6_share cX6_share 4 (some .int) 0 RX6 := ⟨⟨_, rfl⟩, by decide +kernel⟩
theorem hiX6_share_X6 : ∀ w ∈ wsX60, w ∈ wsX6_share := by decide +kernel
theorem flX6_share_7 : Cond.fieldLink RX6 7 "EchoMarginsModel" "s" "[I" ∈ wsX6_share := by decide +kernel
theorem flX6_share_51 : Cond.constant RX6 51 (-1000004) ∈ wsX6_share := by decide +kernel
set_option maxHeartbeats 4000000 in
set_option maxRecDepth 100000 in
theorem kkX6_share (l : Launch) (D : va_G) (cI cR : ClassId) (h h_s h_aside h_before h_past h_text h_lost h_tells : Nat) (i_h_known : Int32) (i_h_length : Int32) (i_h_losts : Int32) (i_h_bestOrder : Int32) (i_h_bestMany : Int32) (i_h_spot : Int32) (i_h_begin : Int32) (i_h_isForm : Int32) (i_h_letter : Int32) (i_h_faultReason : Int32) (i_h_faultCause : Int32) (f_h_s : Nat → Int32) (z : Int32) (hz : MX6_share f_h_s = some z) : cI1 l yX6_share wsX6_share rmX6_share D cI cR [.ref h] [(h, .inr (6, [.ref h_s, .ref h_aside, .ref h_before, .ref h_past, .int i_h_known, .ref h_text, .int i_h_length, .ref h_lost, .int i_h_losts, .int i_h_bestOrder, .int i_h_bestMany, .int i_h_spot, .int i_h_begin, .int i_h_isForm, .int i_h_letter, .ref h_tells, .int i_h_faultReason, .int i_h_faultCause])), (h_s, .inl (cI, 703, .inl f_h_s))] z [(h, .inr (6, [.ref h_s, .ref h_aside, .ref h_before, .ref h_past, .int i_h_known, .ref h_text, .int i_h_length, .ref h_lost, .int i_h_losts, .int i_h_bestOrder, .int i_h_bestMany, .int i_h_spot, .int i_h_begin, .int i_h_isForm, .int i_h_letter, .ref h_tells, .int i_h_faultReason, .int i_h_faultCause])), (h_s, .inl (cI, 703, .inl f_h_s))] := by
  unfold MX6_share at hz
  refine kI_of (cc := cX6_share) (maxL := 4) (own := RX6) (by decide +kernel) rfl rfl (Nat.le_of_ble_eq_true rfl) (lv0 := [(0, .ref h)]) rfl (fun p e s m args below meth c A Q X rt => ?_)
  refine G_iconst X (v := 0) dX6_share_0 (by decide) ?_
  refine G_istore_n X (lv' := [(1, .int 0), (0, .ref h)]) dX6_share_1 (by decide) rfl ?_
  refine G_iconst X (v := 0) dX6_share_2 (by decide) ?_
  refine G_istore_n X (lv' := [(2, .int 0), (1, .int 0), (0, .ref h)]) dX6_share_3 (by decide) rfl ?_
  refine G_iconst X (v := 0) dX6_share_4 (by decide) ?_
  refine G_istore_n X (lv' := [(3, .int 0), (2, .int 0), (1, .int 0), (0, .ref h)]) dX6_share_5 (by decide) rfl ?_
  obtain ⟨j2, h3, h4⟩ := bnd hz
  have J9 : G p l e rmX6_share s m args below meth c D A 4 Q 0 0 59 [(1, .int j2.1), (2, .int j2.2)] [] [(h, .inr (6, [.ref h_s, .ref h_aside, .ref h_before, .ref h_past, .int i_h_known, .ref h_text, .int i_h_length, .ref h_lost, .int i_h_losts, .int i_h_bestOrder, .int i_h_bestMany, .int i_h_spot, .int i_h_begin, .int i_h_isForm, .int i_h_letter, .ref h_tells, .int i_h_faultReason, .int i_h_faultCause])), (h_s, .inl (cI, 703, .inl f_h_s))] := by
    refine G_iload_n X dX6_share_59 1 rfl ?_
    refine G_if_ne X (tgt := 68) dX6_share_60 (by decide) (fun h11 => ?_) (fun h11 => ?_)
    · have h12 := ifp h11 h4
      refine G_ldc X dX6_share_63 flX6_share_51 ?_
      refine G_goto X (tgt := 76) dX6_share_65 (by decide) ?_
      cases h12
      exact rt _ _ _ _ dX6_share_76 ⟨rfl, rfl⟩
    · have h13 := ifn h11 h4
      refine G_iload_n X dX6_share_68 0 rfl ?_
      refine G_i2f X dX6_share_69 ?_
      refine G_iload_n X dX6_share_70 1 rfl ?_
      refine G_i2f X dX6_share_71 ?_
      obtain ⟨v14, h15, h16⟩ := bnd h13
      refine G_fdiv X dX6_share_72 h15 ?_
      obtain ⟨v17, h18, h19⟩ := bnd h16
      refine G1_callsi X (As := [.float v14]) (rest := []) (wr := [(h, .inr (6, [.ref h_s, .ref h_aside, .ref h_before, .ref h_past, .int i_h_known, .ref h_text, .int i_h_length, .ref h_lost, .int i_h_losts, .int i_h_bestOrder, .int i_h_bestMany, .int i_h_spot, .int i_h_begin, .int i_h_isForm, .int i_h_letter, .ref h_tells, .int i_h_faultReason, .int i_h_faultCause])), (h_s, .inl (cI, 703, .inl f_h_s))]) (ws' := [(h, .inr (6, [.ref h_s, .ref h_aside, .ref h_before, .ref h_past, .int i_h_known, .ref h_text, .int i_h_length, .ref h_lost, .int i_h_losts, .int i_h_bestOrder, .int i_h_bestMany, .int i_h_spot, .int i_h_begin, .int i_h_isForm, .int i_h_letter, .ref h_tells, .int i_h_faultReason, .int i_h_faultCause])), (h_s, .inl (cI, 703, .inl f_h_s))]) dX6_share_73 pkJxf58ca_floatToIntBits_5c35a gX6_share_Jxf58ca_floatToIntBits_5c35a (kkJxf58ca_floatToIntBits_5c35a l D cI cR v14 v17 h18) ⟨rfl, rfl⟩ ⟨Nat.le_of_ble_eq_true rfl, Nat.le_of_ble_eq_true rfl⟩ rfl rfl (Nat.le_of_ble_eq_true rfl) [] [0, 1] rfl rfl ⟨rfl, rfl, by decide⟩ ⟨Nat.zero_le _, Nat.zero_le _⟩ [0, 1] rfl rfl ?_
      cases h19
      exact rt _ _ _ _ dX6_share_76 ⟨rfl, rfl⟩
  refine G_lv [3, 2, 1, 0] rfl ?_
  refine itr_ind (P := fun s1 : (Int32 × Int32 × Int32) => G p l e rmX6_share s m args below meth c D A 4 Q 0 0 6 [(0, .ref h), (1, .int s1.1), (2, .int s1.2.1), (3, .int s1.2.2)] [] [(h, .inr (6, [.ref h_s, .ref h_aside, .ref h_before, .ref h_past, .int i_h_known, .ref h_text, .int i_h_length, .ref h_lost, .int i_h_losts, .int i_h_bestOrder, .int i_h_bestMany, .int i_h_spot, .int i_h_begin, .int i_h_isForm, .int i_h_letter, .ref h_tells, .int i_h_faultReason, .int i_h_faultCause])), (h_s, .inl (cI, 703, .inl f_h_s))]) (fun s1 o8 h5 h6 h7 => ?_) FU _ h3
  unfold SX6_share_6 at h5
  refine G_iload_n X dX6_share_6 3 rfl ?_
  refine G_aload_n X dX6_share_7 0 rfl ?_
  refine G_get X (i0 := 0) (ci := 6) (j := 0) (C := RX6) (ref := RX6) (T := TX6) (N := 18) dX6_share_8 rfl rfl hiX6_share_X6 (by decide) flX6_share_7 rfl rfl ?_
  refine G_iconst X (v := 0) dX6_share_11 (by decide) ?_
  obtain ⟨v20, h21, h22⟩ := bnd h5
  refine G_iald X (i0 := 1) dX6_share_12 rfl h21 ?_
  refine G_icmp_ge X (tgt := 59) dX6_share_13 (by decide) (fun h23 => ?_) (fun h23 => ?_)
  · have h24 := ifp h23 h22
    cases h24
    have h25 := h7 _ rfl
    subst h25
    exact G_lv [1, 2] rfl (J9)
  · have h26 := ifn h23 h22
    refine G_iload_n X dX6_share_16 1 rfl ?_
    refine G_aload_n X dX6_share_17 0 rfl ?_
    refine G_iload_n X dX6_share_18 3 rfl ?_
    obtain ⟨v27, h28, h29⟩ := bnd h26
    refine G1_calli X (As := [.int s1.2.2]) (rest := [.int s1.1]) (wr := []) (ws' := [(h, .inr (6, [.ref h_s, .ref h_aside, .ref h_before, .ref h_past, .int i_h_known, .ref h_text, .int i_h_length, .ref h_lost, .int i_h_losts, .int i_h_bestOrder, .int i_h_bestMany, .int i_h_spot, .int i_h_begin, .int i_h_isForm, .int i_h_letter, .ref h_tells, .int i_h_faultReason, .int i_h_faultCause])), (h_s, .inl (cI, 703, .inl f_h_s))]) dX6_share_19 pkX6_lives gX6_share_X6_lives (kkX6_lives l D cI cR h h_s h_aside h_before h_past h_text h_lost h_tells i_h_known i_h_length i_h_losts i_h_bestOrder i_h_bestMany i_h_spot i_h_begin i_h_isForm i_h_letter i_h_faultReason i_h_faultCause f_h_s s1.2.2 v27 h28) ⟨rfl, rfl⟩ ⟨Nat.le_of_ble_eq_true rfl, Nat.le_of_ble_eq_true rfl⟩ rfl rfl (Nat.le_of_ble_eq_true rfl) 0 rfl rfl [0, 1] [] rfl rfl ⟨rfl, rfl, by decide⟩ ⟨Nat.zero_le _, Nat.zero_le _⟩ [0, 1] rfl rfl ?_
    refine G_if_eq X (tgt := 33) dX6_share_22 (by decide) (fun h30 => ?_) (fun h30 => ?_)
    · have h31 := ifp h30 h29
      refine G_iconst X (v := 0) dX6_share_33 (by decide) ?_
      refine G_iadd X dX6_share_34 ?_
      refine G_istore_n X (lv' := [(1, .int (s1.1 + 0)), (0, .ref h), (2, .int s1.2.1), (3, .int s1.2.2)]) dX6_share_35 (by decide) rfl ?_
      refine G_iload_n X dX6_share_36 2 rfl ?_
      refine G_aload_n X dX6_share_37 1 rfl ?_
      refine G_iload_n X dX6_share_38 3 rfl ?_
      obtain ⟨v32, h33, h34⟩ := bnd h31
      refine G1_calli X (As := [.int s1.2.2]) (rest := [.int s1.2.1]) (wr := []) (ws' := [(h, .inr (6, [.ref h_s, .ref h_aside, .ref h_before, .ref h_past, .int i_h_known, .ref h_text, .int i_h_length, .ref h_lost, .int i_h_losts, .int i_h_bestOrder, .int i_h_bestMany, .int i_h_spot, .int i_h_begin, .int i_h_isForm, .int i_h_letter, .ref h_tells, .int i_h_faultReason, .int i_h_faultCause])), (h_s, .inl (cI, 703, .inl f_h_s))]) dX6_share_39 pkX6_lives gX6_share_X6_lives (kkX6_lives l D cI cR h h_s h_aside h_before h_past h_text h_lost h_tells i_h_known i_h_length i_h_losts i_h_bestOrder i_h_bestMany i_h_spot i_h_begin i_h_isForm i_h_letter i_h_faultReason i_h_faultCause f_h_s s1.2.2 v32 h33) ⟨rfl, rfl⟩ ⟨Nat.le_of_ble_eq_true rfl, Nat.le_of_ble_eq_true rfl⟩ rfl rfl (Nat.le_of_ble_eq_true rfl) 0 rfl rfl [0, 1] [] rfl rfl ⟨rfl, rfl, by decide⟩ ⟨Nat.zero_le _, Nat.zero_le _⟩ [0, 1] rfl rfl ?_
      refine G_if_eq X (tgt := 50) dX6_share_42 (by decide) (fun h35 => ?_) (fun h35 => ?_)
      · have h36 := ifp h35 h34
        refine G_iconst X (v := 0) dX6_share_50 (by decide) ?_
        refine G_iadd X dX6_share_51 ?_
        refine G_istore_n X (lv' := [(2, .int (s1.2.1 + 0)), (1, .int (s1.1 + 0)), (0, .ref h), (3, .int s1.2.2)]) dX6_share_52 (by decide) rfl ?_
        refine G_iinc X (v := (s1.2.2 + 1)) (lv' := [(3, .int (s1.2.2 + 1)), (2, .int (s1.2.1 + 0)), (1, .int (s1.1 + 0)), (0, .ref h)]) dX6_share_53 3 rfl rfl (by decide) rfl ?_
        refine G_goto X (tgt := 6) dX6_share_56 (by decide) ?_
        cases h36
        exact G_lv [3, 2, 1, 0] rfl (h6 _ rfl)
      · have h37 := ifn h35 h34
        refine G_bipush X (v := 8) dX6_share_45 (by decide) ?_
        refine G_goto X (tgt := 51) dX6_share_47 (by decide) ?_
        refine G_iadd X dX6_share_51 ?_
        refine G_istore_n X (lv' := [(2, .int (s1.2.1 + 8)), (1, .int (s1.1 + 0)), (0, .ref h), (3, .int s1.2.2)]) dX6_share_52 (by decide) rfl ?_
        refine G_iinc X (v := (s1.2.2 + 1)) (lv' := [(3, .int (s1.2.2 + 1)), (2, .int (s1.2.1 + 8)), (1, .int (s1.1 + 0)), (0, .ref h)]) dX6_share_53 3 rfl rfl (by decide) rfl ?_
        refine G_goto X (tgt := 6) dX6_share_56 (by decide) ?_
        cases h37
        exact G_lv [3, 2, 1, 0] rfl (h6 _ rfl)
    · have h38 := ifn h30 h29
      refine G_aload_n X dX6_share_25 0 rfl ?_
      refine G_iload_n X dX6_share_26 3 rfl ?_
      obtain ⟨v39, h40, h41⟩ := bnd h38
      refine G1_calli X (As := [.int s1.2.2]) (rest := [.int s1.1]) (wr := []) (ws' := [(h, .inr (6, [.ref h_s, .ref h_aside, .ref h_before, .ref h_past, .int i_h_known, .ref h_text, .int i_h_length, .ref h_lost, .int i_h_losts, .int i_h_bestOrder, .int i_h_bestMany, .int i_h_spot, .int i_h_begin, .int i_h_isForm, .int i_h_letter, .ref h_tells, .int i_h_faultReason, .int i_h_faultCause])), (h_s, .inl (cI, 703, .inl f_h_s))]) dX6_share_27 pkX6_back gX6_share_X6_back (kkX6_back l D cI cR h h_s h_aside h_before h_past h_text h_lost h_tells i_h_known i_h_length i_h_losts i_h_bestOrder i_h_bestMany i_h_spot i_h_begin i_h_isForm i_h_letter i_h_faultReason i_h_faultCause f_h_s s1.2.2 v39 h40) ⟨rfl, rfl⟩ ⟨Nat.le_of_ble_eq_true rfl, Nat.le_of_ble_eq_true rfl⟩ rfl rfl (Nat.le_of_ble_eq_true rfl) 0 rfl rfl [0, 1] [] rfl rfl ⟨rfl, rfl, by decide⟩ ⟨Nat.zero_le _, Nat.zero_le _⟩ [0, 1] rfl rfl ?_
      refine G_goto X (tgt := 34) dX6_share_30 (by decide) ?_
      refine G_iadd X dX6_share_34 ?_
      refine G_istore_n X (lv' := [(1, .int (s1.1 + v39)), (0, .ref h), (2, .int s1.2.1), (3, .int s1.2.2)]) dX6_share_35 (by decide) rfl ?_
      refine G_iload_n X dX6_share_36 2 rfl ?_
      refine G_aload_n X dX6_share_37 1 rfl ?_
      refine G_iload_n X dX6_share_38 3 rfl ?_
      obtain ⟨v42, h43, h44⟩ := bnd h41
      refine G1_calli X (As := [.int s1.2.2]) (rest := [.int s1.2.1]) (wr := []) (ws' := [(h, .inr (6, [.ref h_s, .ref h_aside, .ref h_before, .ref h_past, .int i_h_known, .ref h_text, .int i_h_length, .ref h_lost, .int i_h_losts, .int i_h_bestOrder, .int i_h_bestMany, .int i_h_spot, .int i_h_begin, .int i_h_isForm, .int i_h_letter, .ref h_tells, .int i_h_faultReason, .int i_h_faultCause])), (h_s, .inl (cI, 703, .inl f_h_s))]) dX6_share_39 pkX6_lives gX6_share_X6_lives (kkX6_lives l D cI cR h h_s h_aside h_before h_past h_text h_lost h_tells i_h_known i_h_length i_h_losts i_h_bestOrder i_h_bestMany i_h_spot i_h_begin i_h_isForm i_h_letter i_h_faultReason i_h_faultCause f_h_s s1.2.2 v42 h43) ⟨rfl, rfl⟩ ⟨Nat.le_of_ble_eq_true rfl, Nat.le_of_ble_eq_true rfl⟩ rfl rfl (Nat.le_of_ble_eq_true rfl) 0 rfl rfl [0, 1] [] rfl rfl ⟨rfl, rfl, by decide⟩ ⟨Nat.zero_le _, Nat.zero_le _⟩ [0, 1] rfl rfl ?_
      refine G_if_eq X (tgt := 50) dX6_share_42 (by decide) (fun h45 => ?_) (fun h45 => ?_)
      · have h46 := ifp h45 h44
        refine G_iconst X (v := 0) dX6_share_50 (by decide) ?_
        refine G_iadd X dX6_share_51 ?_
        refine G_istore_n X (lv' := [(2, .int (s1.2.1 + 0)), (1, .int (s1.1 + v39)), (0, .ref h), (3, .int s1.2.2)]) dX6_share_52 (by decide) rfl ?_
        refine G_iinc X (v := (s1.2.2 + 1)) (lv' := [(3, .int (s1.2.2 + 1)), (2, .int (s1.2.1 + 0)), (1, .int (s1.1 + v39)), (0, .ref h)]) dX6_share_53 3 rfl rfl (by decide) rfl ?_
        refine G_goto X (tgt := 6) dX6_share_56 (by decide) ?_
        cases h46
        exact G_lv [3, 2, 1, 0] rfl (h6 _ rfl)
      · have h47 := ifn h45 h44
        refine G_bipush X (v := 8) dX6_share_45 (by decide) ?_
        refine G_goto X (tgt := 51) dX6_share_47 (by decide) ?_
        refine G_iadd X dX6_share_51 ?_
        refine G_istore_n X (lv' := [(2, .int (s1.2.1 + 8)), (1, .int (s1.1 + v39)), (0, .ref h), (3, .int s1.2.2)]) dX6_share_52 (by decide) rfl ?_
        refine G_iinc X (v := (s1.2.2 + 1)) (lv' := [(3, .int (s1.2.2 + 1)), (2, .int (s1.2.1 + 8)), (1, .int (s1.1 + v39)), (0, .ref h)]) dX6_share_53 3 rfl rfl (by decide) rfl ?_
        refine G_goto X (tgt := 6) dX6_share_56 (by decide) ?_
        cases h47
        exact G_lv [3, 2, 1, 0] rfl (h6 _ rfl)
def rmX6_setOf : Room := { frames := 8, cells := 0, slots := 0, locals := 181 }
theorem pkX6_setOf : cK yX6_setOf wsX6_setOf cX6_setOf 4 (some .int) 1 RX6 := ⟨⟨_, rfl⟩, by decide +kernel⟩
theorem hiX6_setOf_X6 : ∀ w ∈ wsX60, w ∈ wsX6_setOf := by decide +kernel
theorem flX6_setOf_7 : Cond.fieldLink RX6 7 "EchoMarginsModel" "s" "[I" ∈ wsX6_setOf := by decide +kernel
set_option maxHeartbeats 4000000 in
set_option maxRecDepth 100000 in
theorem kkX6_setOf (l : Launch) (D : va_G) (cI cR : ClassId) (h h_s h_aside h_before h_past h_text h_lost h_tells : Nat) (i_h_known : Int32) (i_h_length : Int32) (i_h_losts : Int32) (i_h_bestOrder : Int32) (i_h_bestMany : Int32) (i_h_spot : Int32) (i_h_begin : Int32) (i_h_isForm : Int32) (i_h_letter : Int32) (i_h_faultReason : Int32) (i_h_faultCause : Int32) (f_h_s : Nat → Int32) (x0 : Int32) (z : Int32) (hz : MX6_setOf f_h_s x0 = some z) : cI1 l yX6_setOf wsX6_setOf rmX6_setOf D cI cR [.ref h, .int x0] [(h, .inr (6, [.ref h_s, .ref h_aside, .ref h_before, .ref h_past, .int i_h_known, .ref h_text, .int i_h_length, .ref h_lost, .int i_h_losts, .int i_h_bestOrder, .int i_h_bestMany, .int i_h_spot, .int i_h_begin, .int i_h_isForm, .int i_h_letter, .ref h_tells, .int i_h_faultReason, .int i_h_faultCause])), (h_s, .inl (cI, 703, .inl f_h_s))] z [(h, .inr (6, [.ref h_s, .ref h_aside, .ref h_before, .ref h_past, .int i_h_known, .ref h_text, .int i_h_length, .ref h_lost, .int i_h_losts, .int i_h_bestOrder, .int i_h_bestMany, .int i_h_spot, .int i_h_begin, .int i_h_isForm, .int i_h_letter, .ref h_tells, .int i_h_faultReason, .int i_h_faultCause])), (h_s, .inl (cI, 703, .inl f_h_s))] := by
  unfold MX6_setOf at hz
  refine kI_of (cc := cX6_setOf) (maxL := 4) (own := RX6) (by decide +kernel) rfl rfl (Nat.le_of_ble_eq_true rfl) (lv0 := [(0, .ref h), (1, .int x0)]) rfl (fun p e s m args below meth c A Q X rt => ?_)
  refine G_iconst X (v := 0) dX6_setOf_0 (by decide) ?_
  refine G_istore_n X (lv' := [(2, .int 0), (0, .ref h), (1, .int x0)]) dX6_setOf_1 (by decide) rfl ?_
  refine G_iconst X (v := 0) dX6_setOf_2 (by decide) ?_
  refine G_istore_n X (lv' := [(3, .int 0), (2, .int 0), (0, .ref h), (1, .int x0)]) dX6_setOf_3 (by decide) rfl ?_
  obtain ⟨j2, h3, h4⟩ := bnd hz
  have J9 : G p l e rmX6_setOf s m args below meth c D A 4 Q 0 0 53 [(2, .int j2)] [] [(h, .inr (6, [.ref h_s, .ref h_aside, .ref h_before, .ref h_past, .int i_h_known, .ref h_text, .int i_h_length, .ref h_lost, .int i_h_losts, .int i_h_bestOrder, .int i_h_bestMany, .int i_h_spot, .int i_h_begin, .int i_h_isForm, .int i_h_letter, .ref h_tells, .int i_h_faultReason, .int i_h_faultCause])), (h_s, .inl (cI, 703, .inl f_h_s))] := by
    refine G_iload_n X dX6_setOf_53 0 rfl ?_
    cases h4
    exact rt _ _ _ _ dX6_setOf_54 ⟨rfl, rfl⟩
  refine G_lv [2, 3, 1, 0] rfl ?_
  refine itr_ind (P := fun s1 : (Int32 × Int32) => G p l e rmX6_setOf s m args below meth c D A 4 Q 0 0 4 [(0, .ref h), (1, .int x0), (2, .int s1.1), (3, .int s1.2)] [] [(h, .inr (6, [.ref h_s, .ref h_aside, .ref h_before, .ref h_past, .int i_h_known, .ref h_text, .int i_h_length, .ref h_lost, .int i_h_losts, .int i_h_bestOrder, .int i_h_bestMany, .int i_h_spot, .int i_h_begin, .int i_h_isForm, .int i_h_letter, .ref h_tells, .int i_h_faultReason, .int i_h_faultCause])), (h_s, .inl (cI, 703, .inl f_h_s))]) (fun s1 o8 h5 h6 h7 => ?_) FU _ h3
  unfold SX6_setOf_4 at h5
  refine G_iload_n X dX6_setOf_4 3 rfl ?_
  refine G_aload_n X dX6_setOf_5 0 rfl ?_
  refine G_get X (i0 := 0) (ci := 6) (j := 0) (C := RX6) (ref := RX6) (T := TX6) (N := 18) dX6_setOf_6 rfl rfl hiX6_setOf_X6 (by decide) flX6_setOf_7 rfl rfl ?_
  refine G_iconst X (v := 0) dX6_setOf_9 (by decide) ?_
  obtain ⟨v11, h12, h13⟩ := bnd h5
  refine G_iald X (i0 := 1) dX6_setOf_10 rfl h12 ?_
  refine G_icmp_ge X (tgt := 53) dX6_setOf_11 (by decide) (fun h14 => ?_) (fun h14 => ?_)
  · have h15 := ifp h14 h13
    cases h15
    have h16 := h7 _ rfl
    subst h16
    exact G_lv [2] rfl (J9)
  · have h17 := ifn h14 h13
    refine G_iload_n X dX6_setOf_14 2 rfl ?_
    refine G_iload_n X dX6_setOf_15 1 rfl ?_
    refine G_if_eq X (tgt := 30) dX6_setOf_16 (by decide) (fun h18 => ?_) (fun h18 => ?_)
    · have h19 := ifp h18 h17
      refine G_aload_n X dX6_setOf_30 0 rfl ?_
      refine G_iload_n X dX6_setOf_31 3 rfl ?_
      obtain ⟨v20, h21, h22⟩ := bnd h19
      refine G1_calli X (As := [.int s1.2]) (rest := [.int s1.1]) (wr := []) (ws' := [(h, .inr (6, [.ref h_s, .ref h_aside, .ref h_before, .ref h_past, .int i_h_known, .ref h_text, .int i_h_length, .ref h_lost, .int i_h_losts, .int i_h_bestOrder, .int i_h_bestMany, .int i_h_spot, .int i_h_begin, .int i_h_isForm, .int i_h_letter, .ref h_tells, .int i_h_faultReason, .int i_h_faultCause])), (h_s, .inl (cI, 703, .inl f_h_s))]) dX6_setOf_32 pkX6_lives gX6_setOf_X6_lives (kkX6_lives l D cI cR h h_s h_aside h_before h_past h_text h_lost h_tells i_h_known i_h_length i_h_losts i_h_bestOrder i_h_bestMany i_h_spot i_h_begin i_h_isForm i_h_letter i_h_faultReason i_h_faultCause f_h_s s1.2 v20 h21) ⟨rfl, rfl⟩ ⟨Nat.le_of_ble_eq_true rfl, Nat.le_of_ble_eq_true rfl⟩ rfl rfl (Nat.le_of_ble_eq_true rfl) 0 rfl rfl [0, 1] [] rfl rfl ⟨rfl, rfl, by decide⟩ ⟨Nat.zero_le _, Nat.zero_le _⟩ [0, 1] rfl rfl ?_
      refine G_if_eq X (tgt := 44) dX6_setOf_35 (by decide) (fun h23 => ?_) (fun h23 => ?_)
      · have h24 := ifp h23 h22
        refine G_iconst X (v := 0) dX6_setOf_44 (by decide) ?_
        refine G_ior X dX6_setOf_45 ?_
        refine G_istore_n X (lv' := [(2, .int (s1.1 ||| 0)), (0, .ref h), (1, .int x0), (3, .int s1.2)]) dX6_setOf_46 (by decide) rfl ?_
        refine G_iinc X (v := (s1.2 + 1)) (lv' := [(3, .int (s1.2 + 1)), (2, .int (s1.1 ||| 0)), (0, .ref h), (1, .int x0)]) dX6_setOf_47 3 rfl rfl (by decide) rfl ?_
        refine G_goto X (tgt := 4) dX6_setOf_50 (by decide) ?_
        cases h24
        exact G_lv [2, 3, 1, 0] rfl (h6 _ rfl)
      · have h25 := ifn h23 h22
        refine G_iconst X (v := 1) dX6_setOf_38 (by decide) ?_
        refine G_iload_n X dX6_setOf_39 3 rfl ?_
        refine G_ishl X dX6_setOf_40 ?_
        refine G_goto X (tgt := 45) dX6_setOf_41 (by decide) ?_
        refine G_ior X dX6_setOf_45 ?_
        refine G_istore_n X (lv' := [(2, .int (s1.1 ||| (1 <<< (s1.2 &&& 31)))), (0, .ref h), (1, .int x0), (3, .int s1.2)]) dX6_setOf_46 (by decide) rfl ?_
        refine G_iinc X (v := (s1.2 + 1)) (lv' := [(3, .int (s1.2 + 1)), (2, .int (s1.1 ||| (1 <<< (s1.2 &&& 31)))), (0, .ref h), (1, .int x0)]) dX6_setOf_47 3 rfl rfl (by decide) rfl ?_
        refine G_goto X (tgt := 4) dX6_setOf_50 (by decide) ?_
        cases h25
        exact G_lv [2, 3, 1, 0] rfl (h6 _ rfl)
    · have h26 := ifn h18 h17
      refine G_aload_n X dX6_setOf_19 0 rfl ?_
      refine G_iload_n X dX6_setOf_20 3 rfl ?_
      obtain ⟨v27, h28, h29⟩ := bnd h26
      refine G1_calli X (As := [.int s1.2]) (rest := [.int s1.1]) (wr := []) (ws' := [(h, .inr (6, [.ref h_s, .ref h_aside, .ref h_before, .ref h_past, .int i_h_known, .ref h_text, .int i_h_length, .ref h_lost, .int i_h_losts, .int i_h_bestOrder, .int i_h_bestMany, .int i_h_spot, .int i_h_begin, .int i_h_isForm, .int i_h_letter, .ref h_tells, .int i_h_faultReason, .int i_h_faultCause])), (h_s, .inl (cI, 703, .inl f_h_s))]) dX6_setOf_21 pkX6_isSafe gX6_setOf_X6_isSafe (kkX6_isSafe l D cI cR h h_s h_aside h_before h_past h_text h_lost h_tells i_h_known i_h_length i_h_losts i_h_bestOrder i_h_bestMany i_h_spot i_h_begin i_h_isForm i_h_letter i_h_faultReason i_h_faultCause f_h_s s1.2 v27 h28) ⟨rfl, rfl⟩ ⟨Nat.le_of_ble_eq_true rfl, Nat.le_of_ble_eq_true rfl⟩ rfl rfl (Nat.le_of_ble_eq_true rfl) 0 rfl rfl [0, 1] [] rfl rfl ⟨rfl, rfl, by decide⟩ ⟨Nat.zero_le _, Nat.zero_le _⟩ [0, 1] rfl rfl ?_
      refine G_if_eq X (tgt := 44) dX6_setOf_24 (by decide) (fun h30 => ?_) (fun h30 => ?_)
      · have h31 := ifp h30 h29
        refine G_iconst X (v := 0) dX6_setOf_44 (by decide) ?_
        refine G_ior X dX6_setOf_45 ?_
        refine G_istore_n X (lv' := [(2, .int (s1.1 ||| 0)), (0, .ref h), (1, .int x0), (3, .int s1.2)]) dX6_setOf_46 (by decide) rfl ?_
        refine G_iinc X (v := (s1.2 + 1)) (lv' := [(3, .int (s1.2 + 1)), (2, .int (s1.1 ||| 0)), (0, .ref h), (1, .int x0)]) dX6_setOf_47 3 rfl rfl (by decide) rfl ?_
        refine G_goto X (tgt := 4) dX6_setOf_50 (by decide) ?_
        cases h31
        exact G_lv [2, 3, 1, 0] rfl (h6 _ rfl)
      · have h32 := ifn h30 h29
        refine G_goto X (tgt := 38) dX6_setOf_27 (by decide) ?_
        refine G_iconst X (v := 1) dX6_setOf_38 (by decide) ?_
        refine G_iload_n X dX6_setOf_39 3 rfl ?_
        refine G_ishl X dX6_setOf_40 ?_
        refine G_goto X (tgt := 45) dX6_setOf_41 (by decide) ?_
        refine G_ior X dX6_setOf_45 ?_
        refine G_istore_n X (lv' := [(2, .int (s1.1 ||| (1 <<< (s1.2 &&& 31)))), (0, .ref h), (1, .int x0), (3, .int s1.2)]) dX6_setOf_46 (by decide) rfl ?_
        refine G_iinc X (v := (s1.2 + 1)) (lv' := [(3, .int (s1.2 + 1)), (2, .int (s1.1 ||| (1 <<< (s1.2 &&& 31)))), (0, .ref h), (1, .int x0)]) dX6_setOf_47 3 rfl rfl (by decide) rfl ?_
        refine G_goto X (tgt := 4) dX6_setOf_50 (by decide) ?_
        cases h32
        exact G_lv [2, 3, 1, 0] rfl (h6 _ rfl)
def rmX6_cellsOf : Room := { frames := 2, cells := 0, slots := 0, locals := 45 }
theorem pkX6_cellsOf : cK yX6_cellsOf wsX6_cellsOf cX6_cellsOf 4 (some .int) 1 RX6 := ⟨⟨_, rfl⟩, by decide +kernel⟩
theorem hiX6_cellsOf_X6 : ∀ w ∈ wsX60, w ∈ wsX6_cellsOf := by decide +kernel
theorem flX6_cellsOf_7 : Cond.fieldLink RX6 7 "EchoMarginsModel" "s" "[I" ∈ wsX6_cellsOf := by decide +kernel
set_option maxHeartbeats 4000000 in
set_option maxRecDepth 100000 in
theorem kkX6_cellsOf (l : Launch) (D : va_G) (cI cR : ClassId) (h h_s h_aside h_before h_past h_text h_lost h_tells : Nat) (i_h_known : Int32) (i_h_length : Int32) (i_h_losts : Int32) (i_h_bestOrder : Int32) (i_h_bestMany : Int32) (i_h_spot : Int32) (i_h_begin : Int32) (i_h_isForm : Int32) (i_h_letter : Int32) (i_h_faultReason : Int32) (i_h_faultCause : Int32) (f_h_s : Nat → Int32) (x0 : Int32) (z : Int32) (hz : MX6_cellsOf f_h_s x0 = some z) : cI1 l yX6_cellsOf wsX6_cellsOf rmX6_cellsOf D cI cR [.ref h, .int x0] [(h, .inr (6, [.ref h_s, .ref h_aside, .ref h_before, .ref h_past, .int i_h_known, .ref h_text, .int i_h_length, .ref h_lost, .int i_h_losts, .int i_h_bestOrder, .int i_h_bestMany, .int i_h_spot, .int i_h_begin, .int i_h_isForm, .int i_h_letter, .ref h_tells, .int i_h_faultReason, .int i_h_faultCause])), (h_s, .inl (cI, 703, .inl f_h_s))] z [(h, .inr (6, [.ref h_s, .ref h_aside, .ref h_before, .ref h_past, .int i_h_known, .ref h_text, .int i_h_length, .ref h_lost, .int i_h_losts, .int i_h_bestOrder, .int i_h_bestMany, .int i_h_spot, .int i_h_begin, .int i_h_isForm, .int i_h_letter, .ref h_tells, .int i_h_faultReason, .int i_h_faultCause])), (h_s, .inl (cI, 703, .inl f_h_s))] := by
  unfold MX6_cellsOf at hz
  refine kI_of (cc := cX6_cellsOf) (maxL := 4) (own := RX6) (by decide +kernel) rfl rfl (Nat.le_of_ble_eq_true rfl) (lv0 := [(0, .ref h), (1, .int x0)]) rfl (fun p e s m args below meth c A Q X rt => ?_)
  refine G_iconst X (v := 0) dX6_cellsOf_0 (by decide) ?_
  refine G_istore_n X (lv' := [(2, .int 0), (0, .ref h), (1, .int x0)]) dX6_cellsOf_1 (by decide) rfl ?_
  refine G_iconst X (v := 0) dX6_cellsOf_2 (by decide) ?_
  refine G_istore_n X (lv' := [(3, .int 0), (2, .int 0), (0, .ref h), (1, .int x0)]) dX6_cellsOf_3 (by decide) rfl ?_
  obtain ⟨j2, h3, h4⟩ := bnd hz
  have J9 : G p l e rmX6_cellsOf s m args below meth c D A 4 Q 0 0 52 [(2, .int j2)] [] [(h, .inr (6, [.ref h_s, .ref h_aside, .ref h_before, .ref h_past, .int i_h_known, .ref h_text, .int i_h_length, .ref h_lost, .int i_h_losts, .int i_h_bestOrder, .int i_h_bestMany, .int i_h_spot, .int i_h_begin, .int i_h_isForm, .int i_h_letter, .ref h_tells, .int i_h_faultReason, .int i_h_faultCause])), (h_s, .inl (cI, 703, .inl f_h_s))] := by
    refine G_iload_n X dX6_cellsOf_52 0 rfl ?_
    cases h4
    exact rt _ _ _ _ dX6_cellsOf_53 ⟨rfl, rfl⟩
  refine G_lv [2, 3, 1, 0] rfl ?_
  refine itr_ind (P := fun s1 : (Int32 × Int32) => G p l e rmX6_cellsOf s m args below meth c D A 4 Q 0 0 4 [(0, .ref h), (1, .int x0), (2, .int s1.1), (3, .int s1.2)] [] [(h, .inr (6, [.ref h_s, .ref h_aside, .ref h_before, .ref h_past, .int i_h_known, .ref h_text, .int i_h_length, .ref h_lost, .int i_h_losts, .int i_h_bestOrder, .int i_h_bestMany, .int i_h_spot, .int i_h_begin, .int i_h_isForm, .int i_h_letter, .ref h_tells, .int i_h_faultReason, .int i_h_faultCause])), (h_s, .inl (cI, 703, .inl f_h_s))]) (fun s1 o8 h5 h6 h7 => ?_) FU _ h3
  unfold SX6_cellsOf_4 at h5
  refine G_iload_n X dX6_cellsOf_4 3 rfl ?_
  refine G_aload_n X dX6_cellsOf_5 0 rfl ?_
  refine G_get X (i0 := 0) (ci := 6) (j := 0) (C := RX6) (ref := RX6) (T := TX6) (N := 18) dX6_cellsOf_6 rfl rfl hiX6_cellsOf_X6 (by decide) flX6_cellsOf_7 rfl rfl ?_
  refine G_iconst X (v := 0) dX6_cellsOf_9 (by decide) ?_
  obtain ⟨v11, h12, h13⟩ := bnd h5
  refine G_iald X (i0 := 1) dX6_cellsOf_10 rfl h12 ?_
  refine G_icmp_ge X (tgt := 52) dX6_cellsOf_11 (by decide) (fun h14 => ?_) (fun h14 => ?_)
  · have h15 := ifp h14 h13
    cases h15
    have h16 := h7 _ rfl
    subst h16
    exact G_lv [2] rfl (J9)
  · have h17 := ifn h14 h13
    refine G_iload_n X dX6_cellsOf_14 2 rfl ?_
    refine G_aload_n X dX6_cellsOf_15 0 rfl ?_
    refine G_iload_n X dX6_cellsOf_16 3 rfl ?_
    obtain ⟨v18, h19, h20⟩ := bnd h17
    refine G1_calli X (As := [.int s1.2]) (rest := [.int s1.1]) (wr := []) (ws' := [(h, .inr (6, [.ref h_s, .ref h_aside, .ref h_before, .ref h_past, .int i_h_known, .ref h_text, .int i_h_length, .ref h_lost, .int i_h_losts, .int i_h_bestOrder, .int i_h_bestMany, .int i_h_spot, .int i_h_begin, .int i_h_isForm, .int i_h_letter, .ref h_tells, .int i_h_faultReason, .int i_h_faultCause])), (h_s, .inl (cI, 703, .inl f_h_s))]) dX6_cellsOf_17 pkX6_lives gX6_cellsOf_X6_lives (kkX6_lives l D cI cR h h_s h_aside h_before h_past h_text h_lost h_tells i_h_known i_h_length i_h_losts i_h_bestOrder i_h_bestMany i_h_spot i_h_begin i_h_isForm i_h_letter i_h_faultReason i_h_faultCause f_h_s s1.2 v18 h19) ⟨rfl, rfl⟩ ⟨Nat.le_of_ble_eq_true rfl, Nat.le_of_ble_eq_true rfl⟩ rfl rfl (Nat.le_of_ble_eq_true rfl) 0 rfl rfl [0, 1] [] rfl rfl ⟨rfl, rfl, by decide⟩ ⟨Nat.zero_le _, Nat.zero_le _⟩ [0, 1] rfl rfl ?_
    refine G_if_ne X (tgt := 27) dX6_cellsOf_20 (by decide) (fun h21 => ?_) (fun h21 => ?_)
    · have h22 := ifp h21 h20
      refine G_iconst X (v := 0) dX6_cellsOf_23 (by decide) ?_
      refine G_goto X (tgt := 44) dX6_cellsOf_24 (by decide) ?_
      refine G_iadd X dX6_cellsOf_44 ?_
      refine G_istore_n X (lv' := [(2, .int (s1.1 + 0)), (0, .ref h), (1, .int x0), (3, .int s1.2)]) dX6_cellsOf_45 (by decide) rfl ?_
      refine G_iinc X (v := (s1.2 + 1)) (lv' := [(3, .int (s1.2 + 1)), (2, .int (s1.1 + 0)), (0, .ref h), (1, .int x0)]) dX6_cellsOf_46 3 rfl rfl (by decide) rfl ?_
      refine G_goto X (tgt := 4) dX6_cellsOf_49 (by decide) ?_
      cases h22
      exact G_lv [2, 3, 1, 0] rfl (h6 _ rfl)
    · have h23 := ifn h21 h20
      refine G_iload_n X dX6_cellsOf_27 1 rfl ?_
      refine G_if_eq X (tgt := 39) dX6_cellsOf_28 (by decide) (fun h24 => ?_) (fun h24 => ?_)
      · have h25 := ifp h24 h23
        refine G_aload_n X dX6_cellsOf_39 0 rfl ?_
        refine G_iload_n X dX6_cellsOf_40 3 rfl ?_
        obtain ⟨v26, h27, h28⟩ := bnd h25
        refine G1_calli X (As := [.int s1.2]) (rest := [.int s1.1]) (wr := []) (ws' := [(h, .inr (6, [.ref h_s, .ref h_aside, .ref h_before, .ref h_past, .int i_h_known, .ref h_text, .int i_h_length, .ref h_lost, .int i_h_losts, .int i_h_bestOrder, .int i_h_bestMany, .int i_h_spot, .int i_h_begin, .int i_h_isForm, .int i_h_letter, .ref h_tells, .int i_h_faultReason, .int i_h_faultCause])), (h_s, .inl (cI, 703, .inl f_h_s))]) dX6_cellsOf_41 pkX6_unknown gX6_cellsOf_X6_unknown (kkX6_unknown l D cI cR h h_s h_aside h_before h_past h_text h_lost h_tells i_h_known i_h_length i_h_losts i_h_bestOrder i_h_bestMany i_h_spot i_h_begin i_h_isForm i_h_letter i_h_faultReason i_h_faultCause f_h_s s1.2 v26 h27) ⟨rfl, rfl⟩ ⟨Nat.le_of_ble_eq_true rfl, Nat.le_of_ble_eq_true rfl⟩ rfl rfl (Nat.le_of_ble_eq_true rfl) 0 rfl rfl [0, 1] [] rfl rfl ⟨rfl, rfl, by decide⟩ ⟨Nat.zero_le _, Nat.zero_le _⟩ [0, 1] rfl rfl ?_
        refine G_iadd X dX6_cellsOf_44 ?_
        refine G_istore_n X (lv' := [(2, .int (s1.1 + v26)), (0, .ref h), (1, .int x0), (3, .int s1.2)]) dX6_cellsOf_45 (by decide) rfl ?_
        refine G_iinc X (v := (s1.2 + 1)) (lv' := [(3, .int (s1.2 + 1)), (2, .int (s1.1 + v26)), (0, .ref h), (1, .int x0)]) dX6_cellsOf_46 3 rfl rfl (by decide) rfl ?_
        refine G_goto X (tgt := 4) dX6_cellsOf_49 (by decide) ?_
        cases h28
        exact G_lv [2, 3, 1, 0] rfl (h6 _ rfl)
      · have h29 := ifn h24 h23
        refine G_aload_n X dX6_cellsOf_31 0 rfl ?_
        refine G_iload_n X dX6_cellsOf_32 3 rfl ?_
        obtain ⟨v30, h31, h32⟩ := bnd h29
        refine G1_calli X (As := [.int s1.2]) (rest := [.int s1.1]) (wr := []) (ws' := [(h, .inr (6, [.ref h_s, .ref h_aside, .ref h_before, .ref h_past, .int i_h_known, .ref h_text, .int i_h_length, .ref h_lost, .int i_h_losts, .int i_h_bestOrder, .int i_h_bestMany, .int i_h_spot, .int i_h_begin, .int i_h_isForm, .int i_h_letter, .ref h_tells, .int i_h_faultReason, .int i_h_faultCause])), (h_s, .inl (cI, 703, .inl f_h_s))]) dX6_cellsOf_33 pkX6_wrongCells gX6_cellsOf_X6_wrongCells (kkX6_wrongCells l D cI cR h h_s h_aside h_before h_past h_text h_lost h_tells i_h_known i_h_length i_h_losts i_h_bestOrder i_h_bestMany i_h_spot i_h_begin i_h_isForm i_h_letter i_h_faultReason i_h_faultCause f_h_s s1.2 v30 h31) ⟨rfl, rfl⟩ ⟨Nat.le_of_ble_eq_true rfl, Nat.le_of_ble_eq_true rfl⟩ rfl rfl (Nat.le_of_ble_eq_true rfl) 0 rfl rfl [0, 1] [] rfl rfl ⟨rfl, rfl, by decide⟩ ⟨Nat.zero_le _, Nat.zero_le _⟩ [0, 1] rfl rfl ?_
        refine G_goto X (tgt := 44) dX6_cellsOf_36 (by decide) ?_
        refine G_iadd X dX6_cellsOf_44 ?_
        refine G_istore_n X (lv' := [(2, .int (s1.1 + v30)), (0, .ref h), (1, .int x0), (3, .int s1.2)]) dX6_cellsOf_45 (by decide) rfl ?_
        refine G_iinc X (v := (s1.2 + 1)) (lv' := [(3, .int (s1.2 + 1)), (2, .int (s1.1 + v30)), (0, .ref h), (1, .int x0)]) dX6_cellsOf_46 3 rfl rfl (by decide) rfl ?_
        refine G_goto X (tgt := 4) dX6_cellsOf_49 (by decide) ?_
        cases h32
        exact G_lv [2, 3, 1, 0] rfl (h6 _ rfl)
def rmX6_count : Room := { frames := 9, cells := 0, slots := 0, locals := 204 }
theorem pkX6_count : cK yX6_count wsX6_count cX6_count 2 (some .int) 1 RX6 := ⟨⟨_, rfl⟩, by decide +kernel⟩
theorem hiX6_count_X6 : ∀ w ∈ wsX60, w ∈ wsX6_count := by decide +kernel
theorem flX6_count_7 : Cond.fieldLink RX6 7 "EchoMarginsModel" "s" "[I" ∈ wsX6_count := by decide +kernel
theorem flX6_count_114 : Cond.constant RX6 114 (-1000001) ∈ wsX6_count := by decide +kernel
theorem flX6_count_35 : Cond.fieldLink RX6 35 "EchoMarginsModel" "known" "I" ∈ wsX6_count := by decide +kernel
theorem flX6_count_213 : Cond.fieldLink RX6 213 "EchoMarginsModel" "length" "I" ∈ wsX6_count := by decide +kernel
set_option maxHeartbeats 4000000 in
set_option maxRecDepth 100000 in
theorem kkX6_count (l : Launch) (D : va_G) (cI cR : ClassId) (h h_s h_aside h_before h_past h_text h_lost h_tells : Nat) (i_h_known : Int32) (i_h_length : Int32) (i_h_losts : Int32) (i_h_bestOrder : Int32) (i_h_bestMany : Int32) (i_h_spot : Int32) (i_h_begin : Int32) (i_h_isForm : Int32) (i_h_letter : Int32) (i_h_faultReason : Int32) (i_h_faultCause : Int32) (f_h_s : Nat → Int32) (x0 : Int32) (z : Int32) (hz : MX6_count i_h_known i_h_length f_h_s x0 = some z) : cI1 l yX6_count wsX6_count rmX6_count D cI cR [.ref h, .int x0] [(h, .inr (6, [.ref h_s, .ref h_aside, .ref h_before, .ref h_past, .int i_h_known, .ref h_text, .int i_h_length, .ref h_lost, .int i_h_losts, .int i_h_bestOrder, .int i_h_bestMany, .int i_h_spot, .int i_h_begin, .int i_h_isForm, .int i_h_letter, .ref h_tells, .int i_h_faultReason, .int i_h_faultCause])), (h_s, .inl (cI, 703, .inl f_h_s))] z [(h, .inr (6, [.ref h_s, .ref h_aside, .ref h_before, .ref h_past, .int i_h_known, .ref h_text, .int i_h_length, .ref h_lost, .int i_h_losts, .int i_h_bestOrder, .int i_h_bestMany, .int i_h_spot, .int i_h_begin, .int i_h_isForm, .int i_h_letter, .ref h_tells, .int i_h_faultReason, .int i_h_faultCause])), (h_s, .inl (cI, 703, .inl f_h_s))] := by
  unfold MX6_count at hz
  refine kI_of (cc := cX6_count) (maxL := 2) (own := RX6) (by decide +kernel) rfl rfl (Nat.le_of_ble_eq_true rfl) (lv0 := [(0, .ref h), (1, .int x0)]) rfl (fun p e s m args below meth c A Q X rt => ?_)
  refine G_iload_n X dX6_count_0 1 rfl ?_
  refine G_bipush X (v := 8) dX6_count_1 (by decide) ?_
  refine G_bipush X (v := 13) dX6_count_3 (by decide) ?_
  obtain ⟨v1, h2, h3⟩ := bnd hz
  refine G1_callsi X (As := [.int x0, .int 8, .int 13]) (rest := []) (wr := [(h, .inr (6, [.ref h_s, .ref h_aside, .ref h_before, .ref h_past, .int i_h_known, .ref h_text, .int i_h_length, .ref h_lost, .int i_h_losts, .int i_h_bestOrder, .int i_h_bestMany, .int i_h_spot, .int i_h_begin, .int i_h_isForm, .int i_h_letter, .ref h_tells, .int i_h_faultReason, .int i_h_faultCause])), (h_s, .inl (cI, 703, .inl f_h_s))]) (ws' := [(h, .inr (6, [.ref h_s, .ref h_aside, .ref h_before, .ref h_past, .int i_h_known, .ref h_text, .int i_h_length, .ref h_lost, .int i_h_losts, .int i_h_bestOrder, .int i_h_bestMany, .int i_h_spot, .int i_h_begin, .int i_h_isForm, .int i_h_letter, .ref h_tells, .int i_h_faultReason, .int i_h_faultCause])), (h_s, .inl (cI, 703, .inl f_h_s))]) dX6_count_5 pkX6_in gX6_count_X6_in (kkX6_in l D cI cR x0 8 13 v1 h2) ⟨rfl, rfl⟩ ⟨Nat.le_of_ble_eq_true rfl, Nat.le_of_ble_eq_true rfl⟩ rfl rfl (Nat.le_of_ble_eq_true rfl) [] [0, 1] rfl rfl ⟨rfl, rfl, by decide⟩ ⟨Nat.zero_le _, Nat.zero_le _⟩ [0, 1] rfl rfl ?_
  refine G_if_eq X (tgt := 23) dX6_count_8 (by decide) (fun h4 => ?_) (fun h4 => ?_)
  · have h5 := ifp h4 h3
    refine G_iload_n X dX6_count_23 1 rfl ?_
    by_cases h6 : x0 = 0
    · have h7 := ifp h6 h5
      refine G_tableIn X (off := 104) (tgt := 128) dX6_count_24 (by rw [h6]; decide) (by rw [h6]; decide) (by rw [h6]; rfl) (by decide) ?_
      refine G_aload_n X dX6_count_128 0 rfl ?_
      refine G_get X (i0 := 0) (ci := 6) (j := 0) (C := RX6) (ref := RX6) (T := TX6) (N := 18) dX6_count_129 rfl rfl hiX6_count_X6 (by decide) flX6_count_7 rfl rfl ?_
      refine G_iload_n X dX6_count_132 1 rfl ?_
      obtain ⟨v9, h10, h11⟩ := bnd h7
      refine G_iald X (i0 := 1) dX6_count_133 rfl h10 ?_
      cases h11
      exact rt _ _ _ _ dX6_count_134 ⟨rfl, rfl⟩
    · have h8 := ifn h6 h5
      by_cases h12 : x0 = 1
      · have h13 := ifp h12 h8
        refine G_tableIn X (off := 104) (tgt := 128) dX6_count_24 (by rw [h12]; decide) (by rw [h12]; decide) (by rw [h12]; rfl) (by decide) ?_
        refine G_aload_n X dX6_count_128 0 rfl ?_
        refine G_get X (i0 := 0) (ci := 6) (j := 0) (C := RX6) (ref := RX6) (T := TX6) (N := 18) dX6_count_129 rfl rfl hiX6_count_X6 (by decide) flX6_count_7 rfl rfl ?_
        refine G_iload_n X dX6_count_132 1 rfl ?_
        obtain ⟨v15, h16, h17⟩ := bnd h13
        refine G_iald X (i0 := 1) dX6_count_133 rfl h16 ?_
        cases h17
        exact rt _ _ _ _ dX6_count_134 ⟨rfl, rfl⟩
      · have h14 := ifn h12 h8
        by_cases h18 : x0 = 2
        · have h19 := ifp h18 h14
          refine G_tableIn X (off := 111) (tgt := 135) dX6_count_24 (by rw [h18]; decide) (by rw [h18]; decide) (by rw [h18]; rfl) (by decide) ?_
          refine G_aload_n X dX6_count_135 0 rfl ?_
          refine G_iload_n X dX6_count_136 1 rfl ?_
          refine G_iconst X (v := 3) dX6_count_137 (by decide) ?_
          obtain ⟨j21, h22, h23⟩ := bnd h19
          have J24 : G p l e rmX6_count s m args below meth c D A 2 Q 0 0 146 [] [.int j21, .ref h] [(h, .inr (6, [.ref h_s, .ref h_aside, .ref h_before, .ref h_past, .int i_h_known, .ref h_text, .int i_h_length, .ref h_lost, .int i_h_losts, .int i_h_bestOrder, .int i_h_bestMany, .int i_h_spot, .int i_h_begin, .int i_h_isForm, .int i_h_letter, .ref h_tells, .int i_h_faultReason, .int i_h_faultCause])), (h_s, .inl (cI, 703, .inl f_h_s))] := by
            obtain ⟨v25, h26, h27⟩ := bnd h23
            refine G1_calli X (As := [.int j21]) (rest := []) (wr := []) (ws' := [(h, .inr (6, [.ref h_s, .ref h_aside, .ref h_before, .ref h_past, .int i_h_known, .ref h_text, .int i_h_length, .ref h_lost, .int i_h_losts, .int i_h_bestOrder, .int i_h_bestMany, .int i_h_spot, .int i_h_begin, .int i_h_isForm, .int i_h_letter, .ref h_tells, .int i_h_faultReason, .int i_h_faultCause])), (h_s, .inl (cI, 703, .inl f_h_s))]) dX6_count_146 pkX6_setOf gX6_count_X6_setOf (kkX6_setOf l D cI cR h h_s h_aside h_before h_past h_text h_lost h_tells i_h_known i_h_length i_h_losts i_h_bestOrder i_h_bestMany i_h_spot i_h_begin i_h_isForm i_h_letter i_h_faultReason i_h_faultCause f_h_s j21 v25 h26) ⟨rfl, rfl⟩ ⟨Nat.le_of_ble_eq_true rfl, Nat.le_of_ble_eq_true rfl⟩ rfl rfl (Nat.le_of_ble_eq_true rfl) 0 rfl rfl [0, 1] [] rfl rfl ⟨rfl, rfl, by decide⟩ ⟨Nat.zero_le _, Nat.zero_le _⟩ [0, 1] rfl rfl ?_
            cases h27
            exact rt _ _ _ _ dX6_count_149 ⟨rfl, rfl⟩
          refine G_icmp_ne X (tgt := 145) dX6_count_138 (by decide) (fun h28 => ?_) (fun h28 => ?_)
          · have h29 := ifp h28 h22
            refine G_iconst X (v := 1) dX6_count_141 (by decide) ?_
            refine G_goto X (tgt := 146) dX6_count_142 (by decide) ?_
            cases h29
            exact G_lv [] rfl (J24)
          · have h30 := ifn h28 h22
            refine G_iconst X (v := 0) dX6_count_145 (by decide) ?_
            cases h30
            exact G_lv [] rfl (J24)
        · have h20 := ifn h18 h14
          by_cases h31 : x0 = 3
          · have h32 := ifp h31 h20
            refine G_tableIn X (off := 111) (tgt := 135) dX6_count_24 (by rw [h31]; decide) (by rw [h31]; decide) (by rw [h31]; rfl) (by decide) ?_
            refine G_aload_n X dX6_count_135 0 rfl ?_
            refine G_iload_n X dX6_count_136 1 rfl ?_
            refine G_iconst X (v := 3) dX6_count_137 (by decide) ?_
            obtain ⟨j34, h35, h36⟩ := bnd h32
            have J37 : G p l e rmX6_count s m args below meth c D A 2 Q 0 0 146 [] [.int j34, .ref h] [(h, .inr (6, [.ref h_s, .ref h_aside, .ref h_before, .ref h_past, .int i_h_known, .ref h_text, .int i_h_length, .ref h_lost, .int i_h_losts, .int i_h_bestOrder, .int i_h_bestMany, .int i_h_spot, .int i_h_begin, .int i_h_isForm, .int i_h_letter, .ref h_tells, .int i_h_faultReason, .int i_h_faultCause])), (h_s, .inl (cI, 703, .inl f_h_s))] := by
              obtain ⟨v38, h39, h40⟩ := bnd h36
              refine G1_calli X (As := [.int j34]) (rest := []) (wr := []) (ws' := [(h, .inr (6, [.ref h_s, .ref h_aside, .ref h_before, .ref h_past, .int i_h_known, .ref h_text, .int i_h_length, .ref h_lost, .int i_h_losts, .int i_h_bestOrder, .int i_h_bestMany, .int i_h_spot, .int i_h_begin, .int i_h_isForm, .int i_h_letter, .ref h_tells, .int i_h_faultReason, .int i_h_faultCause])), (h_s, .inl (cI, 703, .inl f_h_s))]) dX6_count_146 pkX6_setOf gX6_count_X6_setOf (kkX6_setOf l D cI cR h h_s h_aside h_before h_past h_text h_lost h_tells i_h_known i_h_length i_h_losts i_h_bestOrder i_h_bestMany i_h_spot i_h_begin i_h_isForm i_h_letter i_h_faultReason i_h_faultCause f_h_s j34 v38 h39) ⟨rfl, rfl⟩ ⟨Nat.le_of_ble_eq_true rfl, Nat.le_of_ble_eq_true rfl⟩ rfl rfl (Nat.le_of_ble_eq_true rfl) 0 rfl rfl [0, 1] [] rfl rfl ⟨rfl, rfl, by decide⟩ ⟨Nat.zero_le _, Nat.zero_le _⟩ [0, 1] rfl rfl ?_
              cases h40
              exact rt _ _ _ _ dX6_count_149 ⟨rfl, rfl⟩
            refine G_icmp_ne X (tgt := 145) dX6_count_138 (by decide) (fun h41 => ?_) (fun h41 => ?_)
            · have h42 := ifp h41 h35
              refine G_iconst X (v := 1) dX6_count_141 (by decide) ?_
              refine G_goto X (tgt := 146) dX6_count_142 (by decide) ?_
              cases h42
              exact G_lv [] rfl (J37)
            · have h43 := ifn h41 h35
              refine G_iconst X (v := 0) dX6_count_145 (by decide) ?_
              cases h43
              exact G_lv [] rfl (J37)
          · have h33 := ifn h31 h20
            by_cases h44 : x0 = 4
            · have h45 := ifp h44 h33
              refine G_tableIn X (off := 126) (tgt := 150) dX6_count_24 (by rw [h44]; decide) (by rw [h44]; decide) (by rw [h44]; rfl) (by decide) ?_
              refine G_aload_n X dX6_count_150 0 rfl ?_
              obtain ⟨v47, h48, h49⟩ := bnd h45
              refine G1_calli X (As := []) (rest := []) (wr := []) (ws' := [(h, .inr (6, [.ref h_s, .ref h_aside, .ref h_before, .ref h_past, .int i_h_known, .ref h_text, .int i_h_length, .ref h_lost, .int i_h_losts, .int i_h_bestOrder, .int i_h_bestMany, .int i_h_spot, .int i_h_begin, .int i_h_isForm, .int i_h_letter, .ref h_tells, .int i_h_faultReason, .int i_h_faultCause])), (h_s, .inl (cI, 703, .inl f_h_s))]) dX6_count_151 pkX6_echoes gX6_count_X6_echoes (kkX6_echoes l D cI cR h h_s h_aside h_before h_past h_text h_lost h_tells i_h_known i_h_length i_h_losts i_h_bestOrder i_h_bestMany i_h_spot i_h_begin i_h_isForm i_h_letter i_h_faultReason i_h_faultCause f_h_s v47 h48) ⟨rfl, rfl⟩ ⟨Nat.le_of_ble_eq_true rfl, Nat.le_of_ble_eq_true rfl⟩ rfl rfl (Nat.le_of_ble_eq_true rfl) 0 rfl rfl [0, 1] [] rfl rfl ⟨rfl, rfl, by decide⟩ ⟨Nat.zero_le _, Nat.zero_le _⟩ [0, 1] rfl rfl ?_
              cases h49
              exact rt _ _ _ _ dX6_count_154 ⟨rfl, rfl⟩
            · have h46 := ifn h44 h33
              by_cases h50 : x0 = 5
              · have h51 := ifp h50 h46
                refine G_tableIn X (off := 131) (tgt := 155) dX6_count_24 (by rw [h50]; decide) (by rw [h50]; decide) (by rw [h50]; rfl) (by decide) ?_
                refine G_aload_n X dX6_count_155 0 rfl ?_
                obtain ⟨v53, h54, h55⟩ := bnd h51
                refine G1_calli X (As := []) (rest := []) (wr := []) (ws' := [(h, .inr (6, [.ref h_s, .ref h_aside, .ref h_before, .ref h_past, .int i_h_known, .ref h_text, .int i_h_length, .ref h_lost, .int i_h_losts, .int i_h_bestOrder, .int i_h_bestMany, .int i_h_spot, .int i_h_begin, .int i_h_isForm, .int i_h_letter, .ref h_tells, .int i_h_faultReason, .int i_h_faultCause])), (h_s, .inl (cI, 703, .inl f_h_s))]) dX6_count_156 pkX6_faded gX6_count_X6_faded (kkX6_faded l D cI cR h h_s h_aside h_before h_past h_text h_lost h_tells i_h_known i_h_length i_h_losts i_h_bestOrder i_h_bestMany i_h_spot i_h_begin i_h_isForm i_h_letter i_h_faultReason i_h_faultCause f_h_s v53 h54) ⟨rfl, rfl⟩ ⟨Nat.le_of_ble_eq_true rfl, Nat.le_of_ble_eq_true rfl⟩ rfl rfl (Nat.le_of_ble_eq_true rfl) 0 rfl rfl [0, 1] [] rfl rfl ⟨rfl, rfl, by decide⟩ ⟨Nat.zero_le _, Nat.zero_le _⟩ [0, 1] rfl rfl ?_
                cases h55
                exact rt _ _ _ _ dX6_count_159 ⟨rfl, rfl⟩
              · have h52 := ifn h50 h46
                by_cases h56 : x0 = 6
                · have h57 := ifp h56 h52
                  refine G_tableIn X (off := 136) (tgt := 160) dX6_count_24 (by rw [h56]; decide) (by rw [h56]; decide) (by rw [h56]; rfl) (by decide) ?_
                  refine G_aload_n X dX6_count_160 0 rfl ?_
                  refine G_iload_n X dX6_count_161 1 rfl ?_
                  refine G_bipush X (v := 7) dX6_count_162 (by decide) ?_
                  obtain ⟨j59, h60, h61⟩ := bnd h57
                  have J62 : G p l e rmX6_count s m args below meth c D A 2 Q 0 0 172 [] [.int j59, .ref h] [(h, .inr (6, [.ref h_s, .ref h_aside, .ref h_before, .ref h_past, .int i_h_known, .ref h_text, .int i_h_length, .ref h_lost, .int i_h_losts, .int i_h_bestOrder, .int i_h_bestMany, .int i_h_spot, .int i_h_begin, .int i_h_isForm, .int i_h_letter, .ref h_tells, .int i_h_faultReason, .int i_h_faultCause])), (h_s, .inl (cI, 703, .inl f_h_s))] := by
                    obtain ⟨v63, h64, h65⟩ := bnd h61
                    refine G1_calli X (As := [.int j59]) (rest := []) (wr := []) (ws' := [(h, .inr (6, [.ref h_s, .ref h_aside, .ref h_before, .ref h_past, .int i_h_known, .ref h_text, .int i_h_length, .ref h_lost, .int i_h_losts, .int i_h_bestOrder, .int i_h_bestMany, .int i_h_spot, .int i_h_begin, .int i_h_isForm, .int i_h_letter, .ref h_tells, .int i_h_faultReason, .int i_h_faultCause])), (h_s, .inl (cI, 703, .inl f_h_s))]) dX6_count_172 pkX6_cellsOf gX6_count_X6_cellsOf (kkX6_cellsOf l D cI cR h h_s h_aside h_before h_past h_text h_lost h_tells i_h_known i_h_length i_h_losts i_h_bestOrder i_h_bestMany i_h_spot i_h_begin i_h_isForm i_h_letter i_h_faultReason i_h_faultCause f_h_s j59 v63 h64) ⟨rfl, rfl⟩ ⟨Nat.le_of_ble_eq_true rfl, Nat.le_of_ble_eq_true rfl⟩ rfl rfl (Nat.le_of_ble_eq_true rfl) 0 rfl rfl [0, 1] [] rfl rfl ⟨rfl, rfl, by decide⟩ ⟨Nat.zero_le _, Nat.zero_le _⟩ [0, 1] rfl rfl ?_
                    cases h65
                    exact rt _ _ _ _ dX6_count_175 ⟨rfl, rfl⟩
                  refine G_icmp_ne X (tgt := 171) dX6_count_164 (by decide) (fun h66 => ?_) (fun h66 => ?_)
                  · have h67 := ifp h66 h60
                    refine G_iconst X (v := 1) dX6_count_167 (by decide) ?_
                    refine G_goto X (tgt := 172) dX6_count_168 (by decide) ?_
                    cases h67
                    exact G_lv [] rfl (J62)
                  · have h68 := ifn h66 h60
                    refine G_iconst X (v := 0) dX6_count_171 (by decide) ?_
                    cases h68
                    exact G_lv [] rfl (J62)
                · have h58 := ifn h56 h52
                  by_cases h69 : x0 = 7
                  · have h70 := ifp h69 h58
                    refine G_tableIn X (off := 136) (tgt := 160) dX6_count_24 (by rw [h69]; decide) (by rw [h69]; decide) (by rw [h69]; rfl) (by decide) ?_
                    refine G_aload_n X dX6_count_160 0 rfl ?_
                    refine G_iload_n X dX6_count_161 1 rfl ?_
                    refine G_bipush X (v := 7) dX6_count_162 (by decide) ?_
                    obtain ⟨j72, h73, h74⟩ := bnd h70
                    have J75 : G p l e rmX6_count s m args below meth c D A 2 Q 0 0 172 [] [.int j72, .ref h] [(h, .inr (6, [.ref h_s, .ref h_aside, .ref h_before, .ref h_past, .int i_h_known, .ref h_text, .int i_h_length, .ref h_lost, .int i_h_losts, .int i_h_bestOrder, .int i_h_bestMany, .int i_h_spot, .int i_h_begin, .int i_h_isForm, .int i_h_letter, .ref h_tells, .int i_h_faultReason, .int i_h_faultCause])), (h_s, .inl (cI, 703, .inl f_h_s))] := by
                      obtain ⟨v76, h77, h78⟩ := bnd h74
                      refine G1_calli X (As := [.int j72]) (rest := []) (wr := []) (ws' := [(h, .inr (6, [.ref h_s, .ref h_aside, .ref h_before, .ref h_past, .int i_h_known, .ref h_text, .int i_h_length, .ref h_lost, .int i_h_losts, .int i_h_bestOrder, .int i_h_bestMany, .int i_h_spot, .int i_h_begin, .int i_h_isForm, .int i_h_letter, .ref h_tells, .int i_h_faultReason, .int i_h_faultCause])), (h_s, .inl (cI, 703, .inl f_h_s))]) dX6_count_172 pkX6_cellsOf gX6_count_X6_cellsOf (kkX6_cellsOf l D cI cR h h_s h_aside h_before h_past h_text h_lost h_tells i_h_known i_h_length i_h_losts i_h_bestOrder i_h_bestMany i_h_spot i_h_begin i_h_isForm i_h_letter i_h_faultReason i_h_faultCause f_h_s j72 v76 h77) ⟨rfl, rfl⟩ ⟨Nat.le_of_ble_eq_true rfl, Nat.le_of_ble_eq_true rfl⟩ rfl rfl (Nat.le_of_ble_eq_true rfl) 0 rfl rfl [0, 1] [] rfl rfl ⟨rfl, rfl, by decide⟩ ⟨Nat.zero_le _, Nat.zero_le _⟩ [0, 1] rfl rfl ?_
                      cases h78
                      exact rt _ _ _ _ dX6_count_175 ⟨rfl, rfl⟩
                    refine G_icmp_ne X (tgt := 171) dX6_count_164 (by decide) (fun h79 => ?_) (fun h79 => ?_)
                    · have h80 := ifp h79 h73
                      refine G_iconst X (v := 1) dX6_count_167 (by decide) ?_
                      refine G_goto X (tgt := 172) dX6_count_168 (by decide) ?_
                      cases h80
                      exact G_lv [] rfl (J75)
                    · have h81 := ifn h79 h73
                      refine G_iconst X (v := 0) dX6_count_171 (by decide) ?_
                      cases h81
                      exact G_lv [] rfl (J75)
                  · have h71 := ifn h69 h58
                    by_cases h82 : x0 = 8
                    · have h83 := ifp h82 h71
                      refine G_tableIn X (off := 174) (tgt := 198) dX6_count_24 (by rw [h82]; decide) (by rw [h82]; decide) (by rw [h82]; rfl) (by decide) ?_
                      refine G_ldc X dX6_count_198 flX6_count_114 ?_
                      cases h83
                      exact rt _ _ _ _ dX6_count_200 ⟨rfl, rfl⟩
                    · have h84 := ifn h82 h71
                      by_cases h85 : x0 = 9
                      · have h86 := ifp h85 h84
                        refine G_tableIn X (off := 174) (tgt := 198) dX6_count_24 (by rw [h85]; decide) (by rw [h85]; decide) (by rw [h85]; rfl) (by decide) ?_
                        refine G_ldc X dX6_count_198 flX6_count_114 ?_
                        cases h86
                        exact rt _ _ _ _ dX6_count_200 ⟨rfl, rfl⟩
                      · have h87 := ifn h85 h84
                        by_cases h88 : x0 = 10
                        · have h89 := ifp h88 h87
                          refine G_tableIn X (off := 174) (tgt := 198) dX6_count_24 (by rw [h88]; decide) (by rw [h88]; decide) (by rw [h88]; rfl) (by decide) ?_
                          refine G_ldc X dX6_count_198 flX6_count_114 ?_
                          cases h89
                          exact rt _ _ _ _ dX6_count_200 ⟨rfl, rfl⟩
                        · have h90 := ifn h88 h87
                          by_cases h91 : x0 = 11
                          · have h92 := ifp h91 h90
                            refine G_tableIn X (off := 174) (tgt := 198) dX6_count_24 (by rw [h91]; decide) (by rw [h91]; decide) (by rw [h91]; rfl) (by decide) ?_
                            refine G_ldc X dX6_count_198 flX6_count_114 ?_
                            cases h92
                            exact rt _ _ _ _ dX6_count_200 ⟨rfl, rfl⟩
                          · have h93 := ifn h91 h90
                            by_cases h94 : x0 = 12
                            · have h95 := ifp h94 h93
                              refine G_tableIn X (off := 174) (tgt := 198) dX6_count_24 (by rw [h94]; decide) (by rw [h94]; decide) (by rw [h94]; rfl) (by decide) ?_
                              refine G_ldc X dX6_count_198 flX6_count_114 ?_
                              cases h95
                              exact rt _ _ _ _ dX6_count_200 ⟨rfl, rfl⟩
                            · have h96 := ifn h94 h93
                              by_cases h97 : x0 = 13
                              · have h98 := ifp h97 h96
                                refine G_tableIn X (off := 174) (tgt := 198) dX6_count_24 (by rw [h97]; decide) (by rw [h97]; decide) (by rw [h97]; rfl) (by decide) ?_
                                refine G_ldc X dX6_count_198 flX6_count_114 ?_
                                cases h98
                                exact rt _ _ _ _ dX6_count_200 ⟨rfl, rfl⟩
                              · have h99 := ifn h97 h96
                                by_cases h100 : x0 = 14
                                · have h101 := ifp h100 h99
                                  refine G_tableIn X (off := 152) (tgt := 176) dX6_count_24 (by rw [h100]; decide) (by rw [h100]; decide) (by rw [h100]; rfl) (by decide) ?_
                                  refine G_aload_n X dX6_count_176 0 rfl ?_
                                  refine G_get X (i0 := 0) (ci := 6) (j := 4) (C := RX6) (ref := RX6) (T := TX6) (N := 18) dX6_count_177 rfl rfl hiX6_count_X6 (by decide) flX6_count_35 rfl rfl ?_
                                  cases h101
                                  exact rt _ _ _ _ dX6_count_180 ⟨rfl, rfl⟩
                                · have h102 := ifn h100 h99
                                  by_cases h103 : x0 = 15
                                  · have h104 := ifp h103 h102
                                    refine G_tableIn X (off := 157) (tgt := 181) dX6_count_24 (by rw [h103]; decide) (by rw [h103]; decide) (by rw [h103]; rfl) (by decide) ?_
                                    refine G_aload_n X dX6_count_181 0 rfl ?_
                                    refine G_get X (i0 := 0) (ci := 6) (j := 6) (C := RX6) (ref := RX6) (T := TX6) (N := 18) dX6_count_182 rfl rfl hiX6_count_X6 (by decide) flX6_count_213 rfl rfl ?_
                                    cases h104
                                    exact rt _ _ _ _ dX6_count_185 ⟨rfl, rfl⟩
                                  · have h105 := ifn h103 h102
                                    by_cases h106 : x0 = 16
                                    · have h107 := ifp h106 h105
                                      refine G_tableIn X (off := 174) (tgt := 198) dX6_count_24 (by rw [h106]; decide) (by rw [h106]; decide) (by rw [h106]; rfl) (by decide) ?_
                                      refine G_ldc X dX6_count_198 flX6_count_114 ?_
                                      cases h107
                                      exact rt _ _ _ _ dX6_count_200 ⟨rfl, rfl⟩
                                    · have h108 := ifn h106 h105
                                      by_cases h109 : x0 = 17
                                      · have h110 := ifp h109 h108
                                        refine G_tableIn X (off := 174) (tgt := 198) dX6_count_24 (by rw [h109]; decide) (by rw [h109]; decide) (by rw [h109]; rfl) (by decide) ?_
                                        refine G_ldc X dX6_count_198 flX6_count_114 ?_
                                        cases h110
                                        exact rt _ _ _ _ dX6_count_200 ⟨rfl, rfl⟩
                                      · have h111 := ifn h109 h108
                                        by_cases h112 : x0 = 18
                                        · have h113 := ifp h112 h111
                                          refine G_tableIn X (off := 174) (tgt := 198) dX6_count_24 (by rw [h112]; decide) (by rw [h112]; decide) (by rw [h112]; rfl) (by decide) ?_
                                          refine G_ldc X dX6_count_198 flX6_count_114 ?_
                                          cases h113
                                          exact rt _ _ _ _ dX6_count_200 ⟨rfl, rfl⟩
                                        · have h114 := ifn h112 h111
                                          by_cases h115 : x0 = 19
                                          · have h116 := ifp h115 h114
                                            refine G_tableIn X (off := 174) (tgt := 198) dX6_count_24 (by rw [h115]; decide) (by rw [h115]; decide) (by rw [h115]; rfl) (by decide) ?_
                                            refine G_ldc X dX6_count_198 flX6_count_114 ?_
                                            cases h116
                                            exact rt _ _ _ _ dX6_count_200 ⟨rfl, rfl⟩
                                          · have h117 := ifn h115 h114
                                            by_cases h118 : x0 = 20
                                            · have h119 := ifp h118 h117
                                              refine G_tableIn X (off := 162) (tgt := 186) dX6_count_24 (by rw [h118]; decide) (by rw [h118]; decide) (by rw [h118]; rfl) (by decide) ?_
                                              refine G_aload_n X dX6_count_186 0 rfl ?_
                                              refine G_get X (i0 := 0) (ci := 6) (j := 0) (C := RX6) (ref := RX6) (T := TX6) (N := 18) dX6_count_187 rfl rfl hiX6_count_X6 (by decide) flX6_count_7 rfl rfl ?_
                                              refine G_iconst X (v := 2) dX6_count_190 (by decide) ?_
                                              refine G_iload_n X dX6_count_191 1 rfl ?_
                                              refine G_iadd X dX6_count_192 ?_
                                              refine G_bipush X (v := 20) dX6_count_193 (by decide) ?_
                                              refine G_isub X dX6_count_195 ?_
                                              obtain ⟨v121, h122, h123⟩ := bnd h119
                                              refine G_iald X (i0 := 1) dX6_count_196 rfl h122 ?_
                                              cases h123
                                              exact rt _ _ _ _ dX6_count_197 ⟨rfl, rfl⟩
                                            · have h120 := ifn h118 h117
                                              by_cases h124 : x0 = 21
                                              · have h125 := ifp h124 h120
                                                refine G_tableIn X (off := 162) (tgt := 186) dX6_count_24 (by rw [h124]; decide) (by rw [h124]; decide) (by rw [h124]; rfl) (by decide) ?_
                                                refine G_aload_n X dX6_count_186 0 rfl ?_
                                                refine G_get X (i0 := 0) (ci := 6) (j := 0) (C := RX6) (ref := RX6) (T := TX6) (N := 18) dX6_count_187 rfl rfl hiX6_count_X6 (by decide) flX6_count_7 rfl rfl ?_
                                                refine G_iconst X (v := 2) dX6_count_190 (by decide) ?_
                                                refine G_iload_n X dX6_count_191 1 rfl ?_
                                                refine G_iadd X dX6_count_192 ?_
                                                refine G_bipush X (v := 20) dX6_count_193 (by decide) ?_
                                                refine G_isub X dX6_count_195 ?_
                                                obtain ⟨v127, h128, h129⟩ := bnd h125
                                                refine G_iald X (i0 := 1) dX6_count_196 rfl h128 ?_
                                                cases h129
                                                exact rt _ _ _ _ dX6_count_197 ⟨rfl, rfl⟩
                                              · have h126 := ifn h124 h120
                                                have h6 : ¬ (x0).toInt = 0 := fun q => h6 (Int32.toInt_inj.mp (q.trans (by decide)))
                                                have h12 : ¬ (x0).toInt = 1 := fun q => h12 (Int32.toInt_inj.mp (q.trans (by decide)))
                                                have h18 : ¬ (x0).toInt = 2 := fun q => h18 (Int32.toInt_inj.mp (q.trans (by decide)))
                                                have h31 : ¬ (x0).toInt = 3 := fun q => h31 (Int32.toInt_inj.mp (q.trans (by decide)))
                                                have h44 : ¬ (x0).toInt = 4 := fun q => h44 (Int32.toInt_inj.mp (q.trans (by decide)))
                                                have h50 : ¬ (x0).toInt = 5 := fun q => h50 (Int32.toInt_inj.mp (q.trans (by decide)))
                                                have h56 : ¬ (x0).toInt = 6 := fun q => h56 (Int32.toInt_inj.mp (q.trans (by decide)))
                                                have h69 : ¬ (x0).toInt = 7 := fun q => h69 (Int32.toInt_inj.mp (q.trans (by decide)))
                                                have h82 : ¬ (x0).toInt = 8 := fun q => h82 (Int32.toInt_inj.mp (q.trans (by decide)))
                                                have h85 : ¬ (x0).toInt = 9 := fun q => h85 (Int32.toInt_inj.mp (q.trans (by decide)))
                                                have h88 : ¬ (x0).toInt = 10 := fun q => h88 (Int32.toInt_inj.mp (q.trans (by decide)))
                                                have h91 : ¬ (x0).toInt = 11 := fun q => h91 (Int32.toInt_inj.mp (q.trans (by decide)))
                                                have h94 : ¬ (x0).toInt = 12 := fun q => h94 (Int32.toInt_inj.mp (q.trans (by decide)))
                                                have h97 : ¬ (x0).toInt = 13 := fun q => h97 (Int32.toInt_inj.mp (q.trans (by decide)))
                                                have h100 : ¬ (x0).toInt = 14 := fun q => h100 (Int32.toInt_inj.mp (q.trans (by decide)))
                                                have h103 : ¬ (x0).toInt = 15 := fun q => h103 (Int32.toInt_inj.mp (q.trans (by decide)))
                                                have h106 : ¬ (x0).toInt = 16 := fun q => h106 (Int32.toInt_inj.mp (q.trans (by decide)))
                                                have h109 : ¬ (x0).toInt = 17 := fun q => h109 (Int32.toInt_inj.mp (q.trans (by decide)))
                                                have h112 : ¬ (x0).toInt = 18 := fun q => h112 (Int32.toInt_inj.mp (q.trans (by decide)))
                                                have h115 : ¬ (x0).toInt = 19 := fun q => h115 (Int32.toInt_inj.mp (q.trans (by decide)))
                                                have h118 : ¬ (x0).toInt = 20 := fun q => h118 (Int32.toInt_inj.mp (q.trans (by decide)))
                                                have h124 : ¬ (x0).toInt = 21 := fun q => h124 (Int32.toInt_inj.mp (q.trans (by decide)))
                                                refine G_tableOut X (tgt := 198) dX6_count_24 (by omega) (by decide) ?_
                                                refine G_ldc X dX6_count_198 flX6_count_114 ?_
                                                cases h126
                                                exact rt _ _ _ _ dX6_count_200 ⟨rfl, rfl⟩
  · have h130 := ifn h4 h3
    refine G_aload_n X dX6_count_11 0 rfl ?_
    refine G_get X (i0 := 0) (ci := 6) (j := 0) (C := RX6) (ref := RX6) (T := TX6) (N := 18) dX6_count_12 rfl rfl hiX6_count_X6 (by decide) flX6_count_7 rfl rfl ?_
    refine G_iconst X (v := 4) dX6_count_15 (by decide) ?_
    refine G_iload_n X dX6_count_16 1 rfl ?_
    refine G_iadd X dX6_count_17 ?_
    refine G_bipush X (v := 8) dX6_count_18 (by decide) ?_
    refine G_isub X dX6_count_20 ?_
    obtain ⟨v131, h132, h133⟩ := bnd h130
    refine G_iald X (i0 := 1) dX6_count_21 rfl h132 ?_
    cases h133
    exact rt _ _ _ _ dX6_count_22 ⟨rfl, rfl⟩
