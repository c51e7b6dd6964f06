def rmX6_goMend : Room := { frames := 7, cells := 0, slots := 0, locals := 160 }
theorem pkX6_goMend : cK yX6_goMend wsX6_goMend cX6_goMend 5 (some .int) 1 RX6 := ⟨⟨_, rfl⟩, by decide +kernel⟩
theorem hiX6_goMend_X6 : ∀ w ∈ wsX60, w ∈ wsX6_goMend := by decide +kernel
theorem flX6_goMend_7 : Cond.fieldLink RX6 7 "EchoMarginsModel" "s" "[I" ∈ wsX6_goMend := by decide +kernel
set_option maxHeartbeats 4000000 in
set_option maxRecDepth 100000 in
theorem kkX6_goMend (l : Launch) (D : va_G) (cI cR : ClassId) (h h_s h_aside h_before h_past h_text h_lost h_tells : Nat) (i_h_known : Int32) (i_h_length : Int32) (i_h_losts : Int32) (i_h_bestOrder : Int32) (i_h_bestMany : Int32) (i_h_spot : Int32) (i_h_begin : Int32) (i_h_isForm : Int32) (i_h_letter : Int32) (i_h_faultReason : Int32) (i_h_faultCause : Int32) (f_h_s : Nat → Int32) (x0 : Int32) (z : (Int32 × (Nat → Int32))) (hz : MX6_goMend f_h_s x0 = some z) : cI1 l yX6_goMend wsX6_goMend rmX6_goMend D cI cR [.ref h, .int x0] [(h, .inr (6, [.ref h_s, .ref h_aside, .ref h_before, .ref h_past, .int i_h_known, .ref h_text, .int i_h_length, .ref h_lost, .int i_h_losts, .int i_h_bestOrder, .int i_h_bestMany, .int i_h_spot, .int i_h_begin, .int i_h_isForm, .int i_h_letter, .ref h_tells, .int i_h_faultReason, .int i_h_faultCause])), (h_s, .inl (cI, 703, .inl f_h_s))] z.1 [(h, .inr (6, [.ref h_s, .ref h_aside, .ref h_before, .ref h_past, .int i_h_known, .ref h_text, .int i_h_length, .ref h_lost, .int i_h_losts, .int i_h_bestOrder, .int i_h_bestMany, .int i_h_spot, .int i_h_begin, .int i_h_isForm, .int i_h_letter, .ref h_tells, .int i_h_faultReason, .int i_h_faultCause])), (h_s, .inl (cI, 703, .inl z.2))] := by
  unfold MX6_goMend at hz
  refine kI_of (cc := cX6_goMend) (maxL := 5) (own := RX6) (by decide +kernel) rfl rfl (Nat.le_of_ble_eq_true rfl) (lv0 := [(0, .ref h), (1, .int x0)]) rfl (fun p e s m args below meth c A Q X rt => ?_)
  refine G_aload_n X dX6_goMend_0 0 rfl ?_
  refine G_iload_n X dX6_goMend_1 1 rfl ?_
  obtain ⟨v1, h2, h3⟩ := bnd hz
  refine G1_calli X (As := [.int x0]) (rest := []) (wr := []) (ws' := [(h, .inr (6, [.ref h_s, .ref h_aside, .ref h_before, .ref h_past, .int i_h_known, .ref h_text, .int i_h_length, .ref h_lost, .int i_h_losts, .int i_h_bestOrder, .int i_h_bestMany, .int i_h_spot, .int i_h_begin, .int i_h_isForm, .int i_h_letter, .ref h_tells, .int i_h_faultReason, .int i_h_faultCause])), (h_s, .inl (cI, 703, .inl f_h_s))]) dX6_goMend_2 pkX6_back gX6_goMend_X6_back (kkX6_back l D cI cR h h_s h_aside h_before h_past h_text h_lost h_tells i_h_known i_h_length i_h_losts i_h_bestOrder i_h_bestMany i_h_spot i_h_begin i_h_isForm i_h_letter i_h_faultReason i_h_faultCause f_h_s x0 v1 h2) ⟨rfl, rfl⟩ ⟨Nat.le_of_ble_eq_true rfl, Nat.le_of_ble_eq_true rfl⟩ rfl rfl (Nat.le_of_ble_eq_true rfl) 0 rfl rfl [0, 1] [] rfl rfl ⟨rfl, rfl, by decide⟩ ⟨Nat.zero_le _, Nat.zero_le _⟩ [0, 1] rfl rfl ?_
  refine G_istore_n X (lv' := [(2, .int v1), (0, .ref h), (1, .int x0)]) dX6_goMend_5 (by decide) rfl ?_
  refine G_aload_n X dX6_goMend_6 1 rfl ?_
  refine G_get X (i0 := 0) (ci := 6) (j := 0) (C := RX6) (ref := RX6) (T := TX6) (N := 18) dX6_goMend_7 rfl rfl hiX6_goMend_X6 (by decide) flX6_goMend_7 rfl rfl ?_
  refine G_bipush X (v := 6) dX6_goMend_10 (by decide) ?_
  refine G_dup2 X dX6_goMend_12 rfl rfl ?_
  obtain ⟨v4, h5, h6⟩ := bnd h3
  refine G_iald X (i0 := 1) dX6_goMend_13 rfl h5 ?_
  refine G_iconst X (v := 1) dX6_goMend_14 (by decide) ?_
  refine G_iadd X dX6_goMend_15 ?_
  obtain ⟨g7, h8, h9⟩ := bnd h6
  refine G_iast X (i0 := 1) (ws' := [(h, .inr (6, [.ref h_s, .ref h_aside, .ref h_before, .ref h_past, .int i_h_known, .ref h_text, .int i_h_length, .ref h_lost, .int i_h_losts, .int i_h_bestOrder, .int i_h_bestMany, .int i_h_spot, .int i_h_begin, .int i_h_isForm, .int i_h_letter, .ref h_tells, .int i_h_faultReason, .int i_h_faultCause])), (h_s, .inl (cI, 703, .inl g7))]) dX6_goMend_16 rfl h8 rfl ?_
  refine G_aload_n X dX6_goMend_17 1 rfl ?_
  refine G_get X (i0 := 0) (ci := 6) (j := 0) (C := RX6) (ref := RX6) (T := TX6) (N := 18) dX6_goMend_18 rfl rfl hiX6_goMend_X6 (by decide) flX6_goMend_7 rfl rfl ?_
  refine G_bipush X (v := 7) dX6_goMend_21 (by decide) ?_
  refine G_dup2 X dX6_goMend_23 rfl rfl ?_
  obtain ⟨v10, h11, h12⟩ := bnd h9
  refine G_iald X (i0 := 1) dX6_goMend_24 rfl h11 ?_
  refine G_iload_n X dX6_goMend_25 0 rfl ?_
  refine G_iadd X dX6_goMend_26 ?_
  obtain ⟨g13, h14, h15⟩ := bnd h12
  refine G_iast X (i0 := 1) (ws' := [(h, .inr (6, [.ref h_s, .ref h_aside, .ref h_before, .ref h_past, .int i_h_known, .ref h_text, .int i_h_length, .ref h_lost, .int i_h_losts, .int i_h_bestOrder, .int i_h_bestMany, .int i_h_spot, .int i_h_begin, .int i_h_isForm, .int i_h_letter, .ref h_tells, .int i_h_faultReason, .int i_h_faultCause])), (h_s, .inl (cI, 703, .inl g13))]) dX6_goMend_27 rfl h14 rfl ?_
  refine G_aload_n X dX6_goMend_28 1 rfl ?_
  refine G_get X (i0 := 0) (ci := 6) (j := 0) (C := RX6) (ref := RX6) (T := TX6) (N := 18) dX6_goMend_29 rfl rfl hiX6_goMend_X6 (by decide) flX6_goMend_7 rfl rfl ?_
  refine G_bipush X (v := 8) dX6_goMend_32 (by decide) ?_
  refine G_dup2 X dX6_goMend_34 rfl rfl ?_
  obtain ⟨v16, h17, h18⟩ := bnd h15
  refine G_iald X (i0 := 1) dX6_goMend_35 rfl h17 ?_
  refine G_aload_n X dX6_goMend_36 1 rfl ?_
  refine G_iload_n X dX6_goMend_37 2 rfl ?_
  obtain ⟨v19, h20, h21⟩ := bnd h18
  refine G1_calli X (As := [.int x0]) (rest := [.int v16, .int 8, .ref h_s]) (wr := []) (ws' := [(h, .inr (6, [.ref h_s, .ref h_aside, .ref h_before, .ref h_past, .int i_h_known, .ref h_text, .int i_h_length, .ref h_lost, .int i_h_losts, .int i_h_bestOrder, .int i_h_bestMany, .int i_h_spot, .int i_h_begin, .int i_h_isForm, .int i_h_letter, .ref h_tells, .int i_h_faultReason, .int i_h_faultCause])), (h_s, .inl (cI, 703, .inl g13))]) dX6_goMend_38 pkX6_wrongs gX6_goMend_X6_wrongs (kkX6_wrongs l D cI cR h h_s h_aside h_before h_past h_text h_lost h_tells i_h_known i_h_length i_h_losts i_h_bestOrder i_h_bestMany i_h_spot i_h_begin i_h_isForm i_h_letter i_h_faultReason i_h_faultCause g13 x0 v19 h20) ⟨rfl, rfl⟩ ⟨Nat.le_of_ble_eq_true rfl, Nat.le_of_ble_eq_true rfl⟩ rfl rfl (Nat.le_of_ble_eq_true rfl) 0 rfl rfl [0, 1] [] rfl rfl ⟨rfl, rfl, by decide⟩ ⟨Nat.zero_le _, Nat.zero_le _⟩ [0, 1] rfl rfl ?_
  refine G_iadd X dX6_goMend_41 ?_
  obtain ⟨g22, h23, h24⟩ := bnd h21
  refine G_iast X (i0 := 1) (ws' := [(h, .inr (6, [.ref h_s, .ref h_aside, .ref h_before, .ref h_past, .int i_h_known, .ref h_text, .int i_h_length, .ref h_lost, .int i_h_losts, .int i_h_bestOrder, .int i_h_bestMany, .int i_h_spot, .int i_h_begin, .int i_h_isForm, .int i_h_letter, .ref h_tells, .int i_h_faultReason, .int i_h_faultCause])), (h_s, .inl (cI, 703, .inl g22))]) dX6_goMend_42 rfl h23 rfl ?_
  refine G_iconst X (v := 0) dX6_goMend_43 (by decide) ?_
  refine G_istore_n X (lv' := [(3, .int 0), (2, .int v1), (0, .ref h), (1, .int x0)]) dX6_goMend_44 (by decide) rfl ?_
  obtain ⟨j26, h27, h28⟩ := bnd h24
  have J33 : G p l e rmX6_goMend s m args below meth c D A 5 Q 0 0 118 [(0, .ref h), (1, .int x0), (2, .int v1)] [] [(h, .inr (6, [.ref h_s, .ref h_aside, .ref h_before, .ref h_past, .int i_h_known, .ref h_text, .int i_h_length, .ref h_lost, .int i_h_losts, .int i_h_bestOrder, .int i_h_bestMany, .int i_h_spot, .int i_h_begin, .int i_h_isForm, .int i_h_letter, .ref h_tells, .int i_h_faultReason, .int i_h_faultCause])), (h_s, .inl (cI, 703, .inl j26))] := by
    refine G_aload_n X dX6_goMend_118 0 rfl ?_
    refine G_iload_n X dX6_goMend_119 1 rfl ?_
    refine G_iconst X (v := 1) dX6_goMend_120 (by decide) ?_
    refine G_iconst X (v := 1) dX6_goMend_121 (by decide) ?_
    obtain ⟨v35, h36, h37⟩ := bnd h28
    refine G1_callv X (As := [.int x0, .int 1, .int 1]) (rest := []) (wr := []) (ws' := [(h, .inr (6, [.ref h_s, .ref h_aside, .ref h_before, .ref h_past, .int i_h_known, .ref h_text, .int i_h_length, .ref h_lost, .int i_h_losts, .int i_h_bestOrder, .int i_h_bestMany, .int i_h_spot, .int i_h_begin, .int i_h_isForm, .int i_h_letter, .ref h_tells, .int i_h_faultReason, .int i_h_faultCause])), (h_s, .inl (cI, 703, .inl v35))]) dX6_goMend_122 pkX6_lays gX6_goMend_X6_lays (kkX6_lays l D cI cR h h_s h_aside h_before h_past h_text h_lost h_tells i_h_known i_h_length i_h_losts i_h_bestOrder i_h_bestMany i_h_spot i_h_begin i_h_isForm i_h_letter i_h_faultReason i_h_faultCause j26 x0 1 1 v35 h36) ⟨rfl, rfl⟩ ⟨Nat.le_of_ble_eq_true rfl, Nat.le_of_ble_eq_true rfl⟩ rfl rfl (Nat.le_of_ble_eq_true rfl) 0 rfl rfl [0, 1] [] rfl rfl ⟨rfl, rfl, by decide⟩ ⟨Nat.zero_le _, Nat.zero_le _⟩ [0, 1] rfl rfl ?_
    refine G_aload_n X dX6_goMend_125 0 rfl ?_
    refine G_aload_n X dX6_goMend_126 0 rfl ?_
    refine G_iload_n X dX6_goMend_127 1 rfl ?_
    obtain ⟨v38, h39, h40⟩ := bnd h37
    refine G1_calli X (As := [.int x0]) (rest := [.ref h]) (wr := []) (ws' := [(h, .inr (6, [.ref h_s, .ref h_aside, .ref h_before, .ref h_past, .int i_h_known, .ref h_text, .int i_h_length, .ref h_lost, .int i_h_losts, .int i_h_bestOrder, .int i_h_bestMany, .int i_h_spot, .int i_h_begin, .int i_h_isForm, .int i_h_letter, .ref h_tells, .int i_h_faultReason, .int i_h_faultCause])), (h_s, .inl (cI, 703, .inl v35))]) dX6_goMend_128 pkX6_upper gX6_goMend_X6_upper (kkX6_upper l D cI cR h h_s h_aside h_before h_past h_text h_lost h_tells i_h_known i_h_length i_h_losts i_h_bestOrder i_h_bestMany i_h_spot i_h_begin i_h_isForm i_h_letter i_h_faultReason i_h_faultCause v35 x0 v38 h39) ⟨rfl, rfl⟩ ⟨Nat.le_of_ble_eq_true rfl, Nat.le_of_ble_eq_true rfl⟩ rfl rfl (Nat.le_of_ble_eq_true rfl) 0 rfl rfl [0, 1] [] rfl rfl ⟨rfl, rfl, by decide⟩ ⟨Nat.zero_le _, Nat.zero_le _⟩ [0, 1] rfl rfl ?_
    obtain ⟨v41, h42, h43⟩ := bnd h40
    refine G1_calli X (As := [.int v38]) (rest := []) (wr := []) (ws' := [(h, .inr (6, [.ref h_s, .ref h_aside, .ref h_before, .ref h_past, .int i_h_known, .ref h_text, .int i_h_length, .ref h_lost, .int i_h_losts, .int i_h_bestOrder, .int i_h_bestMany, .int i_h_spot, .int i_h_begin, .int i_h_isForm, .int i_h_letter, .ref h_tells, .int i_h_faultReason, .int i_h_faultCause])), (h_s, .inl (cI, 703, .inl v35))]) dX6_goMend_131 pkX6_lives gX6_goMend_X6_lives (kkX6_lives l D cI cR h h_s h_aside h_before h_past h_text h_lost h_tells i_h_known i_h_length i_h_losts i_h_bestOrder i_h_bestMany i_h_spot i_h_begin i_h_isForm i_h_letter i_h_faultReason i_h_faultCause v35 v38 v41 h42) ⟨rfl, rfl⟩ ⟨Nat.le_of_ble_eq_true rfl, Nat.le_of_ble_eq_true rfl⟩ rfl rfl (Nat.le_of_ble_eq_true rfl) 0 rfl rfl [0, 1] [] rfl rfl ⟨rfl, rfl, by decide⟩ ⟨Nat.zero_le _, Nat.zero_le _⟩ [0, 1] rfl rfl ?_
    obtain ⟨j44, h45, h46⟩ := bnd h43
    have J47 : G p l e rmX6_goMend s m args below meth c D A 5 Q 0 0 150 [(0, .ref h), (1, .int x0), (2, .int v1)] [.int j44.1] [(h, .inr (6, [.ref h_s, .ref h_aside, .ref h_before, .ref h_past, .int i_h_known, .ref h_text, .int i_h_length, .ref h_lost, .int i_h_losts, .int i_h_bestOrder, .int i_h_bestMany, .int i_h_spot, .int i_h_begin, .int i_h_isForm, .int i_h_letter, .ref h_tells, .int i_h_faultReason, .int i_h_faultCause])), (h_s, .inl (cI, 703, .inl j44.2))] := by
      refine G_istore_n X (lv' := [(3, .int j44.1), (0, .ref h), (1, .int x0), (2, .int v1)]) dX6_goMend_150 (by decide) rfl ?_
      refine G_iload_n X dX6_goMend_151 0 rfl ?_
      refine G_aload_n X dX6_goMend_152 1 rfl ?_
      refine G_aload_n X dX6_goMend_153 1 rfl ?_
      refine G_iload_n X dX6_goMend_154 2 rfl ?_
      obtain ⟨v48, h49, h50⟩ := bnd h46
      refine G1_calli X (As := [.int x0]) (rest := [.ref h, .int j44.1]) (wr := []) (ws' := [(h, .inr (6, [.ref h_s, .ref h_aside, .ref h_before, .ref h_past, .int i_h_known, .ref h_text, .int i_h_length, .ref h_lost, .int i_h_losts, .int i_h_bestOrder, .int i_h_bestMany, .int i_h_spot, .int i_h_begin, .int i_h_isForm, .int i_h_letter, .ref h_tells, .int i_h_faultReason, .int i_h_faultCause])), (h_s, .inl (cI, 703, .inl j44.2))]) dX6_goMend_155 pkX6_lower gX6_goMend_X6_lower (kkX6_lower l D cI cR h h_s h_aside h_before h_past h_text h_lost h_tells i_h_known i_h_length i_h_losts i_h_bestOrder i_h_bestMany i_h_spot i_h_begin i_h_isForm i_h_letter i_h_faultReason i_h_faultCause j44.2 x0 v48 h49) ⟨rfl, rfl⟩ ⟨Nat.le_of_ble_eq_true rfl, Nat.le_of_ble_eq_true rfl⟩ rfl rfl (Nat.le_of_ble_eq_true rfl) 0 rfl rfl [0, 1] [] rfl rfl ⟨rfl, rfl, by decide⟩ ⟨Nat.zero_le _, Nat.zero_le _⟩ [0, 1] rfl rfl ?_
      obtain ⟨v51, h52, h53⟩ := bnd h50
      refine G1_calli X (As := [.int v48]) (rest := [.int j44.1]) (wr := []) (ws' := [(h, .inr (6, [.ref h_s, .ref h_aside, .ref h_before, .ref h_past, .int i_h_known, .ref h_text, .int i_h_length, .ref h_lost, .int i_h_losts, .int i_h_bestOrder, .int i_h_bestMany, .int i_h_spot, .int i_h_begin, .int i_h_isForm, .int i_h_letter, .ref h_tells, .int i_h_faultReason, .int i_h_faultCause])), (h_s, .inl (cI, 703, .inl j44.2))]) dX6_goMend_158 pkX6_lives gX6_goMend_X6_lives (kkX6_lives l D cI cR h h_s h_aside h_before h_past h_text h_lost h_tells i_h_known i_h_length i_h_losts i_h_bestOrder i_h_bestMany i_h_spot i_h_begin i_h_isForm i_h_letter i_h_faultReason i_h_faultCause j44.2 v48 v51 h52) ⟨rfl, rfl⟩ ⟨Nat.le_of_ble_eq_true rfl, Nat.le_of_ble_eq_true rfl⟩ rfl rfl (Nat.le_of_ble_eq_true rfl) 0 rfl rfl [0, 1] [] rfl rfl ⟨rfl, rfl, by decide⟩ ⟨Nat.zero_le _, Nat.zero_le _⟩ [0, 1] rfl rfl ?_
      obtain ⟨j54, h55, h56⟩ := bnd h53
      have J57 : G p l e rmX6_goMend s m args below meth c D A 5 Q 0 0 177 [(0, .ref h), (1, .int x0), (2, .int v1)] [.int j54.1, .int j44.1] [(h, .inr (6, [.ref h_s, .ref h_aside, .ref h_before, .ref h_past, .int i_h_known, .ref h_text, .int i_h_length, .ref h_lost, .int i_h_losts, .int i_h_bestOrder, .int i_h_bestMany, .int i_h_spot, .int i_h_begin, .int i_h_isForm, .int i_h_letter, .ref h_tells, .int i_h_faultReason, .int i_h_faultCause])), (h_s, .inl (cI, 703, .inl j54.2))] := by
        refine G_iadd X dX6_goMend_177 ?_
        refine G_istore_n X (lv' := [(3, .int (j44.1 + j54.1)), (0, .ref h), (1, .int x0), (2, .int v1)]) dX6_goMend_178 (by decide) rfl ?_
        refine G_iload_n X dX6_goMend_179 0 rfl ?_
        refine G_aload_n X dX6_goMend_180 1 rfl ?_
        refine G_iload_n X dX6_goMend_181 2 rfl ?_
        obtain ⟨v58, h59, h60⟩ := bnd h56
        refine G1_calli X (As := [.int x0]) (rest := [.int (j44.1 + j54.1)]) (wr := []) (ws' := [(h, .inr (6, [.ref h_s, .ref h_aside, .ref h_before, .ref h_past, .int i_h_known, .ref h_text, .int i_h_length, .ref h_lost, .int i_h_losts, .int i_h_bestOrder, .int i_h_bestMany, .int i_h_spot, .int i_h_begin, .int i_h_isForm, .int i_h_letter, .ref h_tells, .int i_h_faultReason, .int i_h_faultCause])), (h_s, .inl (cI, 703, .inl v58.2))]) dX6_goMend_182 pkX6_laysRow gX6_goMend_X6_laysRow (kkX6_laysRow l D cI cR h h_s h_aside h_before h_past h_text h_lost h_tells i_h_known i_h_length i_h_losts i_h_bestOrder i_h_bestMany i_h_spot i_h_begin i_h_isForm i_h_letter i_h_faultReason i_h_faultCause j54.2 x0 v58 h59) ⟨rfl, rfl⟩ ⟨Nat.le_of_ble_eq_true rfl, Nat.le_of_ble_eq_true rfl⟩ rfl rfl (Nat.le_of_ble_eq_true rfl) 0 rfl rfl [0, 1] [] rfl rfl ⟨rfl, rfl, by decide⟩ ⟨Nat.zero_le _, Nat.zero_le _⟩ [0, 1] rfl rfl ?_
        refine G_iadd X dX6_goMend_185 ?_
        refine G_istore_n X (lv' := [(3, .int ((j44.1 + j54.1) + v58.1)), (0, .ref h), (1, .int x0), (2, .int v1)]) dX6_goMend_186 (by decide) rfl ?_
        refine G_iload_n X dX6_goMend_187 3 rfl ?_
        cases h60
        exact rt _ _ _ _ dX6_goMend_188 ⟨rfl, rfl⟩
      refine G_if_eq X (tgt := 176) dX6_goMend_161 (by decide) (fun h61 => ?_) (fun h61 => ?_)
      · have h62 := ifp h61 h55
        refine G_iconst X (v := 0) dX6_goMend_176 (by decide) ?_
        cases h62
        exact G_lv [1, 2, 3] rfl (J57)
      · have h63 := ifn h61 h55
        refine G_aload_n X dX6_goMend_164 1 rfl ?_
        refine G_aload_n X dX6_goMend_165 1 rfl ?_
        refine G_iload_n X dX6_goMend_166 2 rfl ?_
        obtain ⟨v64, h65, h66⟩ := bnd h63
        refine G1_calli X (As := [.int x0]) (rest := [.ref h, .int j44.1]) (wr := []) (ws' := [(h, .inr (6, [.ref h_s, .ref h_aside, .ref h_before, .ref h_past, .int i_h_known, .ref h_text, .int i_h_length, .ref h_lost, .int i_h_losts, .int i_h_bestOrder, .int i_h_bestMany, .int i_h_spot, .int i_h_begin, .int i_h_isForm, .int i_h_letter, .ref h_tells, .int i_h_faultReason, .int i_h_faultCause])), (h_s, .inl (cI, 703, .inl j44.2))]) dX6_goMend_167 pkX6_lower gX6_goMend_X6_lower (kkX6_lower l D cI cR h h_s h_aside h_before h_past h_text h_lost h_tells i_h_known i_h_length i_h_losts i_h_bestOrder i_h_bestMany i_h_spot i_h_begin i_h_isForm i_h_letter i_h_faultReason i_h_faultCause j44.2 x0 v64 h65) ⟨rfl, rfl⟩ ⟨Nat.le_of_ble_eq_true rfl, Nat.le_of_ble_eq_true rfl⟩ rfl rfl (Nat.le_of_ble_eq_true rfl) 0 rfl rfl [0, 1] [] rfl rfl ⟨rfl, rfl, by decide⟩ ⟨Nat.zero_le _, Nat.zero_le _⟩ [0, 1] rfl rfl ?_
        obtain ⟨v67, h68, h69⟩ := bnd h66
        refine G1_calli X (As := [.int v64]) (rest := [.int j44.1]) (wr := []) (ws' := [(h, .inr (6, [.ref h_s, .ref h_aside, .ref h_before, .ref h_past, .int i_h_known, .ref h_text, .int i_h_length, .ref h_lost, .int i_h_losts, .int i_h_bestOrder, .int i_h_bestMany, .int i_h_spot, .int i_h_begin, .int i_h_isForm, .int i_h_letter, .ref h_tells, .int i_h_faultReason, .int i_h_faultCause])), (h_s, .inl (cI, 703, .inl v67.2))]) dX6_goMend_170 pkX6_laysRow gX6_goMend_X6_laysRow (kkX6_laysRow l D cI cR h h_s h_aside h_before h_past h_text h_lost h_tells i_h_known i_h_length i_h_losts i_h_bestOrder i_h_bestMany i_h_spot i_h_begin i_h_isForm i_h_letter i_h_faultReason i_h_faultCause j44.2 v64 v67 h68) ⟨rfl, rfl⟩ ⟨Nat.le_of_ble_eq_true rfl, Nat.le_of_ble_eq_true rfl⟩ rfl rfl (Nat.le_of_ble_eq_true rfl) 0 rfl rfl [0, 1] [] rfl rfl ⟨rfl, rfl, by decide⟩ ⟨Nat.zero_le _, Nat.zero_le _⟩ [0, 1] rfl rfl ?_
        refine G_goto X (tgt := 177) dX6_goMend_173 (by decide) ?_
        cases h69
        exact G_lv [1, 2, 3] rfl (J57)
    refine G_if_eq X (tgt := 149) dX6_goMend_134 (by decide) (fun h70 => ?_) (fun h70 => ?_)
    · have h71 := ifp h70 h45
      refine G_iconst X (v := 0) dX6_goMend_149 (by decide) ?_
      cases h71
      exact J47
    · have h72 := ifn h70 h45
      refine G_aload_n X dX6_goMend_137 0 rfl ?_
      refine G_aload_n X dX6_goMend_138 0 rfl ?_
      refine G_iload_n X dX6_goMend_139 1 rfl ?_
      obtain ⟨v73, h74, h75⟩ := bnd h72
      refine G1_calli X (As := [.int x0]) (rest := [.ref h]) (wr := []) (ws' := [(h, .inr (6, [.ref h_s, .ref h_aside, .ref h_before, .ref h_past, .int i_h_known, .ref h_text, .int i_h_length, .ref h_lost, .int i_h_losts, .int i_h_bestOrder, .int i_h_bestMany, .int i_h_spot, .int i_h_begin, .int i_h_isForm, .int i_h_letter, .ref h_tells, .int i_h_faultReason, .int i_h_faultCause])), (h_s, .inl (cI, 703, .inl v35))]) dX6_goMend_140 pkX6_upper gX6_goMend_X6_upper (kkX6_upper l D cI cR h h_s h_aside h_before h_past h_text h_lost h_tells i_h_known i_h_length i_h_losts i_h_bestOrder i_h_bestMany i_h_spot i_h_begin i_h_isForm i_h_letter i_h_faultReason i_h_faultCause v35 x0 v73 h74) ⟨rfl, rfl⟩ ⟨Nat.le_of_ble_eq_true rfl, Nat.le_of_ble_eq_true rfl⟩ rfl rfl (Nat.le_of_ble_eq_true rfl) 0 rfl rfl [0, 1] [] rfl rfl ⟨rfl, rfl, by decide⟩ ⟨Nat.zero_le _, Nat.zero_le _⟩ [0, 1] rfl rfl ?_
      obtain ⟨v76, h77, h78⟩ := bnd h75
      refine G1_calli X (As := [.int v73]) (rest := []) (wr := []) (ws' := [(h, .inr (6, [.ref h_s, .ref h_aside, .ref h_before, .ref h_past, .int i_h_known, .ref h_text, .int i_h_length, .ref h_lost, .int i_h_losts, .int i_h_bestOrder, .int i_h_bestMany, .int i_h_spot, .int i_h_begin, .int i_h_isForm, .int i_h_letter, .ref h_tells, .int i_h_faultReason, .int i_h_faultCause])), (h_s, .inl (cI, 703, .inl v76.2))]) dX6_goMend_143 pkX6_laysRow gX6_goMend_X6_laysRow (kkX6_laysRow l D cI cR h h_s h_aside h_before h_past h_text h_lost h_tells i_h_known i_h_length i_h_losts i_h_bestOrder i_h_bestMany i_h_spot i_h_begin i_h_isForm i_h_letter i_h_faultReason i_h_faultCause v35 v73 v76 h77) ⟨rfl, rfl⟩ ⟨Nat.le_of_ble_eq_true rfl, Nat.le_of_ble_eq_true rfl⟩ rfl rfl (Nat.le_of_ble_eq_true rfl) 0 rfl rfl [0, 1] [] rfl rfl ⟨rfl, rfl, by decide⟩ ⟨Nat.zero_le _, Nat.zero_le _⟩ [0, 1] rfl rfl ?_
      refine G_goto X (tgt := 150) dX6_goMend_146 (by decide) ?_
      cases h78
      exact J47
  refine G_lv [2, 3, 1, 0] rfl ?_
  refine itr_ind (P := fun s25 : (Int32 × (Nat → Int32)) => G p l e rmX6_goMend s m args below meth c D A 5 Q 0 0 45 [(0, .ref h), (1, .int x0), (2, .int v1), (3, .int s25.1)] [] [(h, .inr (6, [.ref h_s, .ref h_aside, .ref h_before, .ref h_past, .int i_h_known, .ref h_text, .int i_h_length, .ref h_lost, .int i_h_losts, .int i_h_bestOrder, .int i_h_bestMany, .int i_h_spot, .int i_h_begin, .int i_h_isForm, .int i_h_letter, .ref h_tells, .int i_h_faultReason, .int i_h_faultCause])), (h_s, .inl (cI, 703, .inl s25.2))]) (fun s25 o32 h29 h30 h31 => ?_) FU _ h27
  unfold SX6_goMend_45 at h29
  refine G_iload_n X dX6_goMend_45 3 rfl ?_
  refine G_bipush X (v := 8) dX6_goMend_46 (by decide) ?_
  refine G_icmp_ge X (tgt := 118) dX6_goMend_48 (by decide) (fun h79 => ?_) (fun h79 => ?_)
  · have h80 := ifp h79 h29
    cases h80
    have h81 := h31 _ rfl
    subst h81
    exact G_lv [0, 1, 2] rfl (J33)
  · have h82 := ifn h79 h29
    refine G_aload_n X dX6_goMend_51 0 rfl ?_
    refine G_iload_n X dX6_goMend_52 1 rfl ?_
    refine G_iload_n X dX6_goMend_53 3 rfl ?_
    obtain ⟨v83, h84, h85⟩ := bnd h82
    refine G1_calli X (As := [.int x0, .int s25.1]) (rest := []) (wr := []) (ws' := [(h, .inr (6, [.ref h_s, .ref h_aside, .ref h_before, .ref h_past, .int i_h_known, .ref h_text, .int i_h_length, .ref h_lost, .int i_h_losts, .int i_h_bestOrder, .int i_h_bestMany, .int i_h_spot, .int i_h_begin, .int i_h_isForm, .int i_h_letter, .ref h_tells, .int i_h_faultReason, .int i_h_faultCause])), (h_s, .inl (cI, 703, .inl s25.2))]) dX6_goMend_54 pkX6_heard gX6_goMend_X6_heard (kkX6_heard l D cI cR h h_s h_aside h_before h_past h_text h_lost h_tells i_h_known i_h_length i_h_losts i_h_bestOrder i_h_bestMany i_h_spot i_h_begin i_h_isForm i_h_letter i_h_faultReason i_h_faultCause s25.2 x0 s25.1 v83 h84) ⟨rfl, rfl⟩ ⟨Nat.le_of_ble_eq_true rfl, Nat.le_of_ble_eq_true rfl⟩ rfl rfl (Nat.le_of_ble_eq_true rfl) 0 rfl rfl [0, 1] [] rfl rfl ⟨rfl, rfl, by decide⟩ ⟨Nat.zero_le _, Nat.zero_le _⟩ [0, 1] rfl rfl ?_
    refine G_istore X (lv' := [(4, .int v83), (0, .ref h), (1, .int x0), (2, .int v1), (3, .int s25.1)]) dX6_goMend_57 (by decide) rfl ?_
    refine G_aload_n X dX6_goMend_59 1 rfl ?_
    refine G_iload_n X dX6_goMend_60 2 rfl ?_
    refine G_iconst X (v := 5) dX6_goMend_61 (by decide) ?_
    refine G_iload_n X dX6_goMend_62 4 rfl ?_
    refine G_iadd X dX6_goMend_63 ?_
    refine G_iload X dX6_goMend_64 0 rfl ?_
    obtain ⟨v86, h87, h88⟩ := bnd h85
    refine G1_callv X (As := [.int x0, .int (5 + s25.1), .int v83]) (rest := []) (wr := []) (ws' := [(h, .inr (6, [.ref h_s, .ref h_aside, .ref h_before, .ref h_past, .int i_h_known, .ref h_text, .int i_h_length, .ref h_lost, .int i_h_losts, .int i_h_bestOrder, .int i_h_bestMany, .int i_h_spot, .int i_h_begin, .int i_h_isForm, .int i_h_letter, .ref h_tells, .int i_h_faultReason, .int i_h_faultCause])), (h_s, .inl (cI, 703, .inl v86))]) dX6_goMend_66 pkX6_lays gX6_goMend_X6_lays (kkX6_lays l D cI cR h h_s h_aside h_before h_past h_text h_lost h_tells i_h_known i_h_length i_h_losts i_h_bestOrder i_h_bestMany i_h_spot i_h_begin i_h_isForm i_h_letter i_h_faultReason i_h_faultCause s25.2 x0 (5 + s25.1) v83 v86 h87) ⟨rfl, rfl⟩ ⟨Nat.le_of_ble_eq_true rfl, Nat.le_of_ble_eq_true rfl⟩ rfl rfl (Nat.le_of_ble_eq_true rfl) 0 rfl rfl [0, 1] [] rfl rfl ⟨rfl, rfl, by decide⟩ ⟨Nat.zero_le _, Nat.zero_le _⟩ [0, 1] rfl rfl ?_
    refine G_aload_n X dX6_goMend_69 1 rfl ?_
    refine G_iload_n X dX6_goMend_70 2 rfl ?_
    refine G_bipush X (v := 21) dX6_goMend_71 (by decide) ?_
    refine G_iload_n X dX6_goMend_73 4 rfl ?_
    refine G_iadd X dX6_goMend_74 ?_
    refine G_iload X dX6_goMend_75 0 rfl ?_
    refine G_if_le X (tgt := 98) dX6_goMend_77 (by decide) (fun h89 => ?_) (fun h89 => ?_)
    · have h90 := ifp h89 h88
      refine G_iconst X (v := 0) dX6_goMend_98 (by decide) ?_
      obtain ⟨v91, h92, h93⟩ := bnd h90
      refine G1_callv X (As := [.int x0, .int (21 + s25.1), .int 0]) (rest := []) (wr := []) (ws' := [(h, .inr (6, [.ref h_s, .ref h_aside, .ref h_before, .ref h_past, .int i_h_known, .ref h_text, .int i_h_length, .ref h_lost, .int i_h_losts, .int i_h_bestOrder, .int i_h_bestMany, .int i_h_spot, .int i_h_begin, .int i_h_isForm, .int i_h_letter, .ref h_tells, .int i_h_faultReason, .int i_h_faultCause])), (h_s, .inl (cI, 703, .inl v91))]) dX6_goMend_99 pkX6_lays gX6_goMend_X6_lays (kkX6_lays l D cI cR h h_s h_aside h_before h_past h_text h_lost h_tells i_h_known i_h_length i_h_losts i_h_bestOrder i_h_bestMany i_h_spot i_h_begin i_h_isForm i_h_letter i_h_faultReason i_h_faultCause v86 x0 (21 + s25.1) 0 v91 h92) ⟨rfl, rfl⟩ ⟨Nat.le_of_ble_eq_true rfl, Nat.le_of_ble_eq_true rfl⟩ rfl rfl (Nat.le_of_ble_eq_true rfl) 0 rfl rfl [0, 1] [] rfl rfl ⟨rfl, rfl, by decide⟩ ⟨Nat.zero_le _, Nat.zero_le _⟩ [0, 1] rfl rfl ?_
      refine G_aload_n X dX6_goMend_102 1 rfl ?_
      refine G_iload_n X dX6_goMend_103 2 rfl ?_
      refine G_bipush X (v := 13) dX6_goMend_104 (by decide) ?_
      refine G_iload_n X dX6_goMend_106 4 rfl ?_
      refine G_iadd X dX6_goMend_107 ?_
      refine G_iconst X (v := 0) dX6_goMend_108 (by decide) ?_
      obtain ⟨v94, h95, h96⟩ := bnd h93
      refine G1_callv X (As := [.int x0, .int (13 + s25.1), .int 0]) (rest := []) (wr := []) (ws' := [(h, .inr (6, [.ref h_s, .ref h_aside, .ref h_before, .ref h_past, .int i_h_known, .ref h_text, .int i_h_length, .ref h_lost, .int i_h_losts, .int i_h_bestOrder, .int i_h_bestMany, .int i_h_spot, .int i_h_begin, .int i_h_isForm, .int i_h_letter, .ref h_tells, .int i_h_faultReason, .int i_h_faultCause])), (h_s, .inl (cI, 703, .inl v94))]) dX6_goMend_109 pkX6_lays gX6_goMend_X6_lays (kkX6_lays l D cI cR h h_s h_aside h_before h_past h_text h_lost h_tells i_h_known i_h_length i_h_losts i_h_bestOrder i_h_bestMany i_h_spot i_h_begin i_h_isForm i_h_letter i_h_faultReason i_h_faultCause v91 x0 (13 + s25.1) 0 v94 h95) ⟨rfl, rfl⟩ ⟨Nat.le_of_ble_eq_true rfl, Nat.le_of_ble_eq_true rfl⟩ rfl rfl (Nat.le_of_ble_eq_true rfl) 0 rfl rfl [0, 1] [] rfl rfl ⟨rfl, rfl, by decide⟩ ⟨Nat.zero_le _, Nat.zero_le _⟩ [0, 1] rfl rfl ?_
      refine G_iinc X (v := (s25.1 + 1)) (lv' := [(3, .int (s25.1 + 1)), (4, .int v83), (0, .ref h), (1, .int x0), (2, .int v1)]) dX6_goMend_112 4 rfl rfl (by decide) rfl ?_
      refine G_goto X (tgt := 45) dX6_goMend_115 (by decide) ?_
      cases h96
      exact G_lv [2, 3, 4, 0] rfl (h30 _ rfl)
    · have h97 := ifn h89 h88
      refine G_iload X dX6_goMend_80 0 rfl ?_
      refine G_aload_n X dX6_goMend_82 1 rfl ?_
      refine G_iload_n X dX6_goMend_83 2 rfl ?_
      refine G_bipush X (v := 13) dX6_goMend_84 (by decide) ?_
      refine G_iload_n X dX6_goMend_86 4 rfl ?_
      refine G_iadd X dX6_goMend_87 ?_
      obtain ⟨v98, h99, h100⟩ := bnd h97
      refine G1_calli X (As := [.int x0, .int (13 + s25.1)]) (rest := [.int v83, .int (21 + s25.1), .int x0, .ref h]) (wr := []) (ws' := [(h, .inr (6, [.ref h_s, .ref h_aside, .ref h_before, .ref h_past, .int i_h_known, .ref h_text, .int i_h_length, .ref h_lost, .int i_h_losts, .int i_h_bestOrder, .int i_h_bestMany, .int i_h_spot, .int i_h_begin, .int i_h_isForm, .int i_h_letter, .ref h_tells, .int i_h_faultReason, .int i_h_faultCause])), (h_s, .inl (cI, 703, .inl v86))]) dX6_goMend_88 pkX6_of gX6_goMend_X6_of (kkX6_of l D cI cR h h_s h_aside h_before h_past h_text h_lost h_tells i_h_known i_h_length i_h_losts i_h_bestOrder i_h_bestMany i_h_spot i_h_begin i_h_isForm i_h_letter i_h_faultReason i_h_faultCause v86 x0 (13 + s25.1) v98 h99) ⟨rfl, rfl⟩ ⟨Nat.le_of_ble_eq_true rfl, Nat.le_of_ble_eq_true rfl⟩ rfl rfl (Nat.le_of_ble_eq_true rfl) 0 rfl rfl [0, 1] [] rfl rfl ⟨rfl, rfl, by decide⟩ ⟨Nat.zero_le _, Nat.zero_le _⟩ [0, 1] rfl rfl ?_
      refine G_icmp_eq X (tgt := 98) dX6_goMend_91 (by decide) (fun h101 => ?_) (fun h101 => ?_)
      · have h102 := ifp h101 h100
        refine G_iconst X (v := 0) dX6_goMend_98 (by decide) ?_
        obtain ⟨v103, h104, h105⟩ := bnd h102
        refine G1_callv X (As := [.int x0, .int (21 + s25.1), .int 0]) (rest := []) (wr := []) (ws' := [(h, .inr (6, [.ref h_s, .ref h_aside, .ref h_before, .ref h_past, .int i_h_known, .ref h_text, .int i_h_length, .ref h_lost, .int i_h_losts, .int i_h_bestOrder, .int i_h_bestMany, .int i_h_spot, .int i_h_begin, .int i_h_isForm, .int i_h_letter, .ref h_tells, .int i_h_faultReason, .int i_h_faultCause])), (h_s, .inl (cI, 703, .inl v103))]) dX6_goMend_99 pkX6_lays gX6_goMend_X6_lays (kkX6_lays l D cI cR h h_s h_aside h_before h_past h_text h_lost h_tells i_h_known i_h_length i_h_losts i_h_bestOrder i_h_bestMany i_h_spot i_h_begin i_h_isForm i_h_letter i_h_faultReason i_h_faultCause v86 x0 (21 + s25.1) 0 v103 h104) ⟨rfl, rfl⟩ ⟨Nat.le_of_ble_eq_true rfl, Nat.le_of_ble_eq_true rfl⟩ rfl rfl (Nat.le_of_ble_eq_true rfl) 0 rfl rfl [0, 1] [] rfl rfl ⟨rfl, rfl, by decide⟩ ⟨Nat.zero_le _, Nat.zero_le _⟩ [0, 1] rfl rfl ?_
        refine G_aload_n X dX6_goMend_102 1 rfl ?_
        refine G_iload_n X dX6_goMend_103 2 rfl ?_
        refine G_bipush X (v := 13) dX6_goMend_104 (by decide) ?_
        refine G_iload_n X dX6_goMend_106 4 rfl ?_
        refine G_iadd X dX6_goMend_107 ?_
        refine G_iconst X (v := 0) dX6_goMend_108 (by decide) ?_
        obtain ⟨v106, h107, h108⟩ := bnd h105
        refine G1_callv X (As := [.int x0, .int (13 + s25.1), .int 0]) (rest := []) (wr := []) (ws' := [(h, .inr (6, [.ref h_s, .ref h_aside, .ref h_before, .ref h_past, .int i_h_known, .ref h_text, .int i_h_length, .ref h_lost, .int i_h_losts, .int i_h_bestOrder, .int i_h_bestMany, .int i_h_spot, .int i_h_begin, .int i_h_isForm, .int i_h_letter, .ref h_tells, .int i_h_faultReason, .int i_h_faultCause])), (h_s, .inl (cI, 703, .inl v106))]) dX6_goMend_109 pkX6_lays gX6_goMend_X6_lays (kkX6_lays l D cI cR h h_s h_aside h_before h_past h_text h_lost h_tells i_h_known i_h_length i_h_losts i_h_bestOrder i_h_bestMany i_h_spot i_h_begin i_h_isForm i_h_letter i_h_faultReason i_h_faultCause v103 x0 (13 + s25.1) 0 v106 h107) ⟨rfl, rfl⟩ ⟨Nat.le_of_ble_eq_true rfl, Nat.le_of_ble_eq_true rfl⟩ rfl rfl (Nat.le_of_ble_eq_true rfl) 0 rfl rfl [0, 1] [] rfl rfl ⟨rfl, rfl, by decide⟩ ⟨Nat.zero_le _, Nat.zero_le _⟩ [0, 1] rfl rfl ?_
        refine G_iinc X (v := (s25.1 + 1)) (lv' := [(3, .int (s25.1 + 1)), (4, .int v83), (0, .ref h), (1, .int x0), (2, .int v1)]) dX6_goMend_112 4 rfl rfl (by decide) rfl ?_
        refine G_goto X (tgt := 45) dX6_goMend_115 (by decide) ?_
        cases h108
        exact G_lv [2, 3, 4, 0] rfl (h30 _ rfl)
      · have h109 := ifn h101 h100
        refine G_iconst X (v := 1) dX6_goMend_94 (by decide) ?_
        refine G_goto X (tgt := 99) dX6_goMend_95 (by decide) ?_
        obtain ⟨v110, h111, h112⟩ := bnd h109
        refine G1_callv X (As := [.int x0, .int (21 + s25.1), .int 1]) (rest := []) (wr := []) (ws' := [(h, .inr (6, [.ref h_s, .ref h_aside, .ref h_before, .ref h_past, .int i_h_known, .ref h_text, .int i_h_length, .ref h_lost, .int i_h_losts, .int i_h_bestOrder, .int i_h_bestMany, .int i_h_spot, .int i_h_begin, .int i_h_isForm, .int i_h_letter, .ref h_tells, .int i_h_faultReason, .int i_h_faultCause])), (h_s, .inl (cI, 703, .inl v110))]) dX6_goMend_99 pkX6_lays gX6_goMend_X6_lays (kkX6_lays l D cI cR h h_s h_aside h_before h_past h_text h_lost h_tells i_h_known i_h_length i_h_losts i_h_bestOrder i_h_bestMany i_h_spot i_h_begin i_h_isForm i_h_letter i_h_faultReason i_h_faultCause v86 x0 (21 + s25.1) 1 v110 h111) ⟨rfl, rfl⟩ ⟨Nat.le_of_ble_eq_true rfl, Nat.le_of_ble_eq_true rfl⟩ rfl rfl (Nat.le_of_ble_eq_true rfl) 0 rfl rfl [0, 1] [] rfl rfl ⟨rfl, rfl, by decide⟩ ⟨Nat.zero_le _, Nat.zero_le _⟩ [0, 1] rfl rfl ?_
        refine G_aload_n X dX6_goMend_102 1 rfl ?_
        refine G_iload_n X dX6_goMend_103 2 rfl ?_
        refine G_bipush X (v := 13) dX6_goMend_104 (by decide) ?_
        refine G_iload_n X dX6_goMend_106 4 rfl ?_
        refine G_iadd X dX6_goMend_107 ?_
        refine G_iconst X (v := 0) dX6_goMend_108 (by decide) ?_
        obtain ⟨v113, h114, h115⟩ := bnd h112
        refine G1_callv X (As := [.int x0, .int (13 + s25.1), .int 0]) (rest := []) (wr := []) (ws' := [(h, .inr (6, [.ref h_s, .ref h_aside, .ref h_before, .ref h_past, .int i_h_known, .ref h_text, .int i_h_length, .ref h_lost, .int i_h_losts, .int i_h_bestOrder, .int i_h_bestMany, .int i_h_spot, .int i_h_begin, .int i_h_isForm, .int i_h_letter, .ref h_tells, .int i_h_faultReason, .int i_h_faultCause])), (h_s, .inl (cI, 703, .inl v113))]) dX6_goMend_109 pkX6_lays gX6_goMend_X6_lays (kkX6_lays l D cI cR h h_s h_aside h_before h_past h_text h_lost h_tells i_h_known i_h_length i_h_losts i_h_bestOrder i_h_bestMany i_h_spot i_h_begin i_h_isForm i_h_letter i_h_faultReason i_h_faultCause v110 x0 (13 + s25.1) 0 v113 h114) ⟨rfl, rfl⟩ ⟨Nat.le_of_ble_eq_true rfl, Nat.le_of_ble_eq_true rfl⟩ rfl rfl (Nat.le_of_ble_eq_true rfl) 0 rfl rfl [0, 1] [] rfl rfl ⟨rfl, rfl, by decide⟩ ⟨Nat.zero_le _, Nat.zero_le _⟩ [0, 1] rfl rfl ?_
        refine G_iinc X (v := (s25.1 + 1)) (lv' := [(3, .int (s25.1 + 1)), (4, .int v83), (0, .ref h), (1, .int x0), (2, .int v1)]) dX6_goMend_112 4 rfl rfl (by decide) rfl ?_
        refine G_goto X (tgt := 45) dX6_goMend_115 (by decide) ?_
        cases h115
        exact G_lv [2, 3, 4, 0] rfl (h30 _ rfl)
def rmX6_goSwap : Room := { frames := 1, cells := 0, slots := 0, locals := 23 }
theorem pkX6_goSwap : cK yX6_goSwap wsX6_goSwap cX6_goSwap 5 (some .int) 2 RX6 := ⟨⟨_, rfl⟩, by decide +kernel⟩
theorem hiX6_goSwap_X6 : ∀ w ∈ wsX60, w ∈ wsX6_goSwap := by decide +kernel
theorem flX6_goSwap_7 : Cond.fieldLink RX6 7 "EchoMarginsModel" "s" "[I" ∈ wsX6_goSwap := by decide +kernel
set_option maxHeartbeats 4000000 in
set_option maxRecDepth 100000 in
theorem kkX6_goSwap (l : Launch) (D : va_G) (cI cR : ClassId) (h h_s h_aside h_before h_past h_text h_lost h_tells : Nat) (i_h_known : Int32) (i_h_length : Int32) (i_h_losts : Int32) (i_h_bestOrder : Int32) (i_h_bestMany : Int32) (i_h_spot : Int32) (i_h_begin : Int32) (i_h_isForm : Int32) (i_h_letter : Int32) (i_h_faultReason : Int32) (i_h_faultCause : Int32) (f_h_s : Nat → Int32) (x0 : Int32) (x1 : Int32) (z : (Int32 × (Nat → Int32))) (hz : MX6_goSwap f_h_s x0 x1 = some z) : cI1 l yX6_goSwap wsX6_goSwap rmX6_goSwap D cI cR [.ref h, .int x0, .int x1] [(h, .inr (6, [.ref h_s, .ref h_aside, .ref h_before, .ref h_past, .int i_h_known, .ref h_text, .int i_h_length, .ref h_lost, .int i_h_losts, .int i_h_bestOrder, .int i_h_bestMany, .int i_h_spot, .int i_h_begin, .int i_h_isForm, .int i_h_letter, .ref h_tells, .int i_h_faultReason, .int i_h_faultCause])), (h_s, .inl (cI, 703, .inl f_h_s))] z.1 [(h, .inr (6, [.ref h_s, .ref h_aside, .ref h_before, .ref h_past, .int i_h_known, .ref h_text, .int i_h_length, .ref h_lost, .int i_h_losts, .int i_h_bestOrder, .int i_h_bestMany, .int i_h_spot, .int i_h_begin, .int i_h_isForm, .int i_h_letter, .ref h_tells, .int i_h_faultReason, .int i_h_faultCause])), (h_s, .inl (cI, 703, .inl z.2))] := by
  unfold MX6_goSwap at hz
  refine kI_of (cc := cX6_goSwap) (maxL := 5) (own := RX6) (by decide +kernel) rfl rfl (Nat.le_of_ble_eq_true rfl) (lv0 := [(0, .ref h), (1, .int x0), (2, .int x1)]) rfl (fun p e s m args below meth c A Q X rt => ?_)
  refine G_aload_n X dX6_goSwap_0 0 rfl ?_
  refine G_iload_n X dX6_goSwap_1 1 rfl ?_
  refine G_iconst X (v := 0) dX6_goSwap_2 (by decide) ?_
  obtain ⟨v1, h2, h3⟩ := bnd hz
  refine G1_calli X (As := [.int x0, .int 0]) (rest := []) (wr := []) (ws' := [(h, .inr (6, [.ref h_s, .ref h_aside, .ref h_before, .ref h_past, .int i_h_known, .ref h_text, .int i_h_length, .ref h_lost, .int i_h_losts, .int i_h_bestOrder, .int i_h_bestMany, .int i_h_spot, .int i_h_begin, .int i_h_isForm, .int i_h_letter, .ref h_tells, .int i_h_faultReason, .int i_h_faultCause])), (h_s, .inl (cI, 703, .inl f_h_s))]) dX6_goSwap_3 pkX6_of gX6_goSwap_X6_of (kkX6_of l D cI cR h h_s h_aside h_before h_past h_text h_lost h_tells i_h_known i_h_length i_h_losts i_h_bestOrder i_h_bestMany i_h_spot i_h_begin i_h_isForm i_h_letter i_h_faultReason i_h_faultCause f_h_s x0 0 v1 h2) ⟨rfl, rfl⟩ ⟨Nat.le_of_ble_eq_true rfl, Nat.le_of_ble_eq_true rfl⟩ rfl rfl (Nat.le_of_ble_eq_true rfl) 0 rfl rfl [0, 1] [] rfl rfl ⟨rfl, rfl, by decide⟩ ⟨Nat.zero_le _, Nat.zero_le _⟩ [0, 1] rfl rfl ?_
  refine G_aload_n X dX6_goSwap_6 0 rfl ?_
  refine G_iload_n X dX6_goSwap_7 2 rfl ?_
  refine G_iconst X (v := 0) dX6_goSwap_8 (by decide) ?_
  obtain ⟨v4, h5, h6⟩ := bnd h3
  refine G1_calli X (As := [.int x1, .int 0]) (rest := [.int v1]) (wr := []) (ws' := [(h, .inr (6, [.ref h_s, .ref h_aside, .ref h_before, .ref h_past, .int i_h_known, .ref h_text, .int i_h_length, .ref h_lost, .int i_h_losts, .int i_h_bestOrder, .int i_h_bestMany, .int i_h_spot, .int i_h_begin, .int i_h_isForm, .int i_h_letter, .ref h_tells, .int i_h_faultReason, .int i_h_faultCause])), (h_s, .inl (cI, 703, .inl f_h_s))]) dX6_goSwap_9 pkX6_of gX6_goSwap_X6_of (kkX6_of l D cI cR h h_s h_aside h_before h_past h_text h_lost h_tells i_h_known i_h_length i_h_losts i_h_bestOrder i_h_bestMany i_h_spot i_h_begin i_h_isForm i_h_letter i_h_faultReason i_h_faultCause f_h_s x1 0 v4 h5) ⟨rfl, rfl⟩ ⟨Nat.le_of_ble_eq_true rfl, Nat.le_of_ble_eq_true rfl⟩ rfl rfl (Nat.le_of_ble_eq_true rfl) 0 rfl rfl [0, 1] [] rfl rfl ⟨rfl, rfl, by decide⟩ ⟨Nat.zero_le _, Nat.zero_le _⟩ [0, 1] rfl rfl ?_
  refine G_isub X dX6_goSwap_12 ?_
  refine G_istore_n X (lv' := [(3, .int (v1 - v4)), (0, .ref h), (1, .int x0), (2, .int x1)]) dX6_goSwap_13 (by decide) rfl ?_
  refine G_iload_n X dX6_goSwap_14 0 rfl ?_
  obtain ⟨j7, h8, h9⟩ := bnd h6
  have J10 : G p l e rmX6_goSwap s m args below meth c D A 5 Q 0 0 24 [(0, .ref h), (1, .int x0), (2, .int x1)] [.int j7] [(h, .inr (6, [.ref h_s, .ref h_aside, .ref h_before, .ref h_past, .int i_h_known, .ref h_text, .int i_h_length, .ref h_lost, .int i_h_losts, .int i_h_bestOrder, .int i_h_bestMany, .int i_h_spot, .int i_h_begin, .int i_h_isForm, .int i_h_letter, .ref h_tells, .int i_h_faultReason, .int i_h_faultCause])), (h_s, .inl (cI, 703, .inl f_h_s))] := by
    refine G_istore_n X (lv' := [(3, .int j7), (0, .ref h), (1, .int x0), (2, .int x1)]) dX6_goSwap_24 (by decide) rfl ?_
    refine G_aload_n X dX6_goSwap_25 1 rfl ?_
    refine G_iload_n X dX6_goSwap_26 2 rfl ?_
    refine G_iconst X (v := 0) dX6_goSwap_27 (by decide) ?_
    obtain ⟨v11, h12, h13⟩ := bnd h9
    refine G1_calli X (As := [.int x0, .int 0]) (rest := []) (wr := []) (ws' := [(h, .inr (6, [.ref h_s, .ref h_aside, .ref h_before, .ref h_past, .int i_h_known, .ref h_text, .int i_h_length, .ref h_lost, .int i_h_losts, .int i_h_bestOrder, .int i_h_bestMany, .int i_h_spot, .int i_h_begin, .int i_h_isForm, .int i_h_letter, .ref h_tells, .int i_h_faultReason, .int i_h_faultCause])), (h_s, .inl (cI, 703, .inl f_h_s))]) dX6_goSwap_28 pkX6_of gX6_goSwap_X6_of (kkX6_of l D cI cR h h_s h_aside h_before h_past h_text h_lost h_tells i_h_known i_h_length i_h_losts i_h_bestOrder i_h_bestMany i_h_spot i_h_begin i_h_isForm i_h_letter i_h_faultReason i_h_faultCause f_h_s x0 0 v11 h12) ⟨rfl, rfl⟩ ⟨Nat.le_of_ble_eq_true rfl, Nat.le_of_ble_eq_true rfl⟩ rfl rfl (Nat.le_of_ble_eq_true rfl) 0 rfl rfl [0, 1] [] rfl rfl ⟨rfl, rfl, by decide⟩ ⟨Nat.zero_le _, Nat.zero_le _⟩ [0, 1] rfl rfl ?_
    refine G_istore X (lv' := [(4, .int v11), (3, .int j7), (0, .ref h), (1, .int x0), (2, .int x1)]) dX6_goSwap_31 (by decide) rfl ?_
    refine G_aload_n X dX6_goSwap_33 2 rfl ?_
    refine G_iload_n X dX6_goSwap_34 3 rfl ?_
    refine G_iconst X (v := 0) dX6_goSwap_35 (by decide) ?_
    refine G_aload_n X dX6_goSwap_36 2 rfl ?_
    refine G_iload_n X dX6_goSwap_37 4 rfl ?_
    refine G_iconst X (v := 0) dX6_goSwap_38 (by decide) ?_
    obtain ⟨v14, h15, h16⟩ := bnd h13
    refine G1_calli X (As := [.int x1, .int 0]) (rest := [.int 0, .int x0, .ref h]) (wr := []) (ws' := [(h, .inr (6, [.ref h_s, .ref h_aside, .ref h_before, .ref h_past, .int i_h_known, .ref h_text, .int i_h_length, .ref h_lost, .int i_h_losts, .int i_h_bestOrder, .int i_h_bestMany, .int i_h_spot, .int i_h_begin, .int i_h_isForm, .int i_h_letter, .ref h_tells, .int i_h_faultReason, .int i_h_faultCause])), (h_s, .inl (cI, 703, .inl f_h_s))]) dX6_goSwap_39 pkX6_of gX6_goSwap_X6_of (kkX6_of l D cI cR h h_s h_aside h_before h_past h_text h_lost h_tells i_h_known i_h_length i_h_losts i_h_bestOrder i_h_bestMany i_h_spot i_h_begin i_h_isForm i_h_letter i_h_faultReason i_h_faultCause f_h_s x1 0 v14 h15) ⟨rfl, rfl⟩ ⟨Nat.le_of_ble_eq_true rfl, Nat.le_of_ble_eq_true rfl⟩ rfl rfl (Nat.le_of_ble_eq_true rfl) 0 rfl rfl [0, 1] [] rfl rfl ⟨rfl, rfl, by decide⟩ ⟨Nat.zero_le _, Nat.zero_le _⟩ [0, 1] rfl rfl ?_
    obtain ⟨v17, h18, h19⟩ := bnd h16
    refine G1_callv X (As := [.int x0, .int 0, .int v14]) (rest := []) (wr := []) (ws' := [(h, .inr (6, [.ref h_s, .ref h_aside, .ref h_before, .ref h_past, .int i_h_known, .ref h_text, .int i_h_length, .ref h_lost, .int i_h_losts, .int i_h_bestOrder, .int i_h_bestMany, .int i_h_spot, .int i_h_begin, .int i_h_isForm, .int i_h_letter, .ref h_tells, .int i_h_faultReason, .int i_h_faultCause])), (h_s, .inl (cI, 703, .inl v17))]) dX6_goSwap_42 pkX6_lays gX6_goSwap_X6_lays (kkX6_lays l D cI cR h h_s h_aside h_before h_past h_text h_lost h_tells i_h_known i_h_length i_h_losts i_h_bestOrder i_h_bestMany i_h_spot i_h_begin i_h_isForm i_h_letter i_h_faultReason i_h_faultCause f_h_s x0 0 v14 v17 h18) ⟨rfl, rfl⟩ ⟨Nat.le_of_ble_eq_true rfl, Nat.le_of_ble_eq_true rfl⟩ rfl rfl (Nat.le_of_ble_eq_true rfl) 0 rfl rfl [0, 1] [] rfl rfl ⟨rfl, rfl, by decide⟩ ⟨Nat.zero_le _, Nat.zero_le _⟩ [0, 1] rfl rfl ?_
    refine G_aload_n X dX6_goSwap_45 2 rfl ?_
    refine G_iload_n X dX6_goSwap_46 4 rfl ?_
    refine G_iconst X (v := 0) dX6_goSwap_47 (by decide) ?_
    refine G_iload X dX6_goSwap_48 0 rfl ?_
    obtain ⟨v20, h21, h22⟩ := bnd h19
    refine G1_callv X (As := [.int x1, .int 0, .int v11]) (rest := []) (wr := []) (ws' := [(h, .inr (6, [.ref h_s, .ref h_aside, .ref h_before, .ref h_past, .int i_h_known, .ref h_text, .int i_h_length, .ref h_lost, .int i_h_losts, .int i_h_bestOrder, .int i_h_bestMany, .int i_h_spot, .int i_h_begin, .int i_h_isForm, .int i_h_letter, .ref h_tells, .int i_h_faultReason, .int i_h_faultCause])), (h_s, .inl (cI, 703, .inl v20))]) dX6_goSwap_50 pkX6_lays gX6_goSwap_X6_lays (kkX6_lays l D cI cR h h_s h_aside h_before h_past h_text h_lost h_tells i_h_known i_h_length i_h_losts i_h_bestOrder i_h_bestMany i_h_spot i_h_begin i_h_isForm i_h_letter i_h_faultReason i_h_faultCause v17 x1 0 v11 v20 h21) ⟨rfl, rfl⟩ ⟨Nat.le_of_ble_eq_true rfl, Nat.le_of_ble_eq_true rfl⟩ rfl rfl (Nat.le_of_ble_eq_true rfl) 0 rfl rfl [0, 1] [] rfl rfl ⟨rfl, rfl, by decide⟩ ⟨Nat.zero_le _, Nat.zero_le _⟩ [0, 1] rfl rfl ?_
    refine G_iload_n X dX6_goSwap_53 1 rfl ?_
    refine G_aload_n X dX6_goSwap_54 2 rfl ?_
    refine G_get X (i0 := 0) (ci := 6) (j := 0) (C := RX6) (ref := RX6) (T := TX6) (N := 18) dX6_goSwap_55 rfl rfl hiX6_goSwap_X6 (by decide) flX6_goSwap_7 rfl rfl ?_
    refine G_iconst X (v := 0) dX6_goSwap_58 (by decide) ?_
    obtain ⟨v23, h24, h25⟩ := bnd h22
    refine G_iald X (i0 := 1) dX6_goSwap_59 rfl h24 ?_
    refine G_iload_n X dX6_goSwap_60 1 rfl ?_
    refine G_isub X dX6_goSwap_61 ?_
    refine G_icmp_le X (tgt := 76) dX6_goSwap_62 (by decide) (fun h26 => ?_) (fun h26 => ?_)
    · have h27 := ifp h26 h25
      refine G_iload_n X dX6_goSwap_76 1 rfl ?_
      cases h27
      exact rt _ _ _ _ dX6_goSwap_77 ⟨rfl, rfl⟩
    · have h28 := ifn h26 h25
      refine G_aload_n X dX6_goSwap_65 2 rfl ?_
      refine G_get X (i0 := 0) (ci := 6) (j := 0) (C := RX6) (ref := RX6) (T := TX6) (N := 18) dX6_goSwap_66 rfl rfl hiX6_goSwap_X6 (by decide) flX6_goSwap_7 rfl rfl ?_
      refine G_iconst X (v := 0) dX6_goSwap_69 (by decide) ?_
      obtain ⟨v29, h30, h31⟩ := bnd h28
      refine G_iald X (i0 := 1) dX6_goSwap_70 rfl h30 ?_
      refine G_iload_n X dX6_goSwap_71 1 rfl ?_
      refine G_isub X dX6_goSwap_72 ?_
      refine G_goto X (tgt := 77) dX6_goSwap_73 (by decide) ?_
      cases h31
      exact rt _ _ _ _ dX6_goSwap_77 ⟨rfl, rfl⟩
  refine G_if_ge X (tgt := 23) dX6_goSwap_15 (by decide) (fun h32 => ?_) (fun h32 => ?_)
  · have h33 := ifp h32 h8
    refine G_iload_n X dX6_goSwap_23 0 rfl ?_
    cases h33
    exact G_lv [1, 2, 3] rfl (J10)
  · have h34 := ifn h32 h8
    refine G_iload_n X dX6_goSwap_18 0 rfl ?_
    refine G_ineg X dX6_goSwap_19 ?_
    refine G_goto X (tgt := 24) dX6_goSwap_20 (by decide) ?_
    cases h34
    exact G_lv [1, 2, 3] rfl (J10)
def rmX6_errorOf : Room := { frames := 2, cells := 0, slots := 0, locals := 43 }
theorem pkX6_errorOf : cK yX6_errorOf wsX6_errorOf cX6_errorOf 3 (some .int) 2 RX6 := ⟨⟨_, rfl⟩, by decide +kernel⟩
theorem flX6_errorOf_114 : Cond.constant RX6 114 (-1000001) ∈ wsX6_errorOf := by decide +kernel
theorem flX6_errorOf_115 : Cond.constant RX6 115 (-1000002) ∈ wsX6_errorOf := by decide +kernel
set_option maxHeartbeats 4000000 in
set_option maxRecDepth 100000 in
theorem kkX6_errorOf (l : Launch) (D : va_G) (cI cR : ClassId) (h h_s h_aside h_before h_past h_text h_lost h_tells : Nat) (i_h_known : Int32) (i_h_length : Int32) (i_h_losts : Int32) (i_h_bestOrder : Int32) (i_h_bestMany : Int32) (i_h_spot : Int32) (i_h_begin : Int32) (i_h_isForm : Int32) (i_h_letter : Int32) (i_h_faultReason : Int32) (i_h_faultCause : Int32) (f_h_s : Nat → Int32) (x0 : Int32) (x1 : Int32) (z : Int32) (hz : MX6_errorOf f_h_s x0 x1 = some z) : cI1 l yX6_errorOf wsX6_errorOf rmX6_errorOf D cI cR [.ref h, .int x0, .int x1] [(h, .inr (6, [.ref h_s, .ref h_aside, .ref h_before, .ref h_past, .int i_h_known, .ref h_text, .int i_h_length, .ref h_lost, .int i_h_losts, .int i_h_bestOrder, .int i_h_bestMany, .int i_h_spot, .int i_h_begin, .int i_h_isForm, .int i_h_letter, .ref h_tells, .int i_h_faultReason, .int i_h_faultCause])), (h_s, .inl (cI, 703, .inl f_h_s))] z [(h, .inr (6, [.ref h_s, .ref h_aside, .ref h_before, .ref h_past, .int i_h_known, .ref h_text, .int i_h_length, .ref h_lost, .int i_h_losts, .int i_h_bestOrder, .int i_h_bestMany, .int i_h_spot, .int i_h_begin, .int i_h_isForm, .int i_h_letter, .ref h_tells, .int i_h_faultReason, .int i_h_faultCause])), (h_s, .inl (cI, 703, .inl f_h_s))] := by
  unfold MX6_errorOf at hz
  refine kI_of (cc := cX6_errorOf) (maxL := 3) (own := RX6) (by decide +kernel) rfl rfl (Nat.le_of_ble_eq_true rfl) (lv0 := [(0, .ref h), (1, .int x0), (2, .int x1)]) rfl (fun p e s m args below meth c A Q X rt => ?_)
  refine G_aload_n X dX6_errorOf_0 0 rfl ?_
  refine G_iload_n X dX6_errorOf_1 1 rfl ?_
  obtain ⟨v1, h2, h3⟩ := bnd hz
  refine G1_calli X (As := [.int x0]) (rest := []) (wr := []) (ws' := [(h, .inr (6, [.ref h_s, .ref h_aside, .ref h_before, .ref h_past, .int i_h_known, .ref h_text, .int i_h_length, .ref h_lost, .int i_h_losts, .int i_h_bestOrder, .int i_h_bestMany, .int i_h_spot, .int i_h_begin, .int i_h_isForm, .int i_h_letter, .ref h_tells, .int i_h_faultReason, .int i_h_faultCause])), (h_s, .inl (cI, 703, .inl f_h_s))]) dX6_errorOf_2 pkX6_isRow gX6_errorOf_X6_isRow (kkX6_isRow l D cI cR h h_s h_aside h_before h_past h_text h_lost h_tells i_h_known i_h_length i_h_losts i_h_bestOrder i_h_bestMany i_h_spot i_h_begin i_h_isForm i_h_letter i_h_faultReason i_h_faultCause f_h_s x0 v1 h2) ⟨rfl, rfl⟩ ⟨Nat.le_of_ble_eq_true rfl, Nat.le_of_ble_eq_true rfl⟩ rfl rfl (Nat.le_of_ble_eq_true rfl) 0 rfl rfl [0, 1] [] rfl rfl ⟨rfl, rfl, by decide⟩ ⟨Nat.zero_le _, Nat.zero_le _⟩ [0, 1] rfl rfl ?_
  refine G_if_ne X (tgt := 13) dX6_errorOf_5 (by decide) (fun h4 => ?_) (fun h4 => ?_)
  · have h5 := ifp h4 h3
    refine G_ldc X dX6_errorOf_8 flX6_errorOf_114 ?_
    refine G_goto X (tgt := 28) dX6_errorOf_10 (by decide) ?_
    cases h5
    exact rt _ _ _ _ dX6_errorOf_28 ⟨rfl, rfl⟩
  · have h6 := ifn h4 h3
    refine G_aload_n X dX6_errorOf_13 0 rfl ?_
    refine G_iload_n X dX6_errorOf_14 1 rfl ?_
    obtain ⟨v7, h8, h9⟩ := bnd h6
    refine G1_calli X (As := [.int x0]) (rest := []) (wr := []) (ws' := [(h, .inr (6, [.ref h_s, .ref h_aside, .ref h_before, .ref h_past, .int i_h_known, .ref h_text, .int i_h_length, .ref h_lost, .int i_h_losts, .int i_h_bestOrder, .int i_h_bestMany, .int i_h_spot, .int i_h_begin, .int i_h_isForm, .int i_h_letter, .ref h_tells, .int i_h_faultReason, .int i_h_faultCause])), (h_s, .inl (cI, 703, .inl f_h_s))]) dX6_errorOf_15 pkX6_lives gX6_errorOf_X6_lives (kkX6_lives l D cI cR h h_s h_aside h_before h_past h_text h_lost h_tells i_h_known i_h_length i_h_losts i_h_bestOrder i_h_bestMany i_h_spot i_h_begin i_h_isForm i_h_letter i_h_faultReason i_h_faultCause f_h_s x0 v7 h8) ⟨rfl, rfl⟩ ⟨Nat.le_of_ble_eq_true rfl, Nat.le_of_ble_eq_true rfl⟩ rfl rfl (Nat.le_of_ble_eq_true rfl) 0 rfl rfl [0, 1] [] rfl rfl ⟨rfl, rfl, by decide⟩ ⟨Nat.zero_le _, Nat.zero_le _⟩ [0, 1] rfl rfl ?_
    refine G_iload_n X dX6_errorOf_18 2 rfl ?_
    refine G_icmp_ne X (tgt := 26) dX6_errorOf_19 (by decide) (fun h10 => ?_) (fun h10 => ?_)
    · have h11 := ifp h10 h9
      refine G_iconst X (v := 0) dX6_errorOf_22 (by decide) ?_
      refine G_goto X (tgt := 28) dX6_errorOf_23 (by decide) ?_
      cases h11
      exact rt _ _ _ _ dX6_errorOf_28 ⟨rfl, rfl⟩
    · have h12 := ifn h10 h9
      refine G_ldc X dX6_errorOf_26 flX6_errorOf_115 ?_
      cases h12
      exact rt _ _ _ _ dX6_errorOf_28 ⟨rfl, rfl⟩
def rmX6_errorWrite : Room := { frames := 2, cells := 0, slots := 0, locals := 43 }
theorem pkX6_errorWrite : cK yX6_errorWrite wsX6_errorWrite cX6_errorWrite 4 (some .int) 3 RX6 := ⟨⟨_, rfl⟩, by decide +kernel⟩
theorem flX6_errorWrite_114 : Cond.constant RX6 114 (-1000001) ∈ wsX6_errorWrite := by decide +kernel
theorem flX6_errorWrite_115 : Cond.constant RX6 115 (-1000002) ∈ wsX6_errorWrite := by decide +kernel
set_option maxHeartbeats 4000000 in
set_option maxRecDepth 100000 in
theorem kkX6_errorWrite (l : Launch) (D : va_G) (cI cR : ClassId) (h h_s h_aside h_before h_past h_text h_lost h_tells : Nat) (i_h_known : Int32) (i_h_length : Int32) (i_h_losts : Int32) (i_h_bestOrder : Int32) (i_h_bestMany : Int32) (i_h_spot : Int32) (i_h_begin : Int32) (i_h_isForm : Int32) (i_h_letter : Int32) (i_h_faultReason : Int32) (i_h_faultCause : Int32) (f_h_s : Nat → Int32) (x0 : Int32) (x1 : Int32) (x2 : Int32) (z : Int32) (hz : MX6_errorWrite f_h_s x0 x1 x2 = some z) : cI1 l yX6_errorWrite wsX6_errorWrite rmX6_errorWrite D cI cR [.ref h, .int x0, .int x1, .int x2] [(h, .inr (6, [.ref h_s, .ref h_aside, .ref h_before, .ref h_past, .int i_h_known, .ref h_text, .int i_h_length, .ref h_lost, .int i_h_losts, .int i_h_bestOrder, .int i_h_bestMany, .int i_h_spot, .int i_h_begin, .int i_h_isForm, .int i_h_letter, .ref h_tells, .int i_h_faultReason, .int i_h_faultCause])), (h_s, .inl (cI, 703, .inl f_h_s))] z [(h, .inr (6, [.ref h_s, .ref h_aside, .ref h_before, .ref h_past, .int i_h_known, .ref h_text, .int i_h_length, .ref h_lost, .int i_h_losts, .int i_h_bestOrder, .int i_h_bestMany, .int i_h_spot, .int i_h_begin, .int i_h_isForm, .int i_h_letter, .ref h_tells, .int i_h_faultReason, .int i_h_faultCause])), (h_s, .inl (cI, 703, .inl f_h_s))] := by
  unfold MX6_errorWrite at hz
  refine kI_of (cc := cX6_errorWrite) (maxL := 4) (own := RX6) (by decide +kernel) rfl rfl (Nat.le_of_ble_eq_true rfl) (lv0 := [(0, .ref h), (1, .int x0), (2, .int x1), (3, .int x2)]) rfl (fun p e s m args below meth c A Q X rt => ?_)
  refine G_aload_n X dX6_errorWrite_0 0 rfl ?_
  refine G_iload_n X dX6_errorWrite_1 1 rfl ?_
  obtain ⟨v1, h2, h3⟩ := bnd hz
  refine G1_calli X (As := [.int x0]) (rest := []) (wr := []) (ws' := [(h, .inr (6, [.ref h_s, .ref h_aside, .ref h_before, .ref h_past, .int i_h_known, .ref h_text, .int i_h_length, .ref h_lost, .int i_h_losts, .int i_h_bestOrder, .int i_h_bestMany, .int i_h_spot, .int i_h_begin, .int i_h_isForm, .int i_h_letter, .ref h_tells, .int i_h_faultReason, .int i_h_faultCause])), (h_s, .inl (cI, 703, .inl f_h_s))]) dX6_errorWrite_2 pkX6_isRow gX6_errorWrite_X6_isRow (kkX6_isRow l D cI cR h h_s h_aside h_before h_past h_text h_lost h_tells i_h_known i_h_length i_h_losts i_h_bestOrder i_h_bestMany i_h_spot i_h_begin i_h_isForm i_h_letter i_h_faultReason i_h_faultCause f_h_s x0 v1 h2) ⟨rfl, rfl⟩ ⟨Nat.le_of_ble_eq_true rfl, Nat.le_of_ble_eq_true rfl⟩ rfl rfl (Nat.le_of_ble_eq_true rfl) 0 rfl rfl [0, 1] [] rfl rfl ⟨rfl, rfl, by decide⟩ ⟨Nat.zero_le _, Nat.zero_le _⟩ [0, 1] rfl rfl ?_
  refine G_if_eq X (tgt := 26) dX6_errorWrite_5 (by decide) (fun h4 => ?_) (fun h4 => ?_)
  · have h5 := ifp h4 h3
    refine G_ldc X dX6_errorWrite_26 flX6_errorWrite_114 ?_
    refine G_goto X (tgt := 45) dX6_errorWrite_28 (by decide) ?_
    cases h5
    exact rt _ _ _ _ dX6_errorWrite_45 ⟨rfl, rfl⟩
  · have h6 := ifn h4 h3
    refine G_iload_n X dX6_errorWrite_8 2 rfl ?_
    obtain ⟨v7, h8, h9⟩ := bnd h6
    refine G1_callsi X (As := [.int x1]) (rest := []) (wr := [(h, .inr (6, [.ref h_s, .ref h_aside, .ref h_before, .ref h_past, .int i_h_known, .ref h_text, .int i_h_length, .ref h_lost, .int i_h_losts, .int i_h_bestOrder, .int i_h_bestMany, .int i_h_spot, .int i_h_begin, .int i_h_isForm, .int i_h_letter, .ref h_tells, .int i_h_faultReason, .int i_h_faultCause])), (h_s, .inl (cI, 703, .inl f_h_s))]) (ws' := [(h, .inr (6, [.ref h_s, .ref h_aside, .ref h_before, .ref h_past, .int i_h_known, .ref h_text, .int i_h_length, .ref h_lost, .int i_h_losts, .int i_h_bestOrder, .int i_h_bestMany, .int i_h_spot, .int i_h_begin, .int i_h_isForm, .int i_h_letter, .ref h_tells, .int i_h_faultReason, .int i_h_faultCause])), (h_s, .inl (cI, 703, .inl f_h_s))]) dX6_errorWrite_9 pkX6_isCell gX6_errorWrite_X6_isCell (kkX6_isCell l D cI cR x1 v7 h8) ⟨rfl, rfl⟩ ⟨Nat.le_of_ble_eq_true rfl, Nat.le_of_ble_eq_true rfl⟩ rfl rfl (Nat.le_of_ble_eq_true rfl) [] [0, 1] rfl rfl ⟨rfl, rfl, by decide⟩ ⟨Nat.zero_le _, Nat.zero_le _⟩ [0, 1] rfl rfl ?_
    refine G_if_eq X (tgt := 26) dX6_errorWrite_12 (by decide) (fun h10 => ?_) (fun h10 => ?_)
    · have h11 := ifp h10 h9
      refine G_ldc X dX6_errorWrite_26 flX6_errorWrite_114 ?_
      refine G_goto X (tgt := 45) dX6_errorWrite_28 (by decide) ?_
      cases h11
      exact rt _ _ _ _ dX6_errorWrite_45 ⟨rfl, rfl⟩
    · have h12 := ifn h10 h9
      refine G_iload_n X dX6_errorWrite_15 3 rfl ?_
      refine G_iconst X (v := 0) dX6_errorWrite_16 (by decide) ?_
      refine G_sipush X (v := 999) dX6_errorWrite_17 (by decide) ?_
      obtain ⟨v13, h14, h15⟩ := bnd h12
      refine G1_callsi X (As := [.int x2, .int 0, .int 999]) (rest := []) (wr := [(h, .inr (6, [.ref h_s, .ref h_aside, .ref h_before, .ref h_past, .int i_h_known, .ref h_text, .int i_h_length, .ref h_lost, .int i_h_losts, .int i_h_bestOrder, .int i_h_bestMany, .int i_h_spot, .int i_h_begin, .int i_h_isForm, .int i_h_letter, .ref h_tells, .int i_h_faultReason, .int i_h_faultCause])), (h_s, .inl (cI, 703, .inl f_h_s))]) (ws' := [(h, .inr (6, [.ref h_s, .ref h_aside, .ref h_before, .ref h_past, .int i_h_known, .ref h_text, .int i_h_length, .ref h_lost, .int i_h_losts, .int i_h_bestOrder, .int i_h_bestMany, .int i_h_spot, .int i_h_begin, .int i_h_isForm, .int i_h_letter, .ref h_tells, .int i_h_faultReason, .int i_h_faultCause])), (h_s, .inl (cI, 703, .inl f_h_s))]) dX6_errorWrite_20 pkX6_in gX6_errorWrite_X6_in (kkX6_in l D cI cR x2 0 999 v13 h14) ⟨rfl, rfl⟩ ⟨Nat.le_of_ble_eq_true rfl, Nat.le_of_ble_eq_true rfl⟩ rfl rfl (Nat.le_of_ble_eq_true rfl) [] [0, 1] rfl rfl ⟨rfl, rfl, by decide⟩ ⟨Nat.zero_le _, Nat.zero_le _⟩ [0, 1] rfl rfl ?_
      refine G_if_ne X (tgt := 31) dX6_errorWrite_23 (by decide) (fun h16 => ?_) (fun h16 => ?_)
      · have h17 := ifp h16 h15
        refine G_ldc X dX6_errorWrite_26 flX6_errorWrite_114 ?_
        refine G_goto X (tgt := 45) dX6_errorWrite_28 (by decide) ?_
        cases h17
        exact rt _ _ _ _ dX6_errorWrite_45 ⟨rfl, rfl⟩
      · have h18 := ifn h16 h15
        refine G_aload_n X dX6_errorWrite_31 0 rfl ?_
        refine G_iload_n X dX6_errorWrite_32 1 rfl ?_
        obtain ⟨v19, h20, h21⟩ := bnd h18
        refine G1_calli X (As := [.int x0]) (rest := []) (wr := []) (ws' := [(h, .inr (6, [.ref h_s, .ref h_aside, .ref h_before, .ref h_past, .int i_h_known, .ref h_text, .int i_h_length, .ref h_lost, .int i_h_losts, .int i_h_bestOrder, .int i_h_bestMany, .int i_h_spot, .int i_h_begin, .int i_h_isForm, .int i_h_letter, .ref h_tells, .int i_h_faultReason, .int i_h_faultCause])), (h_s, .inl (cI, 703, .inl f_h_s))]) dX6_errorWrite_33 pkX6_lives gX6_errorWrite_X6_lives (kkX6_lives l D cI cR h h_s h_aside h_before h_past h_text h_lost h_tells i_h_known i_h_length i_h_losts i_h_bestOrder i_h_bestMany i_h_spot i_h_begin i_h_isForm i_h_letter i_h_faultReason i_h_faultCause f_h_s x0 v19 h20) ⟨rfl, rfl⟩ ⟨Nat.le_of_ble_eq_true rfl, Nat.le_of_ble_eq_true rfl⟩ rfl rfl (Nat.le_of_ble_eq_true rfl) 0 rfl rfl [0, 1] [] rfl rfl ⟨rfl, rfl, by decide⟩ ⟨Nat.zero_le _, Nat.zero_le _⟩ [0, 1] rfl rfl ?_
        refine G_if_eq X (tgt := 43) dX6_errorWrite_36 (by decide) (fun h22 => ?_) (fun h22 => ?_)
        · have h23 := ifp h22 h21
          refine G_ldc X dX6_errorWrite_43 flX6_errorWrite_115 ?_
          cases h23
          exact rt _ _ _ _ dX6_errorWrite_45 ⟨rfl, rfl⟩
        · have h24 := ifn h22 h21
          refine G_iconst X (v := 0) dX6_errorWrite_39 (by decide) ?_
          refine G_goto X (tgt := 45) dX6_errorWrite_40 (by decide) ?_
          cases h24
          exact rt _ _ _ _ dX6_errorWrite_45 ⟨rfl, rfl⟩
def rmX6_errorSwap : Room := { frames := 2, cells := 0, slots := 0, locals := 43 }
theorem pkX6_errorSwap : cK yX6_errorSwap wsX6_errorSwap cX6_errorSwap 3 (some .int) 2 RX6 := ⟨⟨_, rfl⟩, by decide +kernel⟩
theorem flX6_errorSwap_114 : Cond.constant RX6 114 (-1000001) ∈ wsX6_errorSwap := by decide +kernel
theorem flX6_errorSwap_115 : Cond.constant RX6 115 (-1000002) ∈ wsX6_errorSwap := by decide +kernel
set_option maxHeartbeats 4000000 in
set_option maxRecDepth 100000 in
theorem kkX6_errorSwap (l : Launch) (D : va_G) (cI cR : ClassId) (h h_s h_aside h_before h_past h_text h_lost h_tells : Nat) (i_h_known : Int32) (i_h_length : Int32) (i_h_losts : Int32) (i_h_bestOrder : Int32) (i_h_bestMany : Int32) (i_h_spot : Int32) (i_h_begin : Int32) (i_h_isForm : Int32) (i_h_letter : Int32) (i_h_faultReason : Int32) (i_h_faultCause : Int32) (f_h_s : Nat → Int32) (x0 : Int32) (x1 : Int32) (z : Int32) (hz : MX6_errorSwap f_h_s x0 x1 = some z) : cI1 l yX6_errorSwap wsX6_errorSwap rmX6_errorSwap D cI cR [.ref h, .int x0, .int x1] [(h, .inr (6, [.ref h_s, .ref h_aside, .ref h_before, .ref h_past, .int i_h_known, .ref h_text, .int i_h_length, .ref h_lost, .int i_h_losts, .int i_h_bestOrder, .int i_h_bestMany, .int i_h_spot, .int i_h_begin, .int i_h_isForm, .int i_h_letter, .ref h_tells, .int i_h_faultReason, .int i_h_faultCause])), (h_s, .inl (cI, 703, .inl f_h_s))] z [(h, .inr (6, [.ref h_s, .ref h_aside, .ref h_before, .ref h_past, .int i_h_known, .ref h_text, .int i_h_length, .ref h_lost, .int i_h_losts, .int i_h_bestOrder, .int i_h_bestMany, .int i_h_spot, .int i_h_begin, .int i_h_isForm, .int i_h_letter, .ref h_tells, .int i_h_faultReason, .int i_h_faultCause])), (h_s, .inl (cI, 703, .inl f_h_s))] := by
  unfold MX6_errorSwap at hz
  refine kI_of (cc := cX6_errorSwap) (maxL := 3) (own := RX6) (by decide +kernel) rfl rfl (Nat.le_of_ble_eq_true rfl) (lv0 := [(0, .ref h), (1, .int x0), (2, .int x1)]) rfl (fun p e s m args below meth c A Q X rt => ?_)
  refine G_aload_n X dX6_errorSwap_0 0 rfl ?_
  refine G_iload_n X dX6_errorSwap_1 1 rfl ?_
  obtain ⟨v1, h2, h3⟩ := bnd hz
  refine G1_calli X (As := [.int x0]) (rest := []) (wr := []) (ws' := [(h, .inr (6, [.ref h_s, .ref h_aside, .ref h_before, .ref h_past, .int i_h_known, .ref h_text, .int i_h_length, .ref h_lost, .int i_h_losts, .int i_h_bestOrder, .int i_h_bestMany, .int i_h_spot, .int i_h_begin, .int i_h_isForm, .int i_h_letter, .ref h_tells, .int i_h_faultReason, .int i_h_faultCause])), (h_s, .inl (cI, 703, .inl f_h_s))]) dX6_errorSwap_2 pkX6_isRow gX6_errorSwap_X6_isRow (kkX6_isRow l D cI cR h h_s h_aside h_before h_past h_text h_lost h_tells i_h_known i_h_length i_h_losts i_h_bestOrder i_h_bestMany i_h_spot i_h_begin i_h_isForm i_h_letter i_h_faultReason i_h_faultCause f_h_s x0 v1 h2) ⟨rfl, rfl⟩ ⟨Nat.le_of_ble_eq_true rfl, Nat.le_of_ble_eq_true rfl⟩ rfl rfl (Nat.le_of_ble_eq_true rfl) 0 rfl rfl [0, 1] [] rfl rfl ⟨rfl, rfl, by decide⟩ ⟨Nat.zero_le _, Nat.zero_le _⟩ [0, 1] rfl rfl ?_
  refine G_if_eq X (tgt := 21) dX6_errorSwap_5 (by decide) (fun h4 => ?_) (fun h4 => ?_)
  · have h5 := ifp h4 h3
    refine G_ldc X dX6_errorSwap_21 flX6_errorSwap_114 ?_
    refine G_goto X (tgt := 48) dX6_errorSwap_23 (by decide) ?_
    cases h5
    exact rt _ _ _ _ dX6_errorSwap_48 ⟨rfl, rfl⟩
  · have h6 := ifn h4 h3
    refine G_aload_n X dX6_errorSwap_8 0 rfl ?_
    refine G_iload_n X dX6_errorSwap_9 2 rfl ?_
    obtain ⟨v7, h8, h9⟩ := bnd h6
    refine G1_calli X (As := [.int x1]) (rest := []) (wr := []) (ws' := [(h, .inr (6, [.ref h_s, .ref h_aside, .ref h_before, .ref h_past, .int i_h_known, .ref h_text, .int i_h_length, .ref h_lost, .int i_h_losts, .int i_h_bestOrder, .int i_h_bestMany, .int i_h_spot, .int i_h_begin, .int i_h_isForm, .int i_h_letter, .ref h_tells, .int i_h_faultReason, .int i_h_faultCause])), (h_s, .inl (cI, 703, .inl f_h_s))]) dX6_errorSwap_10 pkX6_isRow gX6_errorSwap_X6_isRow (kkX6_isRow l D cI cR h h_s h_aside h_before h_past h_text h_lost h_tells i_h_known i_h_length i_h_losts i_h_bestOrder i_h_bestMany i_h_spot i_h_begin i_h_isForm i_h_letter i_h_faultReason i_h_faultCause f_h_s x1 v7 h8) ⟨rfl, rfl⟩ ⟨Nat.le_of_ble_eq_true rfl, Nat.le_of_ble_eq_true rfl⟩ rfl rfl (Nat.le_of_ble_eq_true rfl) 0 rfl rfl [0, 1] [] rfl rfl ⟨rfl, rfl, by decide⟩ ⟨Nat.zero_le _, Nat.zero_le _⟩ [0, 1] rfl rfl ?_
    refine G_if_eq X (tgt := 21) dX6_errorSwap_13 (by decide) (fun h10 => ?_) (fun h10 => ?_)
    · have h11 := ifp h10 h9
      refine G_ldc X dX6_errorSwap_21 flX6_errorSwap_114 ?_
      refine G_goto X (tgt := 48) dX6_errorSwap_23 (by decide) ?_
      cases h11
      exact rt _ _ _ _ dX6_errorSwap_48 ⟨rfl, rfl⟩
    · have h12 := ifn h10 h9
      refine G_iload_n X dX6_errorSwap_16 1 rfl ?_
      refine G_iload_n X dX6_errorSwap_17 2 rfl ?_
      refine G_icmp_ne X (tgt := 26) dX6_errorSwap_18 (by decide) (fun h13 => ?_) (fun h13 => ?_)
      · have h14 := ifp h13 h12
        refine G_ldc X dX6_errorSwap_21 flX6_errorSwap_114 ?_
        refine G_goto X (tgt := 48) dX6_errorSwap_23 (by decide) ?_
        cases h14
        exact rt _ _ _ _ dX6_errorSwap_48 ⟨rfl, rfl⟩
      · have h15 := ifn h13 h12
        refine G_aload_n X dX6_errorSwap_26 0 rfl ?_
        refine G_iload_n X dX6_errorSwap_27 1 rfl ?_
        obtain ⟨v16, h17, h18⟩ := bnd h15
        refine G1_calli X (As := [.int x0]) (rest := []) (wr := []) (ws' := [(h, .inr (6, [.ref h_s, .ref h_aside, .ref h_before, .ref h_past, .int i_h_known, .ref h_text, .int i_h_length, .ref h_lost, .int i_h_losts, .int i_h_bestOrder, .int i_h_bestMany, .int i_h_spot, .int i_h_begin, .int i_h_isForm, .int i_h_letter, .ref h_tells, .int i_h_faultReason, .int i_h_faultCause])), (h_s, .inl (cI, 703, .inl f_h_s))]) dX6_errorSwap_28 pkX6_lives gX6_errorSwap_X6_lives (kkX6_lives l D cI cR h h_s h_aside h_before h_past h_text h_lost h_tells i_h_known i_h_length i_h_losts i_h_bestOrder i_h_bestMany i_h_spot i_h_begin i_h_isForm i_h_letter i_h_faultReason i_h_faultCause f_h_s x0 v16 h17) ⟨rfl, rfl⟩ ⟨Nat.le_of_ble_eq_true rfl, Nat.le_of_ble_eq_true rfl⟩ rfl rfl (Nat.le_of_ble_eq_true rfl) 0 rfl rfl [0, 1] [] rfl rfl ⟨rfl, rfl, by decide⟩ ⟨Nat.zero_le _, Nat.zero_le _⟩ [0, 1] rfl rfl ?_
        refine G_if_eq X (tgt := 46) dX6_errorSwap_31 (by decide) (fun h19 => ?_) (fun h19 => ?_)
        · have h20 := ifp h19 h18
          refine G_ldc X dX6_errorSwap_46 flX6_errorSwap_115 ?_
          cases h20
          exact rt _ _ _ _ dX6_errorSwap_48 ⟨rfl, rfl⟩
        · have h21 := ifn h19 h18
          refine G_aload_n X dX6_errorSwap_34 0 rfl ?_
          refine G_iload_n X dX6_errorSwap_35 2 rfl ?_
          obtain ⟨v22, h23, h24⟩ := bnd h21
          refine G1_calli X (As := [.int x1]) (rest := []) (wr := []) (ws' := [(h, .inr (6, [.ref h_s, .ref h_aside, .ref h_before, .ref h_past, .int i_h_known, .ref h_text, .int i_h_length, .ref h_lost, .int i_h_losts, .int i_h_bestOrder, .int i_h_bestMany, .int i_h_spot, .int i_h_begin, .int i_h_isForm, .int i_h_letter, .ref h_tells, .int i_h_faultReason, .int i_h_faultCause])), (h_s, .inl (cI, 703, .inl f_h_s))]) dX6_errorSwap_36 pkX6_lives gX6_errorSwap_X6_lives (kkX6_lives l D cI cR h h_s h_aside h_before h_past h_text h_lost h_tells i_h_known i_h_length i_h_losts i_h_bestOrder i_h_bestMany i_h_spot i_h_begin i_h_isForm i_h_letter i_h_faultReason i_h_faultCause f_h_s x1 v22 h23) ⟨rfl, rfl⟩ ⟨Nat.le_of_ble_eq_true rfl, Nat.le_of_ble_eq_true rfl⟩ rfl rfl (Nat.le_of_ble_eq_true rfl) 0 rfl rfl [0, 1] [] rfl rfl ⟨rfl, rfl, by decide⟩ ⟨Nat.zero_le _, Nat.zero_le _⟩ [0, 1] rfl rfl ?_
          refine G_if_eq X (tgt := 46) dX6_errorSwap_39 (by decide) (fun h25 => ?_) (fun h25 => ?_)
          · have h26 := ifp h25 h24
            refine G_ldc X dX6_errorSwap_46 flX6_errorSwap_115 ?_
            cases h26
            exact rt _ _ _ _ dX6_errorSwap_48 ⟨rfl, rfl⟩
          · have h27 := ifn h25 h24
            refine G_iconst X (v := 0) dX6_errorSwap_42 (by decide) ?_
            refine G_goto X (tgt := 48) dX6_errorSwap_43 (by decide) ?_
            cases h27
            exact rt _ _ _ _ dX6_errorSwap_48 ⟨rfl, rfl⟩
def rmX6_errorDays : Room := { frames := 1, cells := 0, slots := 0, locals := 22 }
theorem pkX6_errorDays : cK yX6_errorDays wsX6_errorDays cX6_errorDays 2 (some .int) 1 RX6 := ⟨⟨_, rfl⟩, by decide +kernel⟩
theorem hiX6_errorDays_X6 : ∀ w ∈ wsX60, w ∈ wsX6_errorDays := by decide +kernel
theorem flX6_errorDays_114 : Cond.constant RX6 114 (-1000001) ∈ wsX6_errorDays := by decide +kernel
theorem flX6_errorDays_7 : Cond.fieldLink RX6 7 "EchoMarginsModel" "s" "[I" ∈ wsX6_errorDays := by decide +kernel
theorem flX6_errorDays_119 : Cond.constant RX6 119 (-1000003) ∈ wsX6_errorDays := by decide +kernel
set_option maxHeartbeats 4000000 in
set_option maxRecDepth 100000 in
theorem kkX6_errorDays (l : Launch) (D : va_G) (cI cR : ClassId) (h h_s h_aside h_before h_past h_text h_lost h_tells : Nat) (i_h_known : Int32) (i_h_length : Int32) (i_h_losts : Int32) (i_h_bestOrder : Int32) (i_h_bestMany : Int32) (i_h_spot : Int32) (i_h_begin : Int32) (i_h_isForm : Int32) (i_h_letter : Int32) (i_h_faultReason : Int32) (i_h_faultCause : Int32) (f_h_s : Nat → Int32) (x0 : Int32) (z : Int32) (hz : MX6_errorDays f_h_s x0 = some z) : cI1 l yX6_errorDays wsX6_errorDays rmX6_errorDays D cI cR [.ref h, .int x0] [(h, .inr (6, [.ref h_s, .ref h_aside, .ref h_before, .ref h_past, .int i_h_known, .ref h_text, .int i_h_length, .ref h_lost, .int i_h_losts, .int i_h_bestOrder, .int i_h_bestMany, .int i_h_spot, .int i_h_begin, .int i_h_isForm, .int i_h_letter, .ref h_tells, .int i_h_faultReason, .int i_h_faultCause])), (h_s, .inl (cI, 703, .inl f_h_s))] z [(h, .inr (6, [.ref h_s, .ref h_aside, .ref h_before, .ref h_past, .int i_h_known, .ref h_text, .int i_h_length, .ref h_lost, .int i_h_losts, .int i_h_bestOrder, .int i_h_bestMany, .int i_h_spot, .int i_h_begin, .int i_h_isForm, .int i_h_letter, .ref h_tells, .int i_h_faultReason, .int i_h_faultCause])), (h_s, .inl (cI, 703, .inl f_h_s))] := by
  unfold MX6_errorDays at hz
  refine kI_of (cc := cX6_errorDays) (maxL := 2) (own := RX6) (by decide +kernel) rfl rfl (Nat.le_of_ble_eq_true rfl) (lv0 := [(0, .ref h), (1, .int x0)]) rfl (fun p e s m args below meth c A Q X rt => ?_)
  refine G_iload_n X dX6_errorDays_0 1 rfl ?_
  refine G_iconst X (v := 1) dX6_errorDays_1 (by decide) ?_
  refine G_bipush X (v := 99) dX6_errorDays_2 (by decide) ?_
  obtain ⟨v1, h2, h3⟩ := bnd hz
  refine G1_callsi X (As := [.int x0, .int 1, .int 99]) (rest := []) (wr := [(h, .inr (6, [.ref h_s, .ref h_aside, .ref h_before, .ref h_past, .int i_h_known, .ref h_text, .int i_h_length, .ref h_lost, .int i_h_losts, .int i_h_bestOrder, .int i_h_bestMany, .int i_h_spot, .int i_h_begin, .int i_h_isForm, .int i_h_letter, .ref h_tells, .int i_h_faultReason, .int i_h_faultCause])), (h_s, .inl (cI, 703, .inl f_h_s))]) (ws' := [(h, .inr (6, [.ref h_s, .ref h_aside, .ref h_before, .ref h_past, .int i_h_known, .ref h_text, .int i_h_length, .ref h_lost, .int i_h_losts, .int i_h_bestOrder, .int i_h_bestMany, .int i_h_spot, .int i_h_begin, .int i_h_isForm, .int i_h_letter, .ref h_tells, .int i_h_faultReason, .int i_h_faultCause])), (h_s, .inl (cI, 703, .inl f_h_s))]) dX6_errorDays_4 pkX6_in gX6_errorDays_X6_in (kkX6_in l D cI cR x0 1 99 v1 h2) ⟨rfl, rfl⟩ ⟨Nat.le_of_ble_eq_true rfl, Nat.le_of_ble_eq_true rfl⟩ rfl rfl (Nat.le_of_ble_eq_true rfl) [] [0, 1] rfl rfl ⟨rfl, rfl, by decide⟩ ⟨Nat.zero_le _, Nat.zero_le _⟩ [0, 1] rfl rfl ?_
  refine G_if_ne X (tgt := 15) dX6_errorDays_7 (by decide) (fun h4 => ?_) (fun h4 => ?_)
  · have h5 := ifp h4 h3
    refine G_ldc X dX6_errorDays_10 flX6_errorDays_114 ?_
    refine G_goto X (tgt := 35) dX6_errorDays_12 (by decide) ?_
    cases h5
    exact rt _ _ _ _ dX6_errorDays_35 ⟨rfl, rfl⟩
  · have h6 := ifn h4 h3
    refine G_aload_n X dX6_errorDays_15 0 rfl ?_
    refine G_get X (i0 := 0) (ci := 6) (j := 0) (C := RX6) (ref := RX6) (T := TX6) (N := 18) dX6_errorDays_16 rfl rfl hiX6_errorDays_X6 (by decide) flX6_errorDays_7 rfl rfl ?_
    refine G_iconst X (v := 1) dX6_errorDays_19 (by decide) ?_
    obtain ⟨v7, h8, h9⟩ := bnd h6
    refine G_iald X (i0 := 1) dX6_errorDays_20 rfl h8 ?_
    refine G_iload_n X dX6_errorDays_21 1 rfl ?_
    refine G_iadd X dX6_errorDays_22 ?_
    refine G_sipush X (v := 9999) dX6_errorDays_23 (by decide) ?_
    refine G_icmp_le X (tgt := 34) dX6_errorDays_26 (by decide) (fun h10 => ?_) (fun h10 => ?_)
    · have h11 := ifp h10 h9
      refine G_iconst X (v := 0) dX6_errorDays_34 (by decide) ?_
      cases h11
      exact rt _ _ _ _ dX6_errorDays_35 ⟨rfl, rfl⟩
    · have h12 := ifn h10 h9
      refine G_ldc X dX6_errorDays_29 flX6_errorDays_119 ?_
      refine G_goto X (tgt := 35) dX6_errorDays_31 (by decide) ?_
      cases h12
      exact rt _ _ _ _ dX6_errorDays_35 ⟨rfl, rfl⟩
def rmX6_begin : Room := { frames := 7, cells := 0, slots := 0, locals := 160 }
theorem pkX6_begin : cK yX6_begin wsX6_begin cX6_begin 2 (some .int) 1 RX6 := ⟨⟨_, rfl⟩, by decide +kernel⟩
theorem flX6_begin_114 : Cond.constant RX6 114 (-1000001) ∈ wsX6_begin := by decide +kernel
set_option maxHeartbeats 4000000 in
set_option maxRecDepth 100000 in
theorem kkX6_begin (l : Launch) (D : va_G) (cI cR : ClassId) (h h_s h_aside h_before h_past h_text h_lost h_tells : Nat) (i_h_known : Int32) (i_h_length : Int32) (i_h_losts : Int32) (i_h_bestOrder : Int32) (i_h_bestMany : Int32) (i_h_spot : Int32) (i_h_begin : Int32) (i_h_isForm : Int32) (i_h_letter : Int32) (i_h_faultReason : Int32) (i_h_faultCause : Int32) (f_h_s : Nat → Int32) (f_h_past : Nat → Int32) (x0 : Int32) (z : (Int32 × Int32 × (Nat → Int32) × (Nat → Int32))) (hz : MX6_begin i_h_known f_h_s f_h_past x0 = some z) : cI1 l yX6_begin wsX6_begin rmX6_begin D cI cR [.ref h, .int x0] [(h, .inr (6, [.ref h_s, .ref h_aside, .ref h_before, .ref h_past, .int i_h_known, .ref h_text, .int i_h_length, .ref h_lost, .int i_h_losts, .int i_h_bestOrder, .int i_h_bestMany, .int i_h_spot, .int i_h_begin, .int i_h_isForm, .int i_h_letter, .ref h_tells, .int i_h_faultReason, .int i_h_faultCause])), (h_s, .inl (cI, 703, .inl f_h_s)), (h_past, .inl (cI, 2812, .inl f_h_past))] z.1 [(h, .inr (6, [.ref h_s, .ref h_aside, .ref h_before, .ref h_past, .int z.2.1, .ref h_text, .int i_h_length, .ref h_lost, .int i_h_losts, .int i_h_bestOrder, .int i_h_bestMany, .int i_h_spot, .int i_h_begin, .int i_h_isForm, .int i_h_letter, .ref h_tells, .int i_h_faultReason, .int i_h_faultCause])), (h_s, .inl (cI, 703, .inl z.2.2.1)), (h_past, .inl (cI, 2812, .inl z.2.2.2))] := by
  unfold MX6_begin at hz
  refine kI_of (cc := cX6_begin) (maxL := 2) (own := RX6) (by decide +kernel) rfl rfl (Nat.le_of_ble_eq_true rfl) (lv0 := [(0, .ref h), (1, .int x0)]) rfl (fun p e s m args below meth c A Q X rt => ?_)
  refine G_iload_n X dX6_begin_0 1 rfl ?_
  refine G_iconst X (v := 3) dX6_begin_1 (by decide) ?_
  refine G_bipush X (v := 9) dX6_begin_2 (by decide) ?_
  obtain ⟨v1, h2, h3⟩ := bnd hz
  refine G1_callsi X (As := [.int x0, .int 3, .int 9]) (rest := []) (wr := [(h, .inr (6, [.ref h_s, .ref h_aside, .ref h_before, .ref h_past, .int i_h_known, .ref h_text, .int i_h_length, .ref h_lost, .int i_h_losts, .int i_h_bestOrder, .int i_h_bestMany, .int i_h_spot, .int i_h_begin, .int i_h_isForm, .int i_h_letter, .ref h_tells, .int i_h_faultReason, .int i_h_faultCause])), (h_s, .inl (cI, 703, .inl f_h_s)), (h_past, .inl (cI, 2812, .inl f_h_past))]) (ws' := [(h, .inr (6, [.ref h_s, .ref h_aside, .ref h_before, .ref h_past, .int i_h_known, .ref h_text, .int i_h_length, .ref h_lost, .int i_h_losts, .int i_h_bestOrder, .int i_h_bestMany, .int i_h_spot, .int i_h_begin, .int i_h_isForm, .int i_h_letter, .ref h_tells, .int i_h_faultReason, .int i_h_faultCause])), (h_s, .inl (cI, 703, .inl f_h_s)), (h_past, .inl (cI, 2812, .inl f_h_past))]) dX6_begin_4 pkX6_in gX6_begin_X6_in (kkX6_in l D cI cR x0 3 9 v1 h2) ⟨rfl, rfl⟩ ⟨Nat.le_of_ble_eq_true rfl, Nat.le_of_ble_eq_true rfl⟩ rfl rfl (Nat.le_of_ble_eq_true rfl) [] [0, 1, 2] rfl rfl ⟨rfl, rfl, by decide⟩ ⟨Nat.zero_le _, Nat.zero_le _⟩ [0, 1, 2] rfl rfl ?_
  refine G_if_ne X (tgt := 13) dX6_begin_7 (by decide) (fun h4 => ?_) (fun h4 => ?_)
  · have h5 := ifp h4 h3
    refine G_ldc X dX6_begin_10 flX6_begin_114 ?_
    cases h5
    exact rt _ _ _ _ dX6_begin_12 ⟨rfl, rfl⟩
  · have h6 := ifn h4 h3
    refine G_aload_n X dX6_begin_13 0 rfl ?_
    obtain ⟨v7, h8, h9⟩ := bnd h6
    refine G1_callv X (As := []) (rest := []) (wr := []) (ws' := [(h, .inr (6, [.ref h_s, .ref h_aside, .ref h_before, .ref h_past, .int v7.1, .ref h_text, .int i_h_length, .ref h_lost, .int i_h_losts, .int i_h_bestOrder, .int i_h_bestMany, .int i_h_spot, .int i_h_begin, .int i_h_isForm, .int i_h_letter, .ref h_tells, .int i_h_faultReason, .int i_h_faultCause])), (h_s, .inl (cI, 703, .inl f_h_s)), (h_past, .inl (cI, 2812, .inl v7.2))]) dX6_begin_14 pkX6_records gX6_begin_X6_records (kkX6_records l D cI cR h h_s h_aside h_before h_past h_text h_lost h_tells i_h_known i_h_length i_h_losts i_h_bestOrder i_h_bestMany i_h_spot i_h_begin i_h_isForm i_h_letter i_h_faultReason i_h_faultCause f_h_s f_h_past v7 h8) ⟨rfl, rfl⟩ ⟨Nat.le_of_ble_eq_true rfl, Nat.le_of_ble_eq_true rfl⟩ rfl rfl (Nat.le_of_ble_eq_true rfl) 0 rfl rfl [0, 1, 2] [] rfl rfl ⟨rfl, rfl, by decide⟩ ⟨Nat.zero_le _, Nat.zero_le _⟩ [0, 1, 2] rfl rfl ?_
    refine G_aload_n X dX6_begin_17 0 rfl ?_
    refine G_iload_n X dX6_begin_18 1 rfl ?_
    obtain ⟨v10, h11, h12⟩ := bnd h9
    refine G1_calli X (As := [.int x0]) (rest := []) (wr := [(h_past, .inl (cI, 2812, .inl v7.2))]) (ws' := [(h, .inr (6, [.ref h_s, .ref h_aside, .ref h_before, .ref h_past, .int v7.1, .ref h_text, .int i_h_length, .ref h_lost, .int i_h_losts, .int i_h_bestOrder, .int i_h_bestMany, .int i_h_spot, .int i_h_begin, .int i_h_isForm, .int i_h_letter, .ref h_tells, .int i_h_faultReason, .int i_h_faultCause])), (h_s, .inl (cI, 703, .inl v10.2)), (h_past, .inl (cI, 2812, .inl v7.2))]) dX6_begin_19 pkX6_goBegin gX6_begin_X6_goBegin (kkX6_goBegin l D cI cR h h_s h_aside h_before h_past h_text h_lost h_tells v7.1 i_h_length i_h_losts i_h_bestOrder i_h_bestMany i_h_spot i_h_begin i_h_isForm i_h_letter i_h_faultReason i_h_faultCause f_h_s x0 v10 h11) ⟨rfl, rfl⟩ ⟨Nat.le_of_ble_eq_true rfl, Nat.le_of_ble_eq_true rfl⟩ rfl rfl (Nat.le_of_ble_eq_true rfl) 0 rfl rfl [0, 1] [2] rfl rfl ⟨rfl, rfl, by decide⟩ ⟨Nat.zero_le _, Nat.zero_le _⟩ [1, 2, 0] rfl rfl ?_
    cases h12
    exact rt _ _ _ _ dX6_begin_22 ⟨rfl, rfl⟩
def rmX6_write : Room := { frames := 6, cells := 0, slots := 0, locals := 136 }
theorem pkX6_write : cK yX6_write wsX6_write cX6_write 5 (some .int) 3 RX6 := ⟨⟨_, rfl⟩, by decide +kernel⟩
set_option maxHeartbeats 4000000 in
set_option maxRecDepth 100000 in
theorem kkX6_write (l : Launch) (D : va_G) (cI cR : ClassId) (h h_s h_aside h_before h_past h_text h_lost h_tells : Nat) (i_h_known : Int32) (i_h_length : Int32) (i_h_losts : Int32) (i_h_bestOrder : Int32) (i_h_bestMany : Int32) (i_h_spot : Int32) (i_h_begin : Int32) (i_h_isForm : Int32) (i_h_letter : Int32) (i_h_faultReason : Int32) (i_h_faultCause : Int32) (f_h_s : Nat → Int32) (f_h_past : Nat → Int32) (x0 : Int32) (x1 : Int32) (x2 : Int32) (z : (Int32 × Int32 × (Nat → Int32) × (Nat → Int32))) (hz : MX6_write i_h_known f_h_s f_h_past x0 x1 x2 = some z) : cI1 l yX6_write wsX6_write rmX6_write D cI cR [.ref h, .int x0, .int x1, .int x2] [(h, .inr (6, [.ref h_s, .ref h_aside, .ref h_before, .ref h_past, .int i_h_known, .ref h_text, .int i_h_length, .ref h_lost, .int i_h_losts, .int i_h_bestOrder, .int i_h_bestMany, .int i_h_spot, .int i_h_begin, .int i_h_isForm, .int i_h_letter, .ref h_tells, .int i_h_faultReason, .int i_h_faultCause])), (h_s, .inl (cI, 703, .inl f_h_s)), (h_past, .inl (cI, 2812, .inl f_h_past))] z.1 [(h, .inr (6, [.ref h_s, .ref h_aside, .ref h_before, .ref h_past, .int z.2.1, .ref h_text, .int i_h_length, .ref h_lost, .int i_h_losts, .int i_h_bestOrder, .int i_h_bestMany, .int i_h_spot, .int i_h_begin, .int i_h_isForm, .int i_h_letter, .ref h_tells, .int i_h_faultReason, .int i_h_faultCause])), (h_s, .inl (cI, 703, .inl z.2.2.1)), (h_past, .inl (cI, 2812, .inl z.2.2.2))] := by
  unfold MX6_write at hz
  refine kI_of (cc := cX6_write) (maxL := 5) (own := RX6) (by decide +kernel) rfl rfl (Nat.le_of_ble_eq_true rfl) (lv0 := [(0, .ref h), (1, .int x0), (2, .int x1), (3, .int x2)]) rfl (fun p e s m args below meth c A Q X rt => ?_)
  refine G_aload_n X dX6_write_0 0 rfl ?_
  refine G_iload_n X dX6_write_1 1 rfl ?_
  refine G_iload_n X dX6_write_2 2 rfl ?_
  refine G_iload_n X dX6_write_3 3 rfl ?_
  obtain ⟨v1, h2, h3⟩ := bnd hz
  refine G1_calli X (As := [.int x0, .int x1, .int x2]) (rest := []) (wr := [(h_past, .inl (cI, 2812, .inl f_h_past))]) (ws' := [(h, .inr (6, [.ref h_s, .ref h_aside, .ref h_before, .ref h_past, .int i_h_known, .ref h_text, .int i_h_length, .ref h_lost, .int i_h_losts, .int i_h_bestOrder, .int i_h_bestMany, .int i_h_spot, .int i_h_begin, .int i_h_isForm, .int i_h_letter, .ref h_tells, .int i_h_faultReason, .int i_h_faultCause])), (h_s, .inl (cI, 703, .inl f_h_s)), (h_past, .inl (cI, 2812, .inl f_h_past))]) dX6_write_4 pkX6_errorWrite gX6_write_X6_errorWrite (kkX6_errorWrite l D cI cR h h_s h_aside h_before h_past h_text h_lost h_tells i_h_known i_h_length i_h_losts i_h_bestOrder i_h_bestMany i_h_spot i_h_begin i_h_isForm i_h_letter i_h_faultReason i_h_faultCause f_h_s x0 x1 x2 v1 h2) ⟨rfl, rfl⟩ ⟨Nat.le_of_ble_eq_true rfl, Nat.le_of_ble_eq_true rfl⟩ rfl rfl (Nat.le_of_ble_eq_true rfl) 0 rfl rfl [0, 1] [2] rfl rfl ⟨rfl, rfl, by decide⟩ ⟨Nat.zero_le _, Nat.zero_le _⟩ [1, 2, 0] rfl rfl ?_
  refine G_istore X (lv' := [(4, .int v1), (0, .ref h), (1, .int x0), (2, .int x1), (3, .int x2)]) dX6_write_7 (by decide) rfl ?_
  refine G_iload X dX6_write_9 0 rfl ?_
  refine G_if_ge X (tgt := 17) dX6_write_11 (by decide) (fun h4 => ?_) (fun h4 => ?_)
  · have h5 := ifp h4 h3
    refine G_aload_n X dX6_write_17 1 rfl ?_
    obtain ⟨v6, h7, h8⟩ := bnd h5
    refine G1_callv X (As := []) (rest := []) (wr := []) (ws' := [(h, .inr (6, [.ref h_s, .ref h_aside, .ref h_before, .ref h_past, .int v6.1, .ref h_text, .int i_h_length, .ref h_lost, .int i_h_losts, .int i_h_bestOrder, .int i_h_bestMany, .int i_h_spot, .int i_h_begin, .int i_h_isForm, .int i_h_letter, .ref h_tells, .int i_h_faultReason, .int i_h_faultCause])), (h_s, .inl (cI, 703, .inl f_h_s)), (h_past, .inl (cI, 2812, .inl v6.2))]) dX6_write_18 pkX6_records gX6_write_X6_records (kkX6_records l D cI cR h h_s h_aside h_before h_past h_text h_lost h_tells i_h_known i_h_length i_h_losts i_h_bestOrder i_h_bestMany i_h_spot i_h_begin i_h_isForm i_h_letter i_h_faultReason i_h_faultCause f_h_s f_h_past v6 h7) ⟨rfl, rfl⟩ ⟨Nat.le_of_ble_eq_true rfl, Nat.le_of_ble_eq_true rfl⟩ rfl rfl (Nat.le_of_ble_eq_true rfl) 0 rfl rfl [0, 1, 2] [] rfl rfl ⟨rfl, rfl, by decide⟩ ⟨Nat.zero_le _, Nat.zero_le _⟩ [0, 1, 2] rfl rfl ?_
    refine G_aload_n X dX6_write_21 1 rfl ?_
    refine G_iload_n X dX6_write_22 2 rfl ?_
    refine G_iload_n X dX6_write_23 3 rfl ?_
    refine G_iload_n X dX6_write_24 4 rfl ?_
    obtain ⟨v9, h10, h11⟩ := bnd h8
    refine G1_calli X (As := [.int x0, .int x1, .int x2]) (rest := []) (wr := [(h_past, .inl (cI, 2812, .inl v6.2))]) (ws' := [(h, .inr (6, [.ref h_s, .ref h_aside, .ref h_before, .ref h_past, .int v6.1, .ref h_text, .int i_h_length, .ref h_lost, .int i_h_losts, .int i_h_bestOrder, .int i_h_bestMany, .int i_h_spot, .int i_h_begin, .int i_h_isForm, .int i_h_letter, .ref h_tells, .int i_h_faultReason, .int i_h_faultCause])), (h_s, .inl (cI, 703, .inl v9.2)), (h_past, .inl (cI, 2812, .inl v6.2))]) dX6_write_25 pkX6_goWrite gX6_write_X6_goWrite (kkX6_goWrite l D cI cR h h_s h_aside h_before h_past h_text h_lost h_tells v6.1 i_h_length i_h_losts i_h_bestOrder i_h_bestMany i_h_spot i_h_begin i_h_isForm i_h_letter i_h_faultReason i_h_faultCause f_h_s x0 x1 x2 v9 h10) ⟨rfl, rfl⟩ ⟨Nat.le_of_ble_eq_true rfl, Nat.le_of_ble_eq_true rfl⟩ rfl rfl (Nat.le_of_ble_eq_true rfl) 0 rfl rfl [0, 1] [2] rfl rfl ⟨rfl, rfl, by decide⟩ ⟨Nat.zero_le _, Nat.zero_le _⟩ [1, 2, 0] rfl rfl ?_
    cases h11
    exact rt _ _ _ _ dX6_write_28 ⟨rfl, rfl⟩
  · have h12 := ifn h4 h3
    refine G_iload X dX6_write_14 0 rfl ?_
    cases h12
    exact rt _ _ _ _ dX6_write_16 ⟨rfl, rfl⟩
def rmX6_lose : Room := { frames := 8, cells := 0, slots := 0, locals := 183 }
theorem pkX6_lose : cK yX6_lose wsX6_lose cX6_lose 3 (some .int) 1 RX6 := ⟨⟨_, rfl⟩, by decide +kernel⟩
set_option maxHeartbeats 4000000 in
set_option maxRecDepth 100000 in
theorem kkX6_lose (l : Launch) (D : va_G) (cI cR : ClassId) (h h_s h_aside h_before h_past h_text h_lost h_tells : Nat) (i_h_known : Int32) (i_h_length : Int32) (i_h_losts : Int32) (i_h_bestOrder : Int32) (i_h_bestMany : Int32) (i_h_spot : Int32) (i_h_begin : Int32) (i_h_isForm : Int32) (i_h_letter : Int32) (i_h_faultReason : Int32) (i_h_faultCause : Int32) (f_h_s : Nat → Int32) (f_h_past : Nat → Int32) (x0 : Int32) (z : (Int32 × Int32 × (Nat → Int32) × (Nat → Int32))) (hz : MX6_lose i_h_known f_h_s f_h_past x0 = some z) : cI1 l yX6_lose wsX6_lose rmX6_lose D cI cR [.ref h, .int x0] [(h, .inr (6, [.ref h_s, .ref h_aside, .ref h_before, .ref h_past, .int i_h_known, .ref h_text, .int i_h_length, .ref h_lost, .int i_h_losts, .int i_h_bestOrder, .int i_h_bestMany, .int i_h_spot, .int i_h_begin, .int i_h_isForm, .int i_h_letter, .ref h_tells, .int i_h_faultReason, .int i_h_faultCause])), (h_s, .inl (cI, 703, .inl f_h_s)), (h_past, .inl (cI, 2812, .inl f_h_past))] z.1 [(h, .inr (6, [.ref h_s, .ref h_aside, .ref h_before, .ref h_past, .int z.2.1, .ref h_text, .int i_h_length, .ref h_lost, .int i_h_losts, .int i_h_bestOrder, .int i_h_bestMany, .int i_h_spot, .int i_h_begin, .int i_h_isForm, .int i_h_letter, .ref h_tells, .int i_h_faultReason, .int i_h_faultCause])), (h_s, .inl (cI, 703, .inl z.2.2.1)), (h_past, .inl (cI, 2812, .inl z.2.2.2))] := by
  unfold MX6_lose at hz
  refine kI_of (cc := cX6_lose) (maxL := 3) (own := RX6) (by decide +kernel) rfl rfl (Nat.le_of_ble_eq_true rfl) (lv0 := [(0, .ref h), (1, .int x0)]) rfl (fun p e s m args below meth c A Q X rt => ?_)
  refine G_aload_n X dX6_lose_0 0 rfl ?_
  refine G_iload_n X dX6_lose_1 1 rfl ?_
  refine G_iconst X (v := 1) dX6_lose_2 (by decide) ?_
  obtain ⟨v1, h2, h3⟩ := bnd hz
  refine G1_calli X (As := [.int x0, .int 1]) (rest := []) (wr := [(h_past, .inl (cI, 2812, .inl f_h_past))]) (ws' := [(h, .inr (6, [.ref h_s, .ref h_aside, .ref h_before, .ref h_past, .int i_h_known, .ref h_text, .int i_h_length, .ref h_lost, .int i_h_losts, .int i_h_bestOrder, .int i_h_bestMany, .int i_h_spot, .int i_h_begin, .int i_h_isForm, .int i_h_letter, .ref h_tells, .int i_h_faultReason, .int i_h_faultCause])), (h_s, .inl (cI, 703, .inl f_h_s)), (h_past, .inl (cI, 2812, .inl f_h_past))]) dX6_lose_3 pkX6_errorOf gX6_lose_X6_errorOf (kkX6_errorOf l D cI cR h h_s h_aside h_before h_past h_text h_lost h_tells i_h_known i_h_length i_h_losts i_h_bestOrder i_h_bestMany i_h_spot i_h_begin i_h_isForm i_h_letter i_h_faultReason i_h_faultCause f_h_s x0 1 v1 h2) ⟨rfl, rfl⟩ ⟨Nat.le_of_ble_eq_true rfl, Nat.le_of_ble_eq_true rfl⟩ rfl rfl (Nat.le_of_ble_eq_true rfl) 0 rfl rfl [0, 1] [2] rfl rfl ⟨rfl, rfl, by decide⟩ ⟨Nat.zero_le _, Nat.zero_le _⟩ [1, 2, 0] rfl rfl ?_
  refine G_istore_n X (lv' := [(2, .int v1), (0, .ref h), (1, .int x0)]) dX6_lose_6 (by decide) rfl ?_
  refine G_iload_n X dX6_lose_7 0 rfl ?_
  refine G_if_ge X (tgt := 13) dX6_lose_8 (by decide) (fun h4 => ?_) (fun h4 => ?_)
  · have h5 := ifp h4 h3
    refine G_aload_n X dX6_lose_13 1 rfl ?_
    obtain ⟨v6, h7, h8⟩ := bnd h5
    refine G1_callv X (As := []) (rest := []) (wr := []) (ws' := [(h, .inr (6, [.ref h_s, .ref h_aside, .ref h_before, .ref h_past, .int v6.1, .ref h_text, .int i_h_length, .ref h_lost, .int i_h_losts, .int i_h_bestOrder, .int i_h_bestMany, .int i_h_spot, .int i_h_begin, .int i_h_isForm, .int i_h_letter, .ref h_tells, .int i_h_faultReason, .int i_h_faultCause])), (h_s, .inl (cI, 703, .inl f_h_s)), (h_past, .inl (cI, 2812, .inl v6.2))]) dX6_lose_14 pkX6_records gX6_lose_X6_records (kkX6_records l D cI cR h h_s h_aside h_before h_past h_text h_lost h_tells i_h_known i_h_length i_h_losts i_h_bestOrder i_h_bestMany i_h_spot i_h_begin i_h_isForm i_h_letter i_h_faultReason i_h_faultCause f_h_s f_h_past v6 h7) ⟨rfl, rfl⟩ ⟨Nat.le_of_ble_eq_true rfl, Nat.le_of_ble_eq_true rfl⟩ rfl rfl (Nat.le_of_ble_eq_true rfl) 0 rfl rfl [0, 1, 2] [] rfl rfl ⟨rfl, rfl, by decide⟩ ⟨Nat.zero_le _, Nat.zero_le _⟩ [0, 1, 2] rfl rfl ?_
    refine G_aload_n X dX6_lose_17 1 rfl ?_
    refine G_iload_n X dX6_lose_18 2 rfl ?_
    obtain ⟨v9, h10, h11⟩ := bnd h8
    refine G1_calli X (As := [.int x0]) (rest := []) (wr := [(h_past, .inl (cI, 2812, .inl v6.2))]) (ws' := [(h, .inr (6, [.ref h_s, .ref h_aside, .ref h_before, .ref h_past, .int v6.1, .ref h_text, .int i_h_length, .ref h_lost, .int i_h_losts, .int i_h_bestOrder, .int i_h_bestMany, .int i_h_spot, .int i_h_begin, .int i_h_isForm, .int i_h_letter, .ref h_tells, .int i_h_faultReason, .int i_h_faultCause])), (h_s, .inl (cI, 703, .inl v9.2)), (h_past, .inl (cI, 2812, .inl v6.2))]) dX6_lose_19 pkX6_goLose gX6_lose_X6_goLose (kkX6_goLose l D cI cR h h_s h_aside h_before h_past h_text h_lost h_tells v6.1 i_h_length i_h_losts i_h_bestOrder i_h_bestMany i_h_spot i_h_begin i_h_isForm i_h_letter i_h_faultReason i_h_faultCause f_h_s x0 v9 h10) ⟨rfl, rfl⟩ ⟨Nat.le_of_ble_eq_true rfl, Nat.le_of_ble_eq_true rfl⟩ rfl rfl (Nat.le_of_ble_eq_true rfl) 0 rfl rfl [0, 1] [2] rfl rfl ⟨rfl, rfl, by decide⟩ ⟨Nat.zero_le _, Nat.zero_le _⟩ [1, 2, 0] rfl rfl ?_
    cases h11
    exact rt _ _ _ _ dX6_lose_22 ⟨rfl, rfl⟩
  · have h12 := ifn h4 h3
    refine G_iload_n X dX6_lose_11 0 rfl ?_
    cases h12
    exact rt _ _ _ _ dX6_lose_12 ⟨rfl, rfl⟩
def rmX6_mend : Room := { frames := 8, cells := 0, slots := 0, locals := 184 }
theorem pkX6_mend : cK yX6_mend wsX6_mend cX6_mend 3 (some .int) 1 RX6 := ⟨⟨_, rfl⟩, by decide +kernel⟩
set_option maxHeartbeats 4000000 in
set_option maxRecDepth 100000 in
theorem kkX6_mend (l : Launch) (D : va_G) (cI cR : ClassId) (h h_s h_aside h_before h_past h_text h_lost h_tells : Nat) (i_h_known : Int32) (i_h_length : Int32) (i_h_losts : Int32) (i_h_bestOrder : Int32) (i_h_bestMany : Int32) (i_h_spot : Int32) (i_h_begin : Int32) (i_h_isForm : Int32) (i_h_letter : Int32) (i_h_faultReason : Int32) (i_h_faultCause : Int32) (f_h_s : Nat → Int32) (f_h_past : Nat → Int32) (x0 : Int32) (z : (Int32 × Int32 × (Nat → Int32) × (Nat → Int32))) (hz : MX6_mend i_h_known f_h_s f_h_past x0 = some z) : cI1 l yX6_mend wsX6_mend rmX6_mend D cI cR [.ref h, .int x0] [(h, .inr (6, [.ref h_s, .ref h_aside, .ref h_before, .ref h_past, .int i_h_known, .ref h_text, .int i_h_length, .ref h_lost, .int i_h_losts, .int i_h_bestOrder, .int i_h_bestMany, .int i_h_spot, .int i_h_begin, .int i_h_isForm, .int i_h_letter, .ref h_tells, .int i_h_faultReason, .int i_h_faultCause])), (h_s, .inl (cI, 703, .inl f_h_s)), (h_past, .inl (cI, 2812, .inl f_h_past))] z.1 [(h, .inr (6, [.ref h_s, .ref h_aside, .ref h_before, .ref h_past, .int z.2.1, .ref h_text, .int i_h_length, .ref h_lost, .int i_h_losts, .int i_h_bestOrder, .int i_h_bestMany, .int i_h_spot, .int i_h_begin, .int i_h_isForm, .int i_h_letter, .ref h_tells, .int i_h_faultReason, .int i_h_faultCause])), (h_s, .inl (cI, 703, .inl z.2.2.1)), (h_past, .inl (cI, 2812, .inl z.2.2.2))] := by
  unfold MX6_mend at hz
  refine kI_of (cc := cX6_mend) (maxL := 3) (own := RX6) (by decide +kernel) rfl rfl (Nat.le_of_ble_eq_true rfl) (lv0 := [(0, .ref h), (1, .int x0)]) rfl (fun p e s m args below meth c A Q X rt => ?_)
  refine G_aload_n X dX6_mend_0 0 rfl ?_
  refine G_iload_n X dX6_mend_1 1 rfl ?_
  refine G_iconst X (v := 0) dX6_mend_2 (by decide) ?_
  obtain ⟨v1, h2, h3⟩ := bnd hz
  refine G1_calli X (As := [.int x0, .int 0]) (rest := []) (wr := [(h_past, .inl (cI, 2812, .inl f_h_past))]) (ws' := [(h, .inr (6, [.ref h_s, .ref h_aside, .ref h_before, .ref h_past, .int i_h_known, .ref h_text, .int i_h_length, .ref h_lost, .int i_h_losts, .int i_h_bestOrder, .int i_h_bestMany, .int i_h_spot, .int i_h_begin, .int i_h_isForm, .int i_h_letter, .ref h_tells, .int i_h_faultReason, .int i_h_faultCause])), (h_s, .inl (cI, 703, .inl f_h_s)), (h_past, .inl (cI, 2812, .inl f_h_past))]) dX6_mend_3 pkX6_errorOf gX6_mend_X6_errorOf (kkX6_errorOf l D cI cR h h_s h_aside h_before h_past h_text h_lost h_tells i_h_known i_h_length i_h_losts i_h_bestOrder i_h_bestMany i_h_spot i_h_begin i_h_isForm i_h_letter i_h_faultReason i_h_faultCause f_h_s x0 0 v1 h2) ⟨rfl, rfl⟩ ⟨Nat.le_of_ble_eq_true rfl, Nat.le_of_ble_eq_true rfl⟩ rfl rfl (Nat.le_of_ble_eq_true rfl) 0 rfl rfl [0, 1] [2] rfl rfl ⟨rfl, rfl, by decide⟩ ⟨Nat.zero_le _, Nat.zero_le _⟩ [1, 2, 0] rfl rfl ?_
  refine G_istore_n X (lv' := [(2, .int v1), (0, .ref h), (1, .int x0)]) dX6_mend_6 (by decide) rfl ?_
  refine G_iload_n X dX6_mend_7 0 rfl ?_
  refine G_if_ge X (tgt := 13) dX6_mend_8 (by decide) (fun h4 => ?_) (fun h4 => ?_)
  · have h5 := ifp h4 h3
    refine G_aload_n X dX6_mend_13 1 rfl ?_
    obtain ⟨v6, h7, h8⟩ := bnd h5
    refine G1_callv X (As := []) (rest := []) (wr := []) (ws' := [(h, .inr (6, [.ref h_s, .ref h_aside, .ref h_before, .ref h_past, .int v6.1, .ref h_text, .int i_h_length, .ref h_lost, .int i_h_losts, .int i_h_bestOrder, .int i_h_bestMany, .int i_h_spot, .int i_h_begin, .int i_h_isForm, .int i_h_letter, .ref h_tells, .int i_h_faultReason, .int i_h_faultCause])), (h_s, .inl (cI, 703, .inl f_h_s)), (h_past, .inl (cI, 2812, .inl v6.2))]) dX6_mend_14 pkX6_records gX6_mend_X6_records (kkX6_records l D cI cR h h_s h_aside h_before h_past h_text h_lost h_tells i_h_known i_h_length i_h_losts i_h_bestOrder i_h_bestMany i_h_spot i_h_begin i_h_isForm i_h_letter i_h_faultReason i_h_faultCause f_h_s f_h_past v6 h7) ⟨rfl, rfl⟩ ⟨Nat.le_of_ble_eq_true rfl, Nat.le_of_ble_eq_true rfl⟩ rfl rfl (Nat.le_of_ble_eq_true rfl) 0 rfl rfl [0, 1, 2] [] rfl rfl ⟨rfl, rfl, by decide⟩ ⟨Nat.zero_le _, Nat.zero_le _⟩ [0, 1, 2] rfl rfl ?_
    refine G_aload_n X dX6_mend_17 1 rfl ?_
    refine G_iload_n X dX6_mend_18 2 rfl ?_
    obtain ⟨v9, h10, h11⟩ := bnd h8
    refine G1_calli X (As := [.int x0]) (rest := []) (wr := [(h_past, .inl (cI, 2812, .inl v6.2))]) (ws' := [(h, .inr (6, [.ref h_s, .ref h_aside, .ref h_before, .ref h_past, .int v6.1, .ref h_text, .int i_h_length, .ref h_lost, .int i_h_losts, .int i_h_bestOrder, .int i_h_bestMany, .int i_h_spot, .int i_h_begin, .int i_h_isForm, .int i_h_letter, .ref h_tells, .int i_h_faultReason, .int i_h_faultCause])), (h_s, .inl (cI, 703, .inl v9.2)), (h_past, .inl (cI, 2812, .inl v6.2))]) dX6_mend_19 pkX6_goMend gX6_mend_X6_goMend (kkX6_goMend l D cI cR h h_s h_aside h_before h_past h_text h_lost h_tells v6.1 i_h_length i_h_losts i_h_bestOrder i_h_bestMany i_h_spot i_h_begin i_h_isForm i_h_letter i_h_faultReason i_h_faultCause f_h_s x0 v9 h10) ⟨rfl, rfl⟩ ⟨Nat.le_of_ble_eq_true rfl, Nat.le_of_ble_eq_true rfl⟩ rfl rfl (Nat.le_of_ble_eq_true rfl) 0 rfl rfl [0, 1] [2] rfl rfl ⟨rfl, rfl, by decide⟩ ⟨Nat.zero_le _, Nat.zero_le _⟩ [1, 2, 0] rfl rfl ?_
    cases h11
    exact rt _ _ _ _ dX6_mend_22 ⟨rfl, rfl⟩
  · have h12 := ifn h4 h3
    refine G_iload_n X dX6_mend_11 0 rfl ?_
    cases h12
    exact rt _ _ _ _ dX6_mend_12 ⟨rfl, rfl⟩
def rmX6_swap : Room := { frames := 3, cells := 0, slots := 0, locals := 65 }
theorem pkX6_swap : cK yX6_swap wsX6_swap cX6_swap 4 (some .int) 2 RX6 := ⟨⟨_, rfl⟩, by decide +kernel⟩
set_option maxHeartbeats 4000000 in
set_option maxRecDepth 100000 in
theorem kkX6_swap (l : Launch) (D : va_G) (cI cR : ClassId) (h h_s h_aside h_before h_past h_text h_lost h_tells : Nat) (i_h_known : Int32) (i_h_length : Int32) (i_h_losts : Int32) (i_h_bestOrder : Int32) (i_h_bestMany : Int32) (i_h_spot : Int32) (i_h_begin : Int32) (i_h_isForm : Int32) (i_h_letter : Int32) (i_h_faultReason : Int32) (i_h_faultCause : Int32) (f_h_s : Nat → Int32) (f_h_past : Nat → Int32) (x0 : Int32) (x1 : Int32) (z : (Int32 × Int32 × (Nat → Int32) × (Nat → Int32))) (hz : MX6_swap i_h_known f_h_s f_h_past x0 x1 = some z) : cI1 l yX6_swap wsX6_swap rmX6_swap D cI cR [.ref h, .int x0, .int x1] [(h, .inr (6, [.ref h_s, .ref h_aside, .ref h_before, .ref h_past, .int i_h_known, .ref h_text, .int i_h_length, .ref h_lost, .int i_h_losts, .int i_h_bestOrder, .int i_h_bestMany, .int i_h_spot, .int i_h_begin, .int i_h_isForm, .int i_h_letter, .ref h_tells, .int i_h_faultReason, .int i_h_faultCause])), (h_s, .inl (cI, 703, .inl f_h_s)), (h_past, .inl (cI, 2812, .inl f_h_past))] z.1 [(h, .inr (6, [.ref h_s, .ref h_aside, .ref h_before, .ref h_past, .int z.2.1, .ref h_text, .int i_h_length, .ref h_lost, .int i_h_losts, .int i_h_bestOrder, .int i_h_bestMany, .int i_h_spot, .int i_h_begin, .int i_h_isForm, .int i_h_letter, .ref h_tells, .int i_h_faultReason, .int i_h_faultCause])), (h_s, .inl (cI, 703, .inl z.2.2.1)), (h_past, .inl (cI, 2812, .inl z.2.2.2))] := by
  unfold MX6_swap at hz
  refine kI_of (cc := cX6_swap) (maxL := 4) (own := RX6) (by decide +kernel) rfl rfl (Nat.le_of_ble_eq_true rfl) (lv0 := [(0, .ref h), (1, .int x0), (2, .int x1)]) rfl (fun p e s m args below meth c A Q X rt => ?_)
  refine G_aload_n X dX6_swap_0 0 rfl ?_
  refine G_iload_n X dX6_swap_1 1 rfl ?_
  refine G_iload_n X dX6_swap_2 2 rfl ?_
  obtain ⟨v1, h2, h3⟩ := bnd hz
  refine G1_calli X (As := [.int x0, .int x1]) (rest := []) (wr := [(h_past, .inl (cI, 2812, .inl f_h_past))]) (ws' := [(h, .inr (6, [.ref h_s, .ref h_aside, .ref h_before, .ref h_past, .int i_h_known, .ref h_text, .int i_h_length, .ref h_lost, .int i_h_losts, .int i_h_bestOrder, .int i_h_bestMany, .int i_h_spot, .int i_h_begin, .int i_h_isForm, .int i_h_letter, .ref h_tells, .int i_h_faultReason, .int i_h_faultCause])), (h_s, .inl (cI, 703, .inl f_h_s)), (h_past, .inl (cI, 2812, .inl f_h_past))]) dX6_swap_3 pkX6_errorSwap gX6_swap_X6_errorSwap (kkX6_errorSwap l D cI cR h h_s h_aside h_before h_past h_text h_lost h_tells i_h_known i_h_length i_h_losts i_h_bestOrder i_h_bestMany i_h_spot i_h_begin i_h_isForm i_h_letter i_h_faultReason i_h_faultCause f_h_s x0 x1 v1 h2) ⟨rfl, rfl⟩ ⟨Nat.le_of_ble_eq_true rfl, Nat.le_of_ble_eq_true rfl⟩ rfl rfl (Nat.le_of_ble_eq_true rfl) 0 rfl rfl [0, 1] [2] rfl rfl ⟨rfl, rfl, by decide⟩ ⟨Nat.zero_le _, Nat.zero_le _⟩ [1, 2, 0] rfl rfl ?_
  refine G_istore_n X (lv' := [(3, .int v1), (0, .ref h), (1, .int x0), (2, .int x1)]) dX6_swap_6 (by decide) rfl ?_
  refine G_iload_n X dX6_swap_7 0 rfl ?_
  refine G_if_ge X (tgt := 13) dX6_swap_8 (by decide) (fun h4 => ?_) (fun h4 => ?_)
  · have h5 := ifp h4 h3
    refine G_aload_n X dX6_swap_13 1 rfl ?_
    obtain ⟨v6, h7, h8⟩ := bnd h5
    refine G1_callv X (As := []) (rest := []) (wr := []) (ws' := [(h, .inr (6, [.ref h_s, .ref h_aside, .ref h_before, .ref h_past, .int v6.1, .ref h_text, .int i_h_length, .ref h_lost, .int i_h_losts, .int i_h_bestOrder, .int i_h_bestMany, .int i_h_spot, .int i_h_begin, .int i_h_isForm, .int i_h_letter, .ref h_tells, .int i_h_faultReason, .int i_h_faultCause])), (h_s, .inl (cI, 703, .inl f_h_s)), (h_past, .inl (cI, 2812, .inl v6.2))]) dX6_swap_14 pkX6_records gX6_swap_X6_records (kkX6_records l D cI cR h h_s h_aside h_before h_past h_text h_lost h_tells i_h_known i_h_length i_h_losts i_h_bestOrder i_h_bestMany i_h_spot i_h_begin i_h_isForm i_h_letter i_h_faultReason i_h_faultCause f_h_s f_h_past v6 h7) ⟨rfl, rfl⟩ ⟨Nat.le_of_ble_eq_true rfl, Nat.le_of_ble_eq_true rfl⟩ rfl rfl (Nat.le_of_ble_eq_true rfl) 0 rfl rfl [0, 1, 2] [] rfl rfl ⟨rfl, rfl, by decide⟩ ⟨Nat.zero_le _, Nat.zero_le _⟩ [0, 1, 2] rfl rfl ?_
    refine G_aload_n X dX6_swap_17 1 rfl ?_
    refine G_iload_n X dX6_swap_18 2 rfl ?_
    refine G_iload_n X dX6_swap_19 3 rfl ?_
    obtain ⟨v9, h10, h11⟩ := bnd h8
    refine G1_calli X (As := [.int x0, .int x1]) (rest := []) (wr := [(h_past, .inl (cI, 2812, .inl v6.2))]) (ws' := [(h, .inr (6, [.ref h_s, .ref h_aside, .ref h_before, .ref h_past, .int v6.1, .ref h_text, .int i_h_length, .ref h_lost, .int i_h_losts, .int i_h_bestOrder, .int i_h_bestMany, .int i_h_spot, .int i_h_begin, .int i_h_isForm, .int i_h_letter, .ref h_tells, .int i_h_faultReason, .int i_h_faultCause])), (h_s, .inl (cI, 703, .inl v9.2)), (h_past, .inl (cI, 2812, .inl v6.2))]) dX6_swap_20 pkX6_goSwap gX6_swap_X6_goSwap (kkX6_goSwap l D cI cR h h_s h_aside h_before h_past h_text h_lost h_tells v6.1 i_h_length i_h_losts i_h_bestOrder i_h_bestMany i_h_spot i_h_begin i_h_isForm i_h_letter i_h_faultReason i_h_faultCause f_h_s x0 x1 v9 h10) ⟨rfl, rfl⟩ ⟨Nat.le_of_ble_eq_true rfl, Nat.le_of_ble_eq_true rfl⟩ rfl rfl (Nat.le_of_ble_eq_true rfl) 0 rfl rfl [0, 1] [2] rfl rfl ⟨rfl, rfl, by decide⟩ ⟨Nat.zero_le _, Nat.zero_le _⟩ [1, 2, 0] rfl rfl ?_
    cases h11
    exact rt _ _ _ _ dX6_swap_23 ⟨rfl, rfl⟩
  · have h12 := ifn h4 h3
    refine G_iload_n X dX6_swap_11 0 rfl ?_
    cases h12
    exact rt _ _ _ _ dX6_swap_12 ⟨rfl, rfl⟩
def rmX6_lay : Room := { frames := 6, cells := 0, slots := 0, locals := 136 }
theorem pkX6_lay : cK yX6_lay wsX6_lay cX6_lay 3 (some .int) 1 RX6 := ⟨⟨_, rfl⟩, by decide +kernel⟩
set_option maxHeartbeats 4000000 in
set_option maxRecDepth 100000 in
theorem kkX6_lay (l : Launch) (D : va_G) (cI cR : ClassId) (h h_s h_aside h_before h_past h_text h_lost h_tells : Nat) (i_h_known : Int32) (i_h_length : Int32) (i_h_losts : Int32) (i_h_bestOrder : Int32) (i_h_bestMany : Int32) (i_h_spot : Int32) (i_h_begin : Int32) (i_h_isForm : Int32) (i_h_letter : Int32) (i_h_faultReason : Int32) (i_h_faultCause : Int32) (f_h_s : Nat → Int32) (f_h_past : Nat → Int32) (x0 : Int32) (z : (Int32 × Int32 × (Nat → Int32) × (Nat → Int32))) (hz : MX6_lay i_h_known f_h_s f_h_past x0 = some z) : cI1 l yX6_lay wsX6_lay rmX6_lay D cI cR [.ref h, .int x0] [(h, .inr (6, [.ref h_s, .ref h_aside, .ref h_before, .ref h_past, .int i_h_known, .ref h_text, .int i_h_length, .ref h_lost, .int i_h_losts, .int i_h_bestOrder, .int i_h_bestMany, .int i_h_spot, .int i_h_begin, .int i_h_isForm, .int i_h_letter, .ref h_tells, .int i_h_faultReason, .int i_h_faultCause])), (h_s, .inl (cI, 703, .inl f_h_s)), (h_past, .inl (cI, 2812, .inl f_h_past))] z.1 [(h, .inr (6, [.ref h_s, .ref h_aside, .ref h_before, .ref h_past, .int z.2.1, .ref h_text, .int i_h_length, .ref h_lost, .int i_h_losts, .int i_h_bestOrder, .int i_h_bestMany, .int i_h_spot, .int i_h_begin, .int i_h_isForm, .int i_h_letter, .ref h_tells, .int i_h_faultReason, .int i_h_faultCause])), (h_s, .inl (cI, 703, .inl z.2.2.1)), (h_past, .inl (cI, 2812, .inl z.2.2.2))] := by
  unfold MX6_lay at hz
  refine kI_of (cc := cX6_lay) (maxL := 3) (own := RX6) (by decide +kernel) rfl rfl (Nat.le_of_ble_eq_true rfl) (lv0 := [(0, .ref h), (1, .int x0)]) rfl (fun p e s m args below meth c A Q X rt => ?_)
  refine G_aload_n X dX6_lay_0 0 rfl ?_
  refine G_iload_n X dX6_lay_1 1 rfl ?_
  refine G_iconst X (v := 1) dX6_lay_2 (by decide) ?_
  obtain ⟨v1, h2, h3⟩ := bnd hz
  refine G1_calli X (As := [.int x0, .int 1]) (rest := []) (wr := [(h_past, .inl (cI, 2812, .inl f_h_past))]) (ws' := [(h, .inr (6, [.ref h_s, .ref h_aside, .ref h_before, .ref h_past, .int i_h_known, .ref h_text, .int i_h_length, .ref h_lost, .int i_h_losts, .int i_h_bestOrder, .int i_h_bestMany, .int i_h_spot, .int i_h_begin, .int i_h_isForm, .int i_h_letter, .ref h_tells, .int i_h_faultReason, .int i_h_faultCause])), (h_s, .inl (cI, 703, .inl f_h_s)), (h_past, .inl (cI, 2812, .inl f_h_past))]) dX6_lay_3 pkX6_errorOf gX6_lay_X6_errorOf (kkX6_errorOf l D cI cR h h_s h_aside h_before h_past h_text h_lost h_tells i_h_known i_h_length i_h_losts i_h_bestOrder i_h_bestMany i_h_spot i_h_begin i_h_isForm i_h_letter i_h_faultReason i_h_faultCause f_h_s x0 1 v1 h2) ⟨rfl, rfl⟩ ⟨Nat.le_of_ble_eq_true rfl, Nat.le_of_ble_eq_true rfl⟩ rfl rfl (Nat.le_of_ble_eq_true rfl) 0 rfl rfl [0, 1] [2] rfl rfl ⟨rfl, rfl, by decide⟩ ⟨Nat.zero_le _, Nat.zero_le _⟩ [1, 2, 0] rfl rfl ?_
  refine G_istore_n X (lv' := [(2, .int v1), (0, .ref h), (1, .int x0)]) dX6_lay_6 (by decide) rfl ?_
  refine G_iload_n X dX6_lay_7 0 rfl ?_
  refine G_if_ge X (tgt := 13) dX6_lay_8 (by decide) (fun h4 => ?_) (fun h4 => ?_)
  · have h5 := ifp h4 h3
    refine G_aload_n X dX6_lay_13 1 rfl ?_
    obtain ⟨v6, h7, h8⟩ := bnd h5
    refine G1_callv X (As := []) (rest := []) (wr := []) (ws' := [(h, .inr (6, [.ref h_s, .ref h_aside, .ref h_before, .ref h_past, .int v6.1, .ref h_text, .int i_h_length, .ref h_lost, .int i_h_losts, .int i_h_bestOrder, .int i_h_bestMany, .int i_h_spot, .int i_h_begin, .int i_h_isForm, .int i_h_letter, .ref h_tells, .int i_h_faultReason, .int i_h_faultCause])), (h_s, .inl (cI, 703, .inl f_h_s)), (h_past, .inl (cI, 2812, .inl v6.2))]) dX6_lay_14 pkX6_records gX6_lay_X6_records (kkX6_records l D cI cR h h_s h_aside h_before h_past h_text h_lost h_tells i_h_known i_h_length i_h_losts i_h_bestOrder i_h_bestMany i_h_spot i_h_begin i_h_isForm i_h_letter i_h_faultReason i_h_faultCause f_h_s f_h_past v6 h7) ⟨rfl, rfl⟩ ⟨Nat.le_of_ble_eq_true rfl, Nat.le_of_ble_eq_true rfl⟩ rfl rfl (Nat.le_of_ble_eq_true rfl) 0 rfl rfl [0, 1, 2] [] rfl rfl ⟨rfl, rfl, by decide⟩ ⟨Nat.zero_le _, Nat.zero_le _⟩ [0, 1, 2] rfl rfl ?_
    refine G_aload_n X dX6_lay_17 1 rfl ?_
    refine G_iload_n X dX6_lay_18 2 rfl ?_
    obtain ⟨v9, h10, h11⟩ := bnd h8
    refine G1_calli X (As := [.int x0]) (rest := []) (wr := [(h_past, .inl (cI, 2812, .inl v6.2))]) (ws' := [(h, .inr (6, [.ref h_s, .ref h_aside, .ref h_before, .ref h_past, .int v6.1, .ref h_text, .int i_h_length, .ref h_lost, .int i_h_losts, .int i_h_bestOrder, .int i_h_bestMany, .int i_h_spot, .int i_h_begin, .int i_h_isForm, .int i_h_letter, .ref h_tells, .int i_h_faultReason, .int i_h_faultCause])), (h_s, .inl (cI, 703, .inl v9.2)), (h_past, .inl (cI, 2812, .inl v6.2))]) dX6_lay_19 pkX6_laysRow gX6_lay_X6_laysRow (kkX6_laysRow l D cI cR h h_s h_aside h_before h_past h_text h_lost h_tells v6.1 i_h_length i_h_losts i_h_bestOrder i_h_bestMany i_h_spot i_h_begin i_h_isForm i_h_letter i_h_faultReason i_h_faultCause f_h_s x0 v9 h10) ⟨rfl, rfl⟩ ⟨Nat.le_of_ble_eq_true rfl, Nat.le_of_ble_eq_true rfl⟩ rfl rfl (Nat.le_of_ble_eq_true rfl) 0 rfl rfl [0, 1] [2] rfl rfl ⟨rfl, rfl, by decide⟩ ⟨Nat.zero_le _, Nat.zero_le _⟩ [1, 2, 0] rfl rfl ?_
    cases h11
    exact rt _ _ _ _ dX6_lay_22 ⟨rfl, rfl⟩
  · have h12 := ifn h4 h3
    refine G_iload_n X dX6_lay_11 0 rfl ?_
    cases h12
    exact rt _ _ _ _ dX6_lay_12 ⟨rfl, rfl⟩
def rmX6_days : Room := { frames := 2, cells := 0, slots := 0, locals := 45 }
theorem pkX6_days : cK yX6_days wsX6_days cX6_days 3 (some .int) 1 RX6 := ⟨⟨_, rfl⟩, by decide +kernel⟩
theorem hiX6_days_X6 : ∀ w ∈ wsX60, w ∈ wsX6_days := by decide +kernel
theorem flX6_days_7 : Cond.fieldLink RX6 7 "EchoMarginsModel" "s" "[I" ∈ wsX6_days := by decide +kernel
set_option maxHeartbeats 4000000 in
set_option maxRecDepth 100000 in
theorem kkX6_days (l : Launch) (D : va_G) (cI cR : ClassId) (h h_s h_aside h_before h_past h_text h_lost h_tells : Nat) (i_h_known : Int32) (i_h_length : Int32) (i_h_losts : Int32) (i_h_bestOrder : Int32) (i_h_bestMany : Int32) (i_h_spot : Int32) (i_h_begin : Int32) (i_h_isForm : Int32) (i_h_letter : Int32) (i_h_faultReason : Int32) (i_h_faultCause : Int32) (f_h_s : Nat → Int32) (f_h_past : Nat → Int32) (x0 : Int32) (z : (Int32 × Int32 × (Nat → Int32) × (Nat → Int32))) (hz : MX6_days i_h_known f_h_s f_h_past x0 = some z) : cI1 l yX6_days wsX6_days rmX6_days D cI cR [.ref h, .int x0] [(h, .inr (6, [.ref h_s, .ref h_aside, .ref h_before, .ref h_past, .int i_h_known, .ref h_text, .int i_h_length, .ref h_lost, .int i_h_losts, .int i_h_bestOrder, .int i_h_bestMany, .int i_h_spot, .int i_h_begin, .int i_h_isForm, .int i_h_letter, .ref h_tells, .int i_h_faultReason, .int i_h_faultCause])), (h_s, .inl (cI, 703, .inl f_h_s)), (h_past, .inl (cI, 2812, .inl f_h_past))] z.1 [(h, .inr (6, [.ref h_s, .ref h_aside, .ref h_before, .ref h_past, .int z.2.1, .ref h_text, .int i_h_length, .ref h_lost, .int i_h_losts, .int i_h_bestOrder, .int i_h_bestMany, .int i_h_spot, .int i_h_begin, .int i_h_isForm, .int i_h_letter, .ref h_tells, .int i_h_faultReason, .int i_h_faultCause])), (h_s, .inl (cI, 703, .inl z.2.2.1)), (h_past, .inl (cI, 2812, .inl z.2.2.2))] := by
  unfold MX6_days at hz
  refine kI_of (cc := cX6_days) (maxL := 3) (own := RX6) (by decide +kernel) rfl rfl (Nat.le_of_ble_eq_true rfl) (lv0 := [(0, .ref h), (1, .int x0)]) rfl (fun p e s m args below meth c A Q X rt => ?_)
  refine G_aload_n X dX6_days_0 0 rfl ?_
  refine G_iload_n X dX6_days_1 1 rfl ?_
  obtain ⟨v1, h2, h3⟩ := bnd hz
  refine G1_calli X (As := [.int x0]) (rest := []) (wr := [(h_past, .inl (cI, 2812, .inl f_h_past))]) (ws' := [(h, .inr (6, [.ref h_s, .ref h_aside, .ref h_before, .ref h_past, .int i_h_known, .ref h_text, .int i_h_length, .ref h_lost, .int i_h_losts, .int i_h_bestOrder, .int i_h_bestMany, .int i_h_spot, .int i_h_begin, .int i_h_isForm, .int i_h_letter, .ref h_tells, .int i_h_faultReason, .int i_h_faultCause])), (h_s, .inl (cI, 703, .inl f_h_s)), (h_past, .inl (cI, 2812, .inl f_h_past))]) dX6_days_2 pkX6_errorDays gX6_days_X6_errorDays (kkX6_errorDays l D cI cR h h_s h_aside h_before h_past h_text h_lost h_tells i_h_known i_h_length i_h_losts i_h_bestOrder i_h_bestMany i_h_spot i_h_begin i_h_isForm i_h_letter i_h_faultReason i_h_faultCause f_h_s x0 v1 h2) ⟨rfl, rfl⟩ ⟨Nat.le_of_ble_eq_true rfl, Nat.le_of_ble_eq_true rfl⟩ rfl rfl (Nat.le_of_ble_eq_true rfl) 0 rfl rfl [0, 1] [2] rfl rfl ⟨rfl, rfl, by decide⟩ ⟨Nat.zero_le _, Nat.zero_le _⟩ [1, 2, 0] rfl rfl ?_
  refine G_istore_n X (lv' := [(2, .int v1), (0, .ref h), (1, .int x0)]) dX6_days_5 (by decide) rfl ?_
  refine G_iload_n X dX6_days_6 0 rfl ?_
  refine G_if_ge X (tgt := 12) dX6_days_7 (by decide) (fun h4 => ?_) (fun h4 => ?_)
  · have h5 := ifp h4 h3
    refine G_aload_n X dX6_days_12 1 rfl ?_
    obtain ⟨v6, h7, h8⟩ := bnd h5
    refine G1_callv X (As := []) (rest := []) (wr := []) (ws' := [(h, .inr (6, [.ref h_s, .ref h_aside, .ref h_before, .ref h_past, .int v6.1, .ref h_text, .int i_h_length, .ref h_lost, .int i_h_losts, .int i_h_bestOrder, .int i_h_bestMany, .int i_h_spot, .int i_h_begin, .int i_h_isForm, .int i_h_letter, .ref h_tells, .int i_h_faultReason, .int i_h_faultCause])), (h_s, .inl (cI, 703, .inl f_h_s)), (h_past, .inl (cI, 2812, .inl v6.2))]) dX6_days_13 pkX6_records gX6_days_X6_records (kkX6_records l D cI cR h h_s h_aside h_before h_past h_text h_lost h_tells i_h_known i_h_length i_h_losts i_h_bestOrder i_h_bestMany i_h_spot i_h_begin i_h_isForm i_h_letter i_h_faultReason i_h_faultCause f_h_s f_h_past v6 h7) ⟨rfl, rfl⟩ ⟨Nat.le_of_ble_eq_true rfl, Nat.le_of_ble_eq_true rfl⟩ rfl rfl (Nat.le_of_ble_eq_true rfl) 0 rfl rfl [0, 1, 2] [] rfl rfl ⟨rfl, rfl, by decide⟩ ⟨Nat.zero_le _, Nat.zero_le _⟩ [0, 1, 2] rfl rfl ?_
    refine G_aload_n X dX6_days_16 1 rfl ?_
    refine G_get X (i0 := 0) (ci := 6) (j := 0) (C := RX6) (ref := RX6) (T := TX6) (N := 18) dX6_days_17 rfl rfl hiX6_days_X6 (by decide) flX6_days_7 rfl rfl ?_
    refine G_iconst X (v := 1) dX6_days_20 (by decide) ?_
    refine G_dup2 X dX6_days_21 rfl rfl ?_
    obtain ⟨v9, h10, h11⟩ := bnd h8
    refine G_iald X (i0 := 1) dX6_days_22 rfl h10 ?_
    refine G_iload_n X dX6_days_23 2 rfl ?_
    refine G_iadd X dX6_days_24 ?_
    obtain ⟨g12, h13, h14⟩ := bnd h11
    refine G_iast X (i0 := 1) (ws' := [(h, .inr (6, [.ref h_s, .ref h_aside, .ref h_before, .ref h_past, .int v6.1, .ref h_text, .int i_h_length, .ref h_lost, .int i_h_losts, .int i_h_bestOrder, .int i_h_bestMany, .int i_h_spot, .int i_h_begin, .int i_h_isForm, .int i_h_letter, .ref h_tells, .int i_h_faultReason, .int i_h_faultCause])), (h_s, .inl (cI, 703, .inl g12)), (h_past, .inl (cI, 2812, .inl v6.2))]) dX6_days_25 rfl h13 rfl ?_
    refine G_aload_n X dX6_days_26 1 rfl ?_
    refine G_get X (i0 := 0) (ci := 6) (j := 0) (C := RX6) (ref := RX6) (T := TX6) (N := 18) dX6_days_27 rfl rfl hiX6_days_X6 (by decide) flX6_days_7 rfl rfl ?_
    refine G_iconst X (v := 1) dX6_days_30 (by decide) ?_
    obtain ⟨v15, h16, h17⟩ := bnd h14
    refine G_iald X (i0 := 1) dX6_days_31 rfl h16 ?_
    cases h17
    exact rt _ _ _ _ dX6_days_32 ⟨rfl, rfl⟩
  · have h18 := ifn h4 h3
    refine G_iload_n X dX6_days_10 0 rfl ?_
    cases h18
    exact rt _ _ _ _ dX6_days_11 ⟨rfl, rfl⟩
def rmX6_set : Room := { frames := 2, cells := 0, slots := 0, locals := 48 }
theorem pkX6_set : cK yX6_set wsX6_set cX6_set 5 (some .int) 2 RX6 := ⟨⟨_, rfl⟩, by decide +kernel⟩
theorem hiX6_set_X6 : ∀ w ∈ wsX60, w ∈ wsX6_set := by decide +kernel
theorem flX6_set_114 : Cond.constant RX6 114 (-1000001) ∈ wsX6_set := by decide +kernel
theorem flX6_set_7 : Cond.fieldLink RX6 7 "EchoMarginsModel" "s" "[I" ∈ wsX6_set := by decide +kernel
set_option maxHeartbeats 4000000 in
set_option maxRecDepth 100000 in
theorem kkX6_set (l : Launch) (D : va_G) (cI cR : ClassId) (h h_s h_aside h_before h_past h_text h_lost h_tells : Nat) (i_h_known : Int32) (i_h_length : Int32) (i_h_losts : Int32) (i_h_bestOrder : Int32) (i_h_bestMany : Int32) (i_h_spot : Int32) (i_h_begin : Int32) (i_h_isForm : Int32) (i_h_letter : Int32) (i_h_faultReason : Int32) (i_h_faultCause : Int32) (f_h_s : Nat → Int32) (f_h_past : Nat → Int32) (x0 : Int32) (x1 : Int32) (z : (Int32 × Int32 × (Nat → Int32) × (Nat → Int32))) (hz : MX6_set i_h_known f_h_s f_h_past x0 x1 = some z) : cI1 l yX6_set wsX6_set rmX6_set D cI cR [.ref h, .int x0, .int x1] [(h, .inr (6, [.ref h_s, .ref h_aside, .ref h_before, .ref h_past, .int i_h_known, .ref h_text, .int i_h_length, .ref h_lost, .int i_h_losts, .int i_h_bestOrder, .int i_h_bestMany, .int i_h_spot, .int i_h_begin, .int i_h_isForm, .int i_h_letter, .ref h_tells, .int i_h_faultReason, .int i_h_faultCause])), (h_s, .inl (cI, 703, .inl f_h_s)), (h_past, .inl (cI, 2812, .inl f_h_past))] z.1 [(h, .inr (6, [.ref h_s, .ref h_aside, .ref h_before, .ref h_past, .int z.2.1, .ref h_text, .int i_h_length, .ref h_lost, .int i_h_losts, .int i_h_bestOrder, .int i_h_bestMany, .int i_h_spot, .int i_h_begin, .int i_h_isForm, .int i_h_letter, .ref h_tells, .int i_h_faultReason, .int i_h_faultCause])), (h_s, .inl (cI, 703, .inl z.2.2.1)), (h_past, .inl (cI, 2812, .inl z.2.2.2))] := by
  unfold MX6_set at hz
  refine kI_of (cc := cX6_set) (maxL := 5) (own := RX6) (by decide +kernel) rfl rfl (Nat.le_of_ble_eq_true rfl) (lv0 := [(0, .ref h), (1, .int x0), (2, .int x1)]) rfl (fun p e s m args below meth c A Q X rt => ?_)
  refine G_iload_n X dX6_set_0 1 rfl ?_
  refine G_iconst X (v := 0) dX6_set_1 (by decide) ?_
  refine G_iconst X (v := 1) dX6_set_2 (by decide) ?_
  obtain ⟨v1, h2, h3⟩ := bnd hz
  refine G1_callsi X (As := [.int x0, .int 0, .int 1]) (rest := []) (wr := [(h, .inr (6, [.ref h_s, .ref h_aside, .ref h_before, .ref h_past, .int i_h_known, .ref h_text, .int i_h_length, .ref h_lost, .int i_h_losts, .int i_h_bestOrder, .int i_h_bestMany, .int i_h_spot, .int i_h_begin, .int i_h_isForm, .int i_h_letter, .ref h_tells, .int i_h_faultReason, .int i_h_faultCause])), (h_s, .inl (cI, 703, .inl f_h_s)), (h_past, .inl (cI, 2812, .inl f_h_past))]) (ws' := [(h, .inr (6, [.ref h_s, .ref h_aside, .ref h_before, .ref h_past, .int i_h_known, .ref h_text, .int i_h_length, .ref h_lost, .int i_h_losts, .int i_h_bestOrder, .int i_h_bestMany, .int i_h_spot, .int i_h_begin, .int i_h_isForm, .int i_h_letter, .ref h_tells, .int i_h_faultReason, .int i_h_faultCause])), (h_s, .inl (cI, 703, .inl f_h_s)), (h_past, .inl (cI, 2812, .inl f_h_past))]) dX6_set_3 pkX6_in gX6_set_X6_in (kkX6_in l D cI cR x0 0 1 v1 h2) ⟨rfl, rfl⟩ ⟨Nat.le_of_ble_eq_true rfl, Nat.le_of_ble_eq_true rfl⟩ rfl rfl (Nat.le_of_ble_eq_true rfl) [] [0, 1, 2] rfl rfl ⟨rfl, rfl, by decide⟩ ⟨Nat.zero_le _, Nat.zero_le _⟩ [0, 1, 2] rfl rfl ?_
  refine G_if_eq X (tgt := 28) dX6_set_6 (by decide) (fun h4 => ?_) (fun h4 => ?_)
  · have h5 := ifp h4 h3
    refine G_ldc X dX6_set_28 flX6_set_114 ?_
    cases h5
    exact rt _ _ _ _ dX6_set_30 ⟨rfl, rfl⟩
  · have h6 := ifn h4 h3
    refine G_iload_n X dX6_set_9 2 rfl ?_
    refine G_iconst X (v := 1) dX6_set_10 (by decide) ?_
    refine G_iload_n X dX6_set_11 1 rfl ?_
    obtain ⟨j7, h8, h9⟩ := bnd h6
    have J10 : G p l e rmX6_set s m args below meth c D A 5 Q 0 0 22 [(0, .ref h), (1, .int x0), (2, .int x1)] [.int j7, .int 1, .int x1] [(h, .inr (6, [.ref h_s, .ref h_aside, .ref h_before, .ref h_past, .int i_h_known, .ref h_text, .int i_h_length, .ref h_lost, .int i_h_losts, .int i_h_bestOrder, .int i_h_bestMany, .int i_h_spot, .int i_h_begin, .int i_h_isForm, .int i_h_letter, .ref h_tells, .int i_h_faultReason, .int i_h_faultCause])), (h_s, .inl (cI, 703, .inl f_h_s)), (h_past, .inl (cI, 2812, .inl f_h_past))] := by
      obtain ⟨v11, h12, h13⟩ := bnd h9
      refine G1_callsi X (As := [.int x1, .int 1, .int j7]) (rest := []) (wr := [(h, .inr (6, [.ref h_s, .ref h_aside, .ref h_before, .ref h_past, .int i_h_known, .ref h_text, .int i_h_length, .ref h_lost, .int i_h_losts, .int i_h_bestOrder, .int i_h_bestMany, .int i_h_spot, .int i_h_begin, .int i_h_isForm, .int i_h_letter, .ref h_tells, .int i_h_faultReason, .int i_h_faultCause])), (h_s, .inl (cI, 703, .inl f_h_s)), (h_past, .inl (cI, 2812, .inl f_h_past))]) (ws' := [(h, .inr (6, [.ref h_s, .ref h_aside, .ref h_before, .ref h_past, .int i_h_known, .ref h_text, .int i_h_length, .ref h_lost, .int i_h_losts, .int i_h_bestOrder, .int i_h_bestMany, .int i_h_spot, .int i_h_begin, .int i_h_isForm, .int i_h_letter, .ref h_tells, .int i_h_faultReason, .int i_h_faultCause])), (h_s, .inl (cI, 703, .inl f_h_s)), (h_past, .inl (cI, 2812, .inl f_h_past))]) dX6_set_22 pkX6_in gX6_set_X6_in (kkX6_in l D cI cR x1 1 j7 v11 h12) ⟨rfl, rfl⟩ ⟨Nat.le_of_ble_eq_true rfl, Nat.le_of_ble_eq_true rfl⟩ rfl rfl (Nat.le_of_ble_eq_true rfl) [] [0, 1, 2] rfl rfl ⟨rfl, rfl, by decide⟩ ⟨Nat.zero_le _, Nat.zero_le _⟩ [0, 1, 2] rfl rfl ?_
      refine G_if_ne X (tgt := 31) dX6_set_25 (by decide) (fun h14 => ?_) (fun h14 => ?_)
      · have h15 := ifp h14 h13
        refine G_ldc X dX6_set_28 flX6_set_114 ?_
        cases h15
        exact rt _ _ _ _ dX6_set_30 ⟨rfl, rfl⟩
      · have h16 := ifn h14 h13
        refine G_aload_n X dX6_set_31 0 rfl ?_
        obtain ⟨v17, h18, h19⟩ := bnd h16
        refine G1_callv X (As := []) (rest := []) (wr := []) (ws' := [(h, .inr (6, [.ref h_s, .ref h_aside, .ref h_before, .ref h_past, .int v17.1, .ref h_text, .int i_h_length, .ref h_lost, .int i_h_losts, .int i_h_bestOrder, .int i_h_bestMany, .int i_h_spot, .int i_h_begin, .int i_h_isForm, .int i_h_letter, .ref h_tells, .int i_h_faultReason, .int i_h_faultCause])), (h_s, .inl (cI, 703, .inl f_h_s)), (h_past, .inl (cI, 2812, .inl v17.2))]) dX6_set_32 pkX6_records gX6_set_X6_records (kkX6_records l D cI cR h h_s h_aside h_before h_past h_text h_lost h_tells i_h_known i_h_length i_h_losts i_h_bestOrder i_h_bestMany i_h_spot i_h_begin i_h_isForm i_h_letter i_h_faultReason i_h_faultCause f_h_s f_h_past v17 h18) ⟨rfl, rfl⟩ ⟨Nat.le_of_ble_eq_true rfl, Nat.le_of_ble_eq_true rfl⟩ rfl rfl (Nat.le_of_ble_eq_true rfl) 0 rfl rfl [0, 1, 2] [] rfl rfl ⟨rfl, rfl, by decide⟩ ⟨Nat.zero_le _, Nat.zero_le _⟩ [0, 1, 2] rfl rfl ?_
        refine G_aload_n X dX6_set_35 0 rfl ?_
        refine G_get X (i0 := 0) (ci := 6) (j := 0) (C := RX6) (ref := RX6) (T := TX6) (N := 18) dX6_set_36 rfl rfl hiX6_set_X6 (by decide) flX6_set_7 rfl rfl ?_
        refine G_iconst X (v := 2) dX6_set_39 (by decide) ?_
        refine G_iload_n X dX6_set_40 1 rfl ?_
        refine G_iadd X dX6_set_41 ?_
        obtain ⟨v20, h21, h22⟩ := bnd h19
        refine G_iald X (i0 := 1) dX6_set_42 rfl h21 ?_
        refine G_istore_n X (lv' := [(3, .int v20), (0, .ref h), (1, .int x0), (2, .int x1)]) dX6_set_43 (by decide) rfl ?_
        refine G_aload_n X dX6_set_44 1 rfl ?_
        refine G_get X (i0 := 0) (ci := 6) (j := 0) (C := RX6) (ref := RX6) (T := TX6) (N := 18) dX6_set_45 rfl rfl hiX6_set_X6 (by decide) flX6_set_7 rfl rfl ?_
        refine G_iconst X (v := 2) dX6_set_48 (by decide) ?_
        refine G_iload_n X dX6_set_49 2 rfl ?_
        refine G_iadd X dX6_set_50 ?_
        refine G_iload_n X dX6_set_51 3 rfl ?_
        obtain ⟨g23, h24, h25⟩ := bnd h22
        refine G_iast X (i0 := 1) (ws' := [(h, .inr (6, [.ref h_s, .ref h_aside, .ref h_before, .ref h_past, .int v17.1, .ref h_text, .int i_h_length, .ref h_lost, .int i_h_losts, .int i_h_bestOrder, .int i_h_bestMany, .int i_h_spot, .int i_h_begin, .int i_h_isForm, .int i_h_letter, .ref h_tells, .int i_h_faultReason, .int i_h_faultCause])), (h_s, .inl (cI, 703, .inl g23)), (h_past, .inl (cI, 2812, .inl v17.2))]) dX6_set_52 rfl h24 rfl ?_
        refine G_iconst X (v := 0) dX6_set_53 (by decide) ?_
        refine G_istore X (lv' := [(4, .int 0), (3, .int v20), (0, .ref h), (1, .int x0), (2, .int x1)]) dX6_set_54 (by decide) rfl ?_
        obtain ⟨j27, h28, h29⟩ := bnd h25
        have J34 : G p l e rmX6_set s m args below meth c D A 5 Q 0 0 99 [(3, .int v20)] [] [(h, .inr (6, [.ref h_s, .ref h_aside, .ref h_before, .ref h_past, .int v17.1, .ref h_text, .int i_h_length, .ref h_lost, .int i_h_losts, .int i_h_bestOrder, .int i_h_bestMany, .int i_h_spot, .int i_h_begin, .int i_h_isForm, .int i_h_letter, .ref h_tells, .int i_h_faultReason, .int i_h_faultCause])), (h_s, .inl (cI, 703, .inl j27)), (h_past, .inl (cI, 2812, .inl v17.2))] := by
          refine G_iload_n X dX6_set_99 0 rfl ?_
          cases h29
          exact rt _ _ _ _ dX6_set_100 ⟨rfl, rfl⟩
        refine G_lv [2, 1, 0] rfl ?_
        refine itr_ind (P := fun s26 : (Int32 × (Nat → Int32)) => G p l e rmX6_set s m args below meth c D A 5 Q 0 0 56 [(0, .ref h), (3, .int v20), (4, .int s26.1)] [] [(h, .inr (6, [.ref h_s, .ref h_aside, .ref h_before, .ref h_past, .int v17.1, .ref h_text, .int i_h_length, .ref h_lost, .int i_h_losts, .int i_h_bestOrder, .int i_h_bestMany, .int i_h_spot, .int i_h_begin, .int i_h_isForm, .int i_h_letter, .ref h_tells, .int i_h_faultReason, .int i_h_faultCause])), (h_s, .inl (cI, 703, .inl s26.2)), (h_past, .inl (cI, 2812, .inl v17.2))]) (fun s26 o33 h30 h31 h32 => ?_) FU _ h28
        unfold SX6_set_56 at h30
        refine G_iload X dX6_set_56 2 rfl ?_
        refine G_aload_n X dX6_set_58 0 rfl ?_
        refine G_get X (i0 := 0) (ci := 6) (j := 0) (C := RX6) (ref := RX6) (T := TX6) (N := 18) dX6_set_59 rfl rfl hiX6_set_X6 (by decide) flX6_set_7 rfl rfl ?_
        refine G_iconst X (v := 0) dX6_set_62 (by decide) ?_
        obtain ⟨v36, h37, h38⟩ := bnd h30
        refine G_iald X (i0 := 1) dX6_set_63 rfl h37 ?_
        refine G_icmp_ge X (tgt := 99) dX6_set_64 (by decide) (fun h39 => ?_) (fun h39 => ?_)
        · have h40 := ifp h39 h38
          cases h40
          have h41 := h32 _ rfl
          subst h41
          exact G_lv [1] rfl (J34)
        · have h42 := ifn h39 h38
          obtain ⟨j44, h45, h46⟩ := bnd h42
          have J51 : G p l e rmX6_set s m args below meth c D A 5 Q 0 0 93 [(0, .ref h), (3, .int v20), (4, .int s26.1)] [] [(h, .inr (6, [.ref h_s, .ref h_aside, .ref h_before, .ref h_past, .int v17.1, .ref h_text, .int i_h_length, .ref h_lost, .int i_h_losts, .int i_h_bestOrder, .int i_h_bestMany, .int i_h_spot, .int i_h_begin, .int i_h_isForm, .int i_h_letter, .ref h_tells, .int i_h_faultReason, .int i_h_faultCause])), (h_s, .inl (cI, 703, .inl j44)), (h_past, .inl (cI, 2812, .inl v17.2))] := by
            refine G_iinc X (v := (s26.1 + 1)) (lv' := [(4, .int (s26.1 + 1)), (0, .ref h), (3, .int v20)]) dX6_set_93 2 rfl rfl (by decide) rfl ?_
            refine G_goto X (tgt := 56) dX6_set_96 (by decide) ?_
            cases h46
            exact G_lv [1, 2, 0] rfl (h31 _ rfl)
          refine itr_ind (P := fun s43 : (Nat → Int32) => G p l e rmX6_set s m args below meth c D A 5 Q 0 0 67 [(0, .ref h), (3, .int v20), (4, .int s26.1)] [] [(h, .inr (6, [.ref h_s, .ref h_aside, .ref h_before, .ref h_past, .int v17.1, .ref h_text, .int i_h_length, .ref h_lost, .int i_h_losts, .int i_h_bestOrder, .int i_h_bestMany, .int i_h_spot, .int i_h_begin, .int i_h_isForm, .int i_h_letter, .ref h_tells, .int i_h_faultReason, .int i_h_faultCause])), (h_s, .inl (cI, 703, .inl s43)), (h_past, .inl (cI, 2812, .inl v17.2))]) (fun s43 o50 h47 h48 h49 => ?_) FU _ h45
          unfold SX6_set_67 at h47
          refine G_aload_n X dX6_set_67 0 rfl ?_
          refine G_iload X dX6_set_68 2 rfl ?_
          refine G_iconst X (v := 4) dX6_set_70 (by decide) ?_
          obtain ⟨v53, h54, h55⟩ := bnd h47
          refine G1_calli X (As := [.int s26.1, .int 4]) (rest := []) (wr := [(h_past, .inl (cI, 2812, .inl v17.2))]) (ws' := [(h, .inr (6, [.ref h_s, .ref h_aside, .ref h_before, .ref h_past, .int v17.1, .ref h_text, .int i_h_length, .ref h_lost, .int i_h_losts, .int i_h_bestOrder, .int i_h_bestMany, .int i_h_spot, .int i_h_begin, .int i_h_isForm, .int i_h_letter, .ref h_tells, .int i_h_faultReason, .int i_h_faultCause])), (h_s, .inl (cI, 703, .inl s43)), (h_past, .inl (cI, 2812, .inl v17.2))]) dX6_set_71 pkX6_of gX6_set_X6_of (kkX6_of l D cI cR h h_s h_aside h_before h_past h_text h_lost h_tells v17.1 i_h_length i_h_losts i_h_bestOrder i_h_bestMany i_h_spot i_h_begin i_h_isForm i_h_letter i_h_faultReason i_h_faultCause s43 s26.1 4 v53 h54) ⟨rfl, rfl⟩ ⟨Nat.le_of_ble_eq_true rfl, Nat.le_of_ble_eq_true rfl⟩ rfl rfl (Nat.le_of_ble_eq_true rfl) 0 rfl rfl [0, 1] [2] rfl rfl ⟨rfl, rfl, by decide⟩ ⟨Nat.zero_le _, Nat.zero_le _⟩ [1, 2, 0] rfl rfl ?_
          refine G_aload_n X dX6_set_74 0 rfl ?_
          refine G_get X (i0 := 0) (ci := 6) (j := 0) (C := RX6) (ref := RX6) (T := TX6) (N := 18) dX6_set_75 rfl rfl hiX6_set_X6 (by decide) flX6_set_7 rfl rfl ?_
          refine G_iconst X (v := 2) dX6_set_78 (by decide) ?_
          obtain ⟨v56, h57, h58⟩ := bnd h55
          refine G_iald X (i0 := 1) dX6_set_79 rfl h57 ?_
          refine G_icmp_le X (tgt := 93) dX6_set_80 (by decide) (fun h59 => ?_) (fun h59 => ?_)
          · have h60 := ifp h59 h58
            cases h60
            have h61 := h49 _ rfl
            subst h61
            exact J51
          · have h62 := ifn h59 h58
            refine G_aload_n X dX6_set_83 0 rfl ?_
            refine G_iload X dX6_set_84 2 rfl ?_
            refine G_iconst X (v := 0) dX6_set_86 (by decide) ?_
            obtain ⟨v63, h64, h65⟩ := bnd h62
            refine G1_callv X (As := [.int s26.1, .int 0]) (rest := []) (wr := [(h_past, .inl (cI, 2812, .inl v17.2))]) (ws' := [(h, .inr (6, [.ref h_s, .ref h_aside, .ref h_before, .ref h_past, .int v17.1, .ref h_text, .int i_h_length, .ref h_lost, .int i_h_losts, .int i_h_bestOrder, .int i_h_bestMany, .int i_h_spot, .int i_h_begin, .int i_h_isForm, .int i_h_letter, .ref h_tells, .int i_h_faultReason, .int i_h_faultCause])), (h_s, .inl (cI, 703, .inl v63)), (h_past, .inl (cI, 2812, .inl v17.2))]) dX6_set_87 pkX6_drops gX6_set_X6_drops (kkX6_drops l D cI cR h h_s h_aside h_before h_past h_text h_lost h_tells v17.1 i_h_length i_h_losts i_h_bestOrder i_h_bestMany i_h_spot i_h_begin i_h_isForm i_h_letter i_h_faultReason i_h_faultCause s43 s26.1 0 v63 h64) ⟨rfl, rfl⟩ ⟨Nat.le_of_ble_eq_true rfl, Nat.le_of_ble_eq_true rfl⟩ rfl rfl (Nat.le_of_ble_eq_true rfl) 0 rfl rfl [0, 1] [2] rfl rfl ⟨rfl, rfl, by decide⟩ ⟨Nat.zero_le _, Nat.zero_le _⟩ [1, 2, 0] rfl rfl ?_
            refine G_goto X (tgt := 67) dX6_set_90 (by decide) ?_
            cases h65
            exact h48 _ rfl
    refine G_if_ne X (tgt := 20) dX6_set_12 (by decide) (fun h66 => ?_) (fun h66 => ?_)
    · have h67 := ifp h66 h8
      refine G_bipush X (v := 16) dX6_set_15 (by decide) ?_
      refine G_goto X (tgt := 22) dX6_set_17 (by decide) ?_
      cases h67
      exact J10
    · have h68 := ifn h66 h8
      refine G_bipush X (v := 99) dX6_set_20 (by decide) ?_
      cases h68
      exact J10
def rmX6_cell : Room := { frames := 6, cells := 0, slots := 0, locals := 136 }
theorem pkX6_cell : cK yX6_cell wsX6_cell cX6_cell 5 (some .int) 3 RX6 := ⟨⟨_, rfl⟩, by decide +kernel⟩
theorem flX6_cell_114 : Cond.constant RX6 114 (-1000001) ∈ wsX6_cell := by decide +kernel
theorem flX6_cell_51 : Cond.constant RX6 51 (-1000004) ∈ wsX6_cell := by decide +kernel
set_option maxHeartbeats 4000000 in
set_option maxRecDepth 100000 in
theorem kkX6_cell (l : Launch) (D : va_G) (cI cR : ClassId) (h h_s h_aside h_before h_past h_text h_lost h_tells : Nat) (i_h_known : Int32) (i_h_length : Int32) (i_h_losts : Int32) (i_h_bestOrder : Int32) (i_h_bestMany : Int32) (i_h_spot : Int32) (i_h_begin : Int32) (i_h_isForm : Int32) (i_h_letter : Int32) (i_h_faultReason : Int32) (i_h_faultCause : Int32) (f_h_s : Nat → Int32) (x0 : Int32) (x1 : Int32) (x2 : Int32) (z : Int32) (hz : MX6_cell f_h_s x0 x1 x2 = some z) : cI1 l yX6_cell wsX6_cell rmX6_cell D cI cR [.ref h, .int x0, .int x1, .int x2] [(h, .inr (6, [.ref h_s, .ref h_aside, .ref h_before, .ref h_past, .int i_h_known, .ref h_text, .int i_h_length, .ref h_lost, .int i_h_losts, .int i_h_bestOrder, .int i_h_bestMany, .int i_h_spot, .int i_h_begin, .int i_h_isForm, .int i_h_letter, .ref h_tells, .int i_h_faultReason, .int i_h_faultCause])), (h_s, .inl (cI, 703, .inl f_h_s))] z [(h, .inr (6, [.ref h_s, .ref h_aside, .ref h_before, .ref h_past, .int i_h_known, .ref h_text, .int i_h_length, .ref h_lost, .int i_h_losts, .int i_h_bestOrder, .int i_h_bestMany, .int i_h_spot, .int i_h_begin, .int i_h_isForm, .int i_h_letter, .ref h_tells, .int i_h_faultReason, .int i_h_faultCause])), (h_s, .inl (cI, 703, .inl f_h_s))] := by
  unfold MX6_cell at hz
  refine kI_of (cc := cX6_cell) (maxL := 5) (own := RX6) (by decide +kernel) rfl rfl (Nat.le_of_ble_eq_true rfl) (lv0 := [(0, .ref h), (1, .int x0), (2, .int x1), (3, .int x2)]) rfl (fun p e s m args below meth c A Q X rt => ?_)
  refine G_aload_n X dX6_cell_0 0 rfl ?_
  refine G_iload_n X dX6_cell_1 1 rfl ?_
  obtain ⟨v1, h2, h3⟩ := bnd hz
  refine G1_calli X (As := [.int x0]) (rest := []) (wr := []) (ws' := [(h, .inr (6, [.ref h_s, .ref h_aside, .ref h_before, .ref h_past, .int i_h_known, .ref h_text, .int i_h_length, .ref h_lost, .int i_h_losts, .int i_h_bestOrder, .int i_h_bestMany, .int i_h_spot, .int i_h_begin, .int i_h_isForm, .int i_h_letter, .ref h_tells, .int i_h_faultReason, .int i_h_faultCause])), (h_s, .inl (cI, 703, .inl f_h_s))]) dX6_cell_2 pkX6_isRow gX6_cell_X6_isRow (kkX6_isRow l D cI cR h h_s h_aside h_before h_past h_text h_lost h_tells i_h_known i_h_length i_h_losts i_h_bestOrder i_h_bestMany i_h_spot i_h_begin i_h_isForm i_h_letter i_h_faultReason i_h_faultCause f_h_s x0 v1 h2) ⟨rfl, rfl⟩ ⟨Nat.le_of_ble_eq_true rfl, Nat.le_of_ble_eq_true rfl⟩ rfl rfl (Nat.le_of_ble_eq_true rfl) 0 rfl rfl [0, 1] [] rfl rfl ⟨rfl, rfl, by decide⟩ ⟨Nat.zero_le _, Nat.zero_le _⟩ [0, 1] rfl rfl ?_
  refine G_if_eq X (tgt := 15) dX6_cell_5 (by decide) (fun h4 => ?_) (fun h4 => ?_)
  · have h5 := ifp h4 h3
    refine G_ldc X dX6_cell_15 flX6_cell_114 ?_
    cases h5
    exact rt _ _ _ _ dX6_cell_17 ⟨rfl, rfl⟩
  · have h6 := ifn h4 h3
    refine G_iload_n X dX6_cell_8 2 rfl ?_
    obtain ⟨v7, h8, h9⟩ := bnd h6
    refine G1_callsi X (As := [.int x1]) (rest := []) (wr := [(h, .inr (6, [.ref h_s, .ref h_aside, .ref h_before, .ref h_past, .int i_h_known, .ref h_text, .int i_h_length, .ref h_lost, .int i_h_losts, .int i_h_bestOrder, .int i_h_bestMany, .int i_h_spot, .int i_h_begin, .int i_h_isForm, .int i_h_letter, .ref h_tells, .int i_h_faultReason, .int i_h_faultCause])), (h_s, .inl (cI, 703, .inl f_h_s))]) (ws' := [(h, .inr (6, [.ref h_s, .ref h_aside, .ref h_before, .ref h_past, .int i_h_known, .ref h_text, .int i_h_length, .ref h_lost, .int i_h_losts, .int i_h_bestOrder, .int i_h_bestMany, .int i_h_spot, .int i_h_begin, .int i_h_isForm, .int i_h_letter, .ref h_tells, .int i_h_faultReason, .int i_h_faultCause])), (h_s, .inl (cI, 703, .inl f_h_s))]) dX6_cell_9 pkX6_isCell gX6_cell_X6_isCell (kkX6_isCell l D cI cR x1 v7 h8) ⟨rfl, rfl⟩ ⟨Nat.le_of_ble_eq_true rfl, Nat.le_of_ble_eq_true rfl⟩ rfl rfl (Nat.le_of_ble_eq_true rfl) [] [0, 1] rfl rfl ⟨rfl, rfl, by decide⟩ ⟨Nat.zero_le _, Nat.zero_le _⟩ [0, 1] rfl rfl ?_
    refine G_if_ne X (tgt := 18) dX6_cell_12 (by decide) (fun h10 => ?_) (fun h10 => ?_)
    · have h11 := ifp h10 h9
      refine G_ldc X dX6_cell_15 flX6_cell_114 ?_
      cases h11
      exact rt _ _ _ _ dX6_cell_17 ⟨rfl, rfl⟩
    · have h12 := ifn h10 h9
      refine G_aload_n X dX6_cell_18 0 rfl ?_
      refine G_iload_n X dX6_cell_19 1 rfl ?_
      refine G_iconst X (v := 5) dX6_cell_20 (by decide) ?_
      refine G_iload_n X dX6_cell_21 2 rfl ?_
      refine G_iadd X dX6_cell_22 ?_
      obtain ⟨v13, h14, h15⟩ := bnd h12
      refine G1_calli X (As := [.int x0, .int (5 + x1)]) (rest := []) (wr := []) (ws' := [(h, .inr (6, [.ref h_s, .ref h_aside, .ref h_before, .ref h_past, .int i_h_known, .ref h_text, .int i_h_length, .ref h_lost, .int i_h_losts, .int i_h_bestOrder, .int i_h_bestMany, .int i_h_spot, .int i_h_begin, .int i_h_isForm, .int i_h_letter, .ref h_tells, .int i_h_faultReason, .int i_h_faultCause])), (h_s, .inl (cI, 703, .inl f_h_s))]) dX6_cell_23 pkX6_of gX6_cell_X6_of (kkX6_of l D cI cR h h_s h_aside h_before h_past h_text h_lost h_tells i_h_known i_h_length i_h_losts i_h_bestOrder i_h_bestMany i_h_spot i_h_begin i_h_isForm i_h_letter i_h_faultReason i_h_faultCause f_h_s x0 (5 + x1) v13 h14) ⟨rfl, rfl⟩ ⟨Nat.le_of_ble_eq_true rfl, Nat.le_of_ble_eq_true rfl⟩ rfl rfl (Nat.le_of_ble_eq_true rfl) 0 rfl rfl [0, 1] [] rfl rfl ⟨rfl, rfl, by decide⟩ ⟨Nat.zero_le _, Nat.zero_le _⟩ [0, 1] rfl rfl ?_
      refine G_istore X (lv' := [(4, .int v13), (0, .ref h), (1, .int x0), (2, .int x1), (3, .int x2)]) dX6_cell_26 (by decide) rfl ?_
      refine G_iload_n X dX6_cell_28 4 rfl ?_
      by_cases h16 : x2 = 0
      · have h17 := ifp h16 h15
        refine G_tableIn X (off := 35) (tgt := 64) dX6_cell_29 (by rw [h16]; decide) (by rw [h16]; decide) (by rw [h16]; rfl) (by decide) ?_
        refine G_iload X dX6_cell_64 0 rfl ?_
        refine G_if_ne X (tgt := 74) dX6_cell_66 (by decide) (fun h19 => ?_) (fun h19 => ?_)
        · have h20 := ifp h19 h17
          refine G_ldc X dX6_cell_69 flX6_cell_51 ?_
          refine G_goto X (tgt := 78) dX6_cell_71 (by decide) ?_
          cases h20
          exact rt _ _ _ _ dX6_cell_78 ⟨rfl, rfl⟩
        · have h21 := ifn h19 h17
          refine G_iload X dX6_cell_74 0 rfl ?_
          refine G_iconst X (v := 1) dX6_cell_76 (by decide) ?_
          refine G_isub X dX6_cell_77 ?_
          cases h21
          exact rt _ _ _ _ dX6_cell_78 ⟨rfl, rfl⟩
      · have h18 := ifn h16 h15
        by_cases h22 : x2 = 1
        · have h23 := ifp h22 h18
          refine G_tableIn X (off := 50) (tgt := 79) dX6_cell_29 (by rw [h22]; decide) (by rw [h22]; decide) (by rw [h22]; rfl) (by decide) ?_
          refine G_aload_n X dX6_cell_79 1 rfl ?_
          refine G_iload_n X dX6_cell_80 2 rfl ?_
          refine G_bipush X (v := 21) dX6_cell_81 (by decide) ?_
          refine G_iload_n X dX6_cell_83 3 rfl ?_
          refine G_iadd X dX6_cell_84 ?_
          obtain ⟨v25, h26, h27⟩ := bnd h23
          refine G1_calli X (As := [.int x0, .int (21 + x1)]) (rest := []) (wr := []) (ws' := [(h, .inr (6, [.ref h_s, .ref h_aside, .ref h_before, .ref h_past, .int i_h_known, .ref h_text, .int i_h_length, .ref h_lost, .int i_h_losts, .int i_h_bestOrder, .int i_h_bestMany, .int i_h_spot, .int i_h_begin, .int i_h_isForm, .int i_h_letter, .ref h_tells, .int i_h_faultReason, .int i_h_faultCause])), (h_s, .inl (cI, 703, .inl f_h_s))]) dX6_cell_85 pkX6_of gX6_cell_X6_of (kkX6_of l D cI cR h h_s h_aside h_before h_past h_text h_lost h_tells i_h_known i_h_length i_h_losts i_h_bestOrder i_h_bestMany i_h_spot i_h_begin i_h_isForm i_h_letter i_h_faultReason i_h_faultCause f_h_s x0 (21 + x1) v25 h26) ⟨rfl, rfl⟩ ⟨Nat.le_of_ble_eq_true rfl, Nat.le_of_ble_eq_true rfl⟩ rfl rfl (Nat.le_of_ble_eq_true rfl) 0 rfl rfl [0, 1] [] rfl rfl ⟨rfl, rfl, by decide⟩ ⟨Nat.zero_le _, Nat.zero_le _⟩ [0, 1] rfl rfl ?_
          cases h27
          exact rt _ _ _ _ dX6_cell_88 ⟨rfl, rfl⟩
        · have h24 := ifn h22 h18
          by_cases h28 : x2 = 2
          · have h29 := ifp h28 h24
            refine G_tableIn X (off := 60) (tgt := 89) dX6_cell_29 (by rw [h28]; decide) (by rw [h28]; decide) (by rw [h28]; rfl) (by decide) ?_
            refine G_aload_n X dX6_cell_89 1 rfl ?_
            refine G_iload_n X dX6_cell_90 2 rfl ?_
            refine G_iload_n X dX6_cell_91 3 rfl ?_
            obtain ⟨v31, h32, h33⟩ := bnd h29
            refine G1_calli X (As := [.int x0, .int x1]) (rest := []) (wr := []) (ws' := [(h, .inr (6, [.ref h_s, .ref h_aside, .ref h_before, .ref h_past, .int i_h_known, .ref h_text, .int i_h_length, .ref h_lost, .int i_h_losts, .int i_h_bestOrder, .int i_h_bestMany, .int i_h_spot, .int i_h_begin, .int i_h_isForm, .int i_h_letter, .ref h_tells, .int i_h_faultReason, .int i_h_faultCause])), (h_s, .inl (cI, 703, .inl f_h_s))]) dX6_cell_92 pkX6_heard gX6_cell_X6_heard (kkX6_heard l D cI cR h h_s h_aside h_before h_past h_text h_lost h_tells i_h_known i_h_length i_h_losts i_h_bestOrder i_h_bestMany i_h_spot i_h_begin i_h_isForm i_h_letter i_h_faultReason i_h_faultCause f_h_s x0 x1 v31 h32) ⟨rfl, rfl⟩ ⟨Nat.le_of_ble_eq_true rfl, Nat.le_of_ble_eq_true rfl⟩ rfl rfl (Nat.le_of_ble_eq_true rfl) 0 rfl rfl [0, 1] [] rfl rfl ⟨rfl, rfl, by decide⟩ ⟨Nat.zero_le _, Nat.zero_le _⟩ [0, 1] rfl rfl ?_
            refine G_if_ne X (tgt := 103) dX6_cell_95 (by decide) (fun h34 => ?_) (fun h34 => ?_)
            · have h35 := ifp h34 h33
              refine G_ldc X dX6_cell_98 flX6_cell_51 ?_
              refine G_goto X (tgt := 111) dX6_cell_100 (by decide) ?_
              cases h35
              exact rt _ _ _ _ dX6_cell_111 ⟨rfl, rfl⟩
            · have h36 := ifn h34 h33
              refine G_aload_n X dX6_cell_103 1 rfl ?_
              refine G_iload_n X dX6_cell_104 2 rfl ?_
              refine G_iload_n X dX6_cell_105 3 rfl ?_
              obtain ⟨v37, h38, h39⟩ := bnd h36
              refine G1_calli X (As := [.int x0, .int x1]) (rest := []) (wr := []) (ws' := [(h, .inr (6, [.ref h_s, .ref h_aside, .ref h_before, .ref h_past, .int i_h_known, .ref h_text, .int i_h_length, .ref h_lost, .int i_h_losts, .int i_h_bestOrder, .int i_h_bestMany, .int i_h_spot, .int i_h_begin, .int i_h_isForm, .int i_h_letter, .ref h_tells, .int i_h_faultReason, .int i_h_faultCause])), (h_s, .inl (cI, 703, .inl f_h_s))]) dX6_cell_106 pkX6_heard gX6_cell_X6_heard (kkX6_heard l D cI cR h h_s h_aside h_before h_past h_text h_lost h_tells i_h_known i_h_length i_h_losts i_h_bestOrder i_h_bestMany i_h_spot i_h_begin i_h_isForm i_h_letter i_h_faultReason i_h_faultCause f_h_s x0 x1 v37 h38) ⟨rfl, rfl⟩ ⟨Nat.le_of_ble_eq_true rfl, Nat.le_of_ble_eq_true rfl⟩ rfl rfl (Nat.le_of_ble_eq_true rfl) 0 rfl rfl [0, 1] [] rfl rfl ⟨rfl, rfl, by decide⟩ ⟨Nat.zero_le _, Nat.zero_le _⟩ [0, 1] rfl rfl ?_
              refine G_iconst X (v := 1) dX6_cell_109 (by decide) ?_
              refine G_isub X dX6_cell_110 ?_
              cases h39
              exact rt _ _ _ _ dX6_cell_111 ⟨rfl, rfl⟩
          · have h30 := ifn h28 h24
            by_cases h40 : x2 = 3
            · have h41 := ifp h40 h30
              refine G_tableIn X (off := 83) (tgt := 112) dX6_cell_29 (by rw [h40]; decide) (by rw [h40]; decide) (by rw [h40]; rfl) (by decide) ?_
              refine G_aload_n X dX6_cell_112 1 rfl ?_
              refine G_iload_n X dX6_cell_113 2 rfl ?_
              refine G_iload_n X dX6_cell_114 3 rfl ?_
              obtain ⟨v43, h44, h45⟩ := bnd h41
              refine G1_calli X (As := [.int x0, .int x1]) (rest := []) (wr := []) (ws' := [(h, .inr (6, [.ref h_s, .ref h_aside, .ref h_before, .ref h_past, .int i_h_known, .ref h_text, .int i_h_length, .ref h_lost, .int i_h_losts, .int i_h_bestOrder, .int i_h_bestMany, .int i_h_spot, .int i_h_begin, .int i_h_isForm, .int i_h_letter, .ref h_tells, .int i_h_faultReason, .int i_h_faultCause])), (h_s, .inl (cI, 703, .inl f_h_s))]) dX6_cell_115 pkX6_heardAge gX6_cell_X6_heardAge (kkX6_heardAge l D cI cR h h_s h_aside h_before h_past h_text h_lost h_tells i_h_known i_h_length i_h_losts i_h_bestOrder i_h_bestMany i_h_spot i_h_begin i_h_isForm i_h_letter i_h_faultReason i_h_faultCause f_h_s x0 x1 v43 h44) ⟨rfl, rfl⟩ ⟨Nat.le_of_ble_eq_true rfl, Nat.le_of_ble_eq_true rfl⟩ rfl rfl (Nat.le_of_ble_eq_true rfl) 0 rfl rfl [0, 1] [] rfl rfl ⟨rfl, rfl, by decide⟩ ⟨Nat.zero_le _, Nat.zero_le _⟩ [0, 1] rfl rfl ?_
              cases h45
              exact rt _ _ _ _ dX6_cell_118 ⟨rfl, rfl⟩
            · have h42 := ifn h40 h30
              by_cases h46 : x2 = 4
              · have h47 := ifp h46 h42
                refine G_tableIn X (off := 90) (tgt := 119) dX6_cell_29 (by rw [h46]; decide) (by rw [h46]; decide) (by rw [h46]; rfl) (by decide) ?_
                refine G_iload X dX6_cell_119 0 rfl ?_
                refine G_if_le X (tgt := 139) dX6_cell_121 (by decide) (fun h49 => ?_) (fun h49 => ?_)
                · have h50 := ifp h49 h47
                  refine G_iconst X (v := 0) dX6_cell_139 (by decide) ?_
                  cases h50
                  exact rt _ _ _ _ dX6_cell_140 ⟨rfl, rfl⟩
                · have h51 := ifn h49 h47
                  refine G_aload_n X dX6_cell_124 1 rfl ?_
                  refine G_iload_n X dX6_cell_125 2 rfl ?_
                  refine G_iload_n X dX6_cell_126 3 rfl ?_
                  obtain ⟨v52, h53, h54⟩ := bnd h51
                  refine G1_calli X (As := [.int x0, .int x1]) (rest := []) (wr := []) (ws' := [(h, .inr (6, [.ref h_s, .ref h_aside, .ref h_before, .ref h_past, .int i_h_known, .ref h_text, .int i_h_length, .ref h_lost, .int i_h_losts, .int i_h_bestOrder, .int i_h_bestMany, .int i_h_spot, .int i_h_begin, .int i_h_isForm, .int i_h_letter, .ref h_tells, .int i_h_faultReason, .int i_h_faultCause])), (h_s, .inl (cI, 703, .inl f_h_s))]) dX6_cell_127 pkX6_heard gX6_cell_X6_heard (kkX6_heard l D cI cR h h_s h_aside h_before h_past h_text h_lost h_tells i_h_known i_h_length i_h_losts i_h_bestOrder i_h_bestMany i_h_spot i_h_begin i_h_isForm i_h_letter i_h_faultReason i_h_faultCause f_h_s x0 x1 v52 h53) ⟨rfl, rfl⟩ ⟨Nat.le_of_ble_eq_true rfl, Nat.le_of_ble_eq_true rfl⟩ rfl rfl (Nat.le_of_ble_eq_true rfl) 0 rfl rfl [0, 1] [] rfl rfl ⟨rfl, rfl, by decide⟩ ⟨Nat.zero_le _, Nat.zero_le _⟩ [0, 1] rfl rfl ?_
                  refine G_iload X dX6_cell_130 0 rfl ?_
                  refine G_icmp_ne X (tgt := 139) dX6_cell_132 (by decide) (fun h55 => ?_) (fun h55 => ?_)
                  · have h56 := ifp h55 h54
                    refine G_iconst X (v := 1) dX6_cell_135 (by decide) ?_
                    refine G_goto X (tgt := 140) dX6_cell_136 (by decide) ?_
                    cases h56
                    exact rt _ _ _ _ dX6_cell_140 ⟨rfl, rfl⟩
                  · have h57 := ifn h55 h54
                    refine G_iconst X (v := 0) dX6_cell_139 (by decide) ?_
                    cases h57
                    exact rt _ _ _ _ dX6_cell_140 ⟨rfl, rfl⟩
              · have h48 := ifn h46 h42
                have h16 : ¬ (x2).toInt = 0 := fun q => h16 (Int32.toInt_inj.mp (q.trans (by decide)))
                have h22 : ¬ (x2).toInt = 1 := fun q => h22 (Int32.toInt_inj.mp (q.trans (by decide)))
                have h28 : ¬ (x2).toInt = 2 := fun q => h28 (Int32.toInt_inj.mp (q.trans (by decide)))
                have h40 : ¬ (x2).toInt = 3 := fun q => h40 (Int32.toInt_inj.mp (q.trans (by decide)))
                have h46 : ¬ (x2).toInt = 4 := fun q => h46 (Int32.toInt_inj.mp (q.trans (by decide)))
                refine G_tableOut X (tgt := 141) dX6_cell_29 (by omega) (by decide) ?_
                refine G_ldc X dX6_cell_141 flX6_cell_114 ?_
                cases h48
                exact rt _ _ _ _ dX6_cell_143 ⟨rfl, rfl⟩
def rmX6_margin : Room := { frames := 4, cells := 0, slots := 0, locals := 89 }
theorem pkX6_margin : cK yX6_margin wsX6_margin cX6_margin 5 (some .int) 3 RX6 := ⟨⟨_, rfl⟩, by decide +kernel⟩
theorem flX6_margin_114 : Cond.constant RX6 114 (-1000001) ∈ wsX6_margin := by decide +kernel
theorem flX6_margin_51 : Cond.constant RX6 51 (-1000004) ∈ wsX6_margin := by decide +kernel
set_option maxHeartbeats 4000000 in
set_option maxRecDepth 100000 in
theorem kkX6_margin (l : Launch) (D : va_G) (cI cR : ClassId) (h h_s h_aside h_before h_past h_text h_lost h_tells : Nat) (i_h_known : Int32) (i_h_length : Int32) (i_h_losts : Int32) (i_h_bestOrder : Int32) (i_h_bestMany : Int32) (i_h_spot : Int32) (i_h_begin : Int32) (i_h_isForm : Int32) (i_h_letter : Int32) (i_h_faultReason : Int32) (i_h_faultCause : Int32) (f_h_s : Nat → Int32) (x0 : Int32) (x1 : Int32) (x2 : Int32) (z : Int32) (hz : MX6_margin f_h_s x0 x1 x2 = some z) : cI1 l yX6_margin wsX6_margin rmX6_margin D cI cR [.ref h, .int x0, .int x1, .int x2] [(h, .inr (6, [.ref h_s, .ref h_aside, .ref h_before, .ref h_past, .int i_h_known, .ref h_text, .int i_h_length, .ref h_lost, .int i_h_losts, .int i_h_bestOrder, .int i_h_bestMany, .int i_h_spot, .int i_h_begin, .int i_h_isForm, .int i_h_letter, .ref h_tells, .int i_h_faultReason, .int i_h_faultCause])), (h_s, .inl (cI, 703, .inl f_h_s))] z [(h, .inr (6, [.ref h_s, .ref h_aside, .ref h_before, .ref h_past, .int i_h_known, .ref h_text, .int i_h_length, .ref h_lost, .int i_h_losts, .int i_h_bestOrder, .int i_h_bestMany, .int i_h_spot, .int i_h_begin, .int i_h_isForm, .int i_h_letter, .ref h_tells, .int i_h_faultReason, .int i_h_faultCause])), (h_s, .inl (cI, 703, .inl f_h_s))] := by
  unfold MX6_margin at hz
  refine kI_of (cc := cX6_margin) (maxL := 5) (own := RX6) (by decide +kernel) rfl rfl (Nat.le_of_ble_eq_true rfl) (lv0 := [(0, .ref h), (1, .int x0), (2, .int x1), (3, .int x2)]) rfl (fun p e s m args below meth c A Q X rt => ?_)
  refine G_aload_n X dX6_margin_0 0 rfl ?_
  refine G_iload_n X dX6_margin_1 1 rfl ?_
  obtain ⟨v1, h2, h3⟩ := bnd hz
  refine G1_calli X (As := [.int x0]) (rest := []) (wr := []) (ws' := [(h, .inr (6, [.ref h_s, .ref h_aside, .ref h_before, .ref h_past, .int i_h_known, .ref h_text, .int i_h_length, .ref h_lost, .int i_h_losts, .int i_h_bestOrder, .int i_h_bestMany, .int i_h_spot, .int i_h_begin, .int i_h_isForm, .int i_h_letter, .ref h_tells, .int i_h_faultReason, .int i_h_faultCause])), (h_s, .inl (cI, 703, .inl f_h_s))]) dX6_margin_2 pkX6_isRow gX6_margin_X6_isRow (kkX6_isRow l D cI cR h h_s h_aside h_before h_past h_text h_lost h_tells i_h_known i_h_length i_h_losts i_h_bestOrder i_h_bestMany i_h_spot i_h_begin i_h_isForm i_h_letter i_h_faultReason i_h_faultCause f_h_s x0 v1 h2) ⟨rfl, rfl⟩ ⟨Nat.le_of_ble_eq_true rfl, Nat.le_of_ble_eq_true rfl⟩ rfl rfl (Nat.le_of_ble_eq_true rfl) 0 rfl rfl [0, 1] [] rfl rfl ⟨rfl, rfl, by decide⟩ ⟨Nat.zero_le _, Nat.zero_le _⟩ [0, 1] rfl rfl ?_
  refine G_if_eq X (tgt := 21) dX6_margin_5 (by decide) (fun h4 => ?_) (fun h4 => ?_)
  · have h5 := ifp h4 h3
    refine G_ldc X dX6_margin_21 flX6_margin_114 ?_
    cases h5
    exact rt _ _ _ _ dX6_margin_23 ⟨rfl, rfl⟩
  · have h6 := ifn h4 h3
    refine G_iload_n X dX6_margin_8 2 rfl ?_
    refine G_if_lt X (tgt := 21) dX6_margin_9 (by decide) (fun h7 => ?_) (fun h7 => ?_)
    · have h8 := ifp h7 h6
      refine G_ldc X dX6_margin_21 flX6_margin_114 ?_
      cases h8
      exact rt _ _ _ _ dX6_margin_23 ⟨rfl, rfl⟩
    · have h9 := ifn h7 h6
      refine G_iload_n X dX6_margin_12 3 rfl ?_
      refine G_iconst X (v := 0) dX6_margin_13 (by decide) ?_
      refine G_iconst X (v := 4) dX6_margin_14 (by decide) ?_
      obtain ⟨v10, h11, h12⟩ := bnd h9
      refine G1_callsi X (As := [.int x2, .int 0, .int 4]) (rest := []) (wr := [(h, .inr (6, [.ref h_s, .ref h_aside, .ref h_before, .ref h_past, .int i_h_known, .ref h_text, .int i_h_length, .ref h_lost, .int i_h_losts, .int i_h_bestOrder, .int i_h_bestMany, .int i_h_spot, .int i_h_begin, .int i_h_isForm, .int i_h_letter, .ref h_tells, .int i_h_faultReason, .int i_h_faultCause])), (h_s, .inl (cI, 703, .inl f_h_s))]) (ws' := [(h, .inr (6, [.ref h_s, .ref h_aside, .ref h_before, .ref h_past, .int i_h_known, .ref h_text, .int i_h_length, .ref h_lost, .int i_h_losts, .int i_h_bestOrder, .int i_h_bestMany, .int i_h_spot, .int i_h_begin, .int i_h_isForm, .int i_h_letter, .ref h_tells, .int i_h_faultReason, .int i_h_faultCause])), (h_s, .inl (cI, 703, .inl f_h_s))]) dX6_margin_15 pkX6_in gX6_margin_X6_in (kkX6_in l D cI cR x2 0 4 v10 h11) ⟨rfl, rfl⟩ ⟨Nat.le_of_ble_eq_true rfl, Nat.le_of_ble_eq_true rfl⟩ rfl rfl (Nat.le_of_ble_eq_true rfl) [] [0, 1] rfl rfl ⟨rfl, rfl, by decide⟩ ⟨Nat.zero_le _, Nat.zero_le _⟩ [0, 1] rfl rfl ?_
      refine G_if_ne X (tgt := 24) dX6_margin_18 (by decide) (fun h13 => ?_) (fun h13 => ?_)
      · have h14 := ifp h13 h12
        refine G_ldc X dX6_margin_21 flX6_margin_114 ?_
        cases h14
        exact rt _ _ _ _ dX6_margin_23 ⟨rfl, rfl⟩
      · have h15 := ifn h13 h12
        refine G_iload_n X dX6_margin_24 2 rfl ?_
        refine G_aload_n X dX6_margin_25 0 rfl ?_
        refine G_iload_n X dX6_margin_26 1 rfl ?_
        refine G_iconst X (v := 4) dX6_margin_27 (by decide) ?_
        obtain ⟨v16, h17, h18⟩ := bnd h15
        refine G1_calli X (As := [.int x0, .int 4]) (rest := [.int x1]) (wr := []) (ws' := [(h, .inr (6, [.ref h_s, .ref h_aside, .ref h_before, .ref h_past, .int i_h_known, .ref h_text, .int i_h_length, .ref h_lost, .int i_h_losts, .int i_h_bestOrder, .int i_h_bestMany, .int i_h_spot, .int i_h_begin, .int i_h_isForm, .int i_h_letter, .ref h_tells, .int i_h_faultReason, .int i_h_faultCause])), (h_s, .inl (cI, 703, .inl f_h_s))]) dX6_margin_28 pkX6_of gX6_margin_X6_of (kkX6_of l D cI cR h h_s h_aside h_before h_past h_text h_lost h_tells i_h_known i_h_length i_h_losts i_h_bestOrder i_h_bestMany i_h_spot i_h_begin i_h_isForm i_h_letter i_h_faultReason i_h_faultCause f_h_s x0 4 v16 h17) ⟨rfl, rfl⟩ ⟨Nat.le_of_ble_eq_true rfl, Nat.le_of_ble_eq_true rfl⟩ rfl rfl (Nat.le_of_ble_eq_true rfl) 0 rfl rfl [0, 1] [] rfl rfl ⟨rfl, rfl, by decide⟩ ⟨Nat.zero_le _, Nat.zero_le _⟩ [0, 1] rfl rfl ?_
        refine G_icmp_lt X (tgt := 37) dX6_margin_31 (by decide) (fun h19 => ?_) (fun h19 => ?_)
        · have h20 := ifp h19 h18
          refine G_aload_n X dX6_margin_37 0 rfl ?_
          refine G_iload_n X dX6_margin_38 1 rfl ?_
          refine G_iload_n X dX6_margin_39 2 rfl ?_
          refine G_iconst X (v := 0) dX6_margin_40 (by decide) ?_
          obtain ⟨v21, h22, h23⟩ := bnd h20
          refine G1_calli X (As := [.int x0, .int x1, .int 0]) (rest := []) (wr := []) (ws' := [(h, .inr (6, [.ref h_s, .ref h_aside, .ref h_before, .ref h_past, .int i_h_known, .ref h_text, .int i_h_length, .ref h_lost, .int i_h_losts, .int i_h_bestOrder, .int i_h_bestMany, .int i_h_spot, .int i_h_begin, .int i_h_isForm, .int i_h_letter, .ref h_tells, .int i_h_faultReason, .int i_h_faultCause])), (h_s, .inl (cI, 703, .inl f_h_s))]) dX6_margin_41 pkX6_echo gX6_margin_X6_echo (kkX6_echo l D cI cR h h_s h_aside h_before h_past h_text h_lost h_tells i_h_known i_h_length i_h_losts i_h_bestOrder i_h_bestMany i_h_spot i_h_begin i_h_isForm i_h_letter i_h_faultReason i_h_faultCause f_h_s x0 x1 0 v21 h22) ⟨rfl, rfl⟩ ⟨Nat.le_of_ble_eq_true rfl, Nat.le_of_ble_eq_true rfl⟩ rfl rfl (Nat.le_of_ble_eq_true rfl) 0 rfl rfl [0, 1] [] rfl rfl ⟨rfl, rfl, by decide⟩ ⟨Nat.zero_le _, Nat.zero_le _⟩ [0, 1] rfl rfl ?_
          refine G_istore X (lv' := [(4, .int v21), (0, .ref h), (1, .int x0), (2, .int x1), (3, .int x2)]) dX6_margin_44 (by decide) rfl ?_
          refine G_iload_n X dX6_margin_46 4 rfl ?_
          refine G_if_ne X (tgt := 58) dX6_margin_47 (by decide) (fun h24 => ?_) (fun h24 => ?_)
          · have h25 := ifp h24 h23
            refine G_iload X dX6_margin_50 0 rfl ?_
            refine G_bipush X (v := 8) dX6_margin_52 (by decide) ?_
            refine G_idiv X dX6_margin_54 (by decide) ?_
            refine G_goto X (tgt := 114) dX6_margin_55 (by decide) ?_
            cases h25
            exact rt _ _ _ _ dX6_margin_114 ⟨rfl, rfl⟩
          · have h26 := ifn h24 h23
            refine G_iload_n X dX6_margin_58 4 rfl ?_
            refine G_iconst X (v := 1) dX6_margin_59 (by decide) ?_
            refine G_icmp_ne X (tgt := 71) dX6_margin_60 (by decide) (fun h27 => ?_) (fun h27 => ?_)
            · have h28 := ifp h27 h26
              refine G_iload X dX6_margin_63 0 rfl ?_
              refine G_bipush X (v := 8) dX6_margin_65 (by decide) ?_
              refine G_irem X dX6_margin_67 (by decide) ?_
              refine G_goto X (tgt := 114) dX6_margin_68 (by decide) ?_
              cases h28
              exact rt _ _ _ _ dX6_margin_114 ⟨rfl, rfl⟩
            · have h29 := ifn h27 h26
              refine G_iload_n X dX6_margin_71 4 rfl ?_
              refine G_iconst X (v := 2) dX6_margin_72 (by decide) ?_
              refine G_icmp_ne X (tgt := 86) dX6_margin_73 (by decide) (fun h30 => ?_) (fun h30 => ?_)
              · have h31 := ifp h30 h29
                refine G_aload_n X dX6_margin_76 1 rfl ?_
                refine G_iload_n X dX6_margin_77 2 rfl ?_
                refine G_iload_n X dX6_margin_78 3 rfl ?_
                refine G_iconst X (v := 1) dX6_margin_79 (by decide) ?_
                obtain ⟨v32, h33, h34⟩ := bnd h31
                refine G1_calli X (As := [.int x0, .int x1, .int 1]) (rest := []) (wr := []) (ws' := [(h, .inr (6, [.ref h_s, .ref h_aside, .ref h_before, .ref h_past, .int i_h_known, .ref h_text, .int i_h_length, .ref h_lost, .int i_h_losts, .int i_h_bestOrder, .int i_h_bestMany, .int i_h_spot, .int i_h_begin, .int i_h_isForm, .int i_h_letter, .ref h_tells, .int i_h_faultReason, .int i_h_faultCause])), (h_s, .inl (cI, 703, .inl f_h_s))]) dX6_margin_80 pkX6_echo gX6_margin_X6_echo (kkX6_echo l D cI cR h h_s h_aside h_before h_past h_text h_lost h_tells i_h_known i_h_length i_h_losts i_h_bestOrder i_h_bestMany i_h_spot i_h_begin i_h_isForm i_h_letter i_h_faultReason i_h_faultCause f_h_s x0 x1 1 v32 h33) ⟨rfl, rfl⟩ ⟨Nat.le_of_ble_eq_true rfl, Nat.le_of_ble_eq_true rfl⟩ rfl rfl (Nat.le_of_ble_eq_true rfl) 0 rfl rfl [0, 1] [] rfl rfl ⟨rfl, rfl, by decide⟩ ⟨Nat.zero_le _, Nat.zero_le _⟩ [0, 1] rfl rfl ?_
                refine G_goto X (tgt := 114) dX6_margin_83 (by decide) ?_
                cases h34
                exact rt _ _ _ _ dX6_margin_114 ⟨rfl, rfl⟩
              · have h35 := ifn h30 h29
                refine G_iload_n X dX6_margin_86 4 rfl ?_
                refine G_iconst X (v := 3) dX6_margin_87 (by decide) ?_
                refine G_icmp_ne X (tgt := 100) dX6_margin_88 (by decide) (fun h36 => ?_) (fun h36 => ?_)
                · have h37 := ifp h36 h35
                  refine G_aload_n X dX6_margin_91 1 rfl ?_
                  refine G_iload_n X dX6_margin_92 2 rfl ?_
                  refine G_iload_n X dX6_margin_93 3 rfl ?_
                  obtain ⟨v38, h39, h40⟩ := bnd h37
                  refine G1_calli X (As := [.int x0, .int x1]) (rest := []) (wr := []) (ws' := [(h, .inr (6, [.ref h_s, .ref h_aside, .ref h_before, .ref h_past, .int i_h_known, .ref h_text, .int i_h_length, .ref h_lost, .int i_h_losts, .int i_h_bestOrder, .int i_h_bestMany, .int i_h_spot, .int i_h_begin, .int i_h_isForm, .int i_h_letter, .ref h_tells, .int i_h_faultReason, .int i_h_faultCause])), (h_s, .inl (cI, 703, .inl f_h_s))]) dX6_margin_94 pkX6_age gX6_margin_X6_age (kkX6_age l D cI cR h h_s h_aside h_before h_past h_text h_lost h_tells i_h_known i_h_length i_h_losts i_h_bestOrder i_h_bestMany i_h_spot i_h_begin i_h_isForm i_h_letter i_h_faultReason i_h_faultCause f_h_s x0 x1 v38 h39) ⟨rfl, rfl⟩ ⟨Nat.le_of_ble_eq_true rfl, Nat.le_of_ble_eq_true rfl⟩ rfl rfl (Nat.le_of_ble_eq_true rfl) 0 rfl rfl [0, 1] [] rfl rfl ⟨rfl, rfl, by decide⟩ ⟨Nat.zero_le _, Nat.zero_le _⟩ [0, 1] rfl rfl ?_
                  refine G_goto X (tgt := 114) dX6_margin_97 (by decide) ?_
                  cases h40
                  exact rt _ _ _ _ dX6_margin_114 ⟨rfl, rfl⟩
                · have h41 := ifn h36 h35
                  refine G_aload_n X dX6_margin_100 1 rfl ?_
                  refine G_iload_n X dX6_margin_101 2 rfl ?_
                  refine G_iload_n X dX6_margin_102 3 rfl ?_
                  obtain ⟨v42, h43, h44⟩ := bnd h41
                  refine G1_calli X (As := [.int x0, .int x1]) (rest := []) (wr := []) (ws' := [(h, .inr (6, [.ref h_s, .ref h_aside, .ref h_before, .ref h_past, .int i_h_known, .ref h_text, .int i_h_length, .ref h_lost, .int i_h_losts, .int i_h_bestOrder, .int i_h_bestMany, .int i_h_spot, .int i_h_begin, .int i_h_isForm, .int i_h_letter, .ref h_tells, .int i_h_faultReason, .int i_h_faultCause])), (h_s, .inl (cI, 703, .inl f_h_s))]) dX6_margin_103 pkX6_isFaded gX6_margin_X6_isFaded (kkX6_isFaded l D cI cR h h_s h_aside h_before h_past h_text h_lost h_tells i_h_known i_h_length i_h_losts i_h_bestOrder i_h_bestMany i_h_spot i_h_begin i_h_isForm i_h_letter i_h_faultReason i_h_faultCause f_h_s x0 x1 v42 h43) ⟨rfl, rfl⟩ ⟨Nat.le_of_ble_eq_true rfl, Nat.le_of_ble_eq_true rfl⟩ rfl rfl (Nat.le_of_ble_eq_true rfl) 0 rfl rfl [0, 1] [] rfl rfl ⟨rfl, rfl, by decide⟩ ⟨Nat.zero_le _, Nat.zero_le _⟩ [0, 1] rfl rfl ?_
                  refine G_if_eq X (tgt := 113) dX6_margin_106 (by decide) (fun h45 => ?_) (fun h45 => ?_)
                  · have h46 := ifp h45 h44
                    refine G_iconst X (v := 0) dX6_margin_113 (by decide) ?_
                    cases h46
                    exact rt _ _ _ _ dX6_margin_114 ⟨rfl, rfl⟩
                  · have h47 := ifn h45 h44
                    refine G_iconst X (v := 1) dX6_margin_109 (by decide) ?_
                    refine G_goto X (tgt := 114) dX6_margin_110 (by decide) ?_
                    cases h47
                    exact rt _ _ _ _ dX6_margin_114 ⟨rfl, rfl⟩
        · have h48 := ifn h19 h18
          refine G_ldc X dX6_margin_34 flX6_margin_51 ?_
          cases h48
          exact rt _ _ _ _ dX6_margin_36 ⟨rfl, rfl⟩
def rmX6_unknown : Room := { frames := 1, cells := 0, slots := 0, locals := 22 }
theorem pkX6_unknown : cK yX6_unknown wsX6_unknown cX6_unknown 4 (some .int) 1 RX6 := ⟨⟨_, rfl⟩, by decide +kernel⟩
set_option maxHeartbeats 4000000 in
set_option maxRecDepth 100000 in
theorem kkX6_unknown (l : Launch) (D : va_G) (cI cR : ClassId) (h h_s h_aside h_before h_past h_text h_lost h_tells : Nat) (i_h_known : Int32) (i_h_length : Int32) (i_h_losts : Int32) (i_h_bestOrder : Int32) (i_h_bestMany : Int32) (i_h_spot : Int32) (i_h_begin : Int32) (i_h_isForm : Int32) (i_h_letter : Int32) (i_h_faultReason : Int32) (i_h_faultCause : Int32) (f_h_s : Nat → Int32) (x0 : Int32) (z : Int32) (hz : MX6_unknown f_h_s x0 = some z) : cI1 l yX6_unknown wsX6_unknown rmX6_unknown D cI cR [.ref h, .int x0] [(h, .inr (6, [.ref h_s, .ref h_aside, .ref h_before, .ref h_past, .int i_h_known, .ref h_text, .int i_h_length, .ref h_lost, .int i_h_losts, .int i_h_bestOrder, .int i_h_bestMany, .int i_h_spot, .int i_h_begin, .int i_h_isForm, .int i_h_letter, .ref h_tells, .int i_h_faultReason, .int i_h_faultCause])), (h_s, .inl (cI, 703, .inl f_h_s))] z [(h, .inr (6, [.ref h_s, .ref h_aside, .ref h_before, .ref h_past, .int i_h_known, .ref h_text, .int i_h_length, .ref h_lost, .int i_h_losts, .int i_h_bestOrder, .int i_h_bestMany, .int i_h_spot, .int i_h_begin, .int i_h_isForm, .int i_h_letter, .ref h_tells, .int i_h_faultReason, .int i_h_faultCause])), (h_s, .inl (cI, 703, .inl f_h_s))] := by
  unfold MX6_unknown at hz
  refine kI_of (cc := cX6_unknown) (maxL := 4) (own := RX6) (by decide +kernel) rfl rfl (Nat.le_of_ble_eq_true rfl) (lv0 := [(0, .ref h), (1, .int x0)]) rfl (fun p e s m args below meth c A Q X rt => ?_)
  refine G_iconst X (v := 0) dX6_unknown_0 (by decide) ?_
  refine G_istore_n X (lv' := [(2, .int 0), (0, .ref h), (1, .int x0)]) dX6_unknown_1 (by decide) rfl ?_
  refine G_iconst X (v := 0) dX6_unknown_2 (by decide) ?_
  refine G_istore_n X (lv' := [(3, .int 0), (2, .int 0), (0, .ref h), (1, .int x0)]) dX6_unknown_3 (by decide) rfl ?_
  obtain ⟨j2, h3, h4⟩ := bnd hz
  have J9 : G p l e rmX6_unknown s m args below meth c D A 4 Q 0 0 35 [(2, .int j2)] [] [(h, .inr (6, [.ref h_s, .ref h_aside, .ref h_before, .ref h_past, .int i_h_known, .ref h_text, .int i_h_length, .ref h_lost, .int i_h_losts, .int i_h_bestOrder, .int i_h_bestMany, .int i_h_spot, .int i_h_begin, .int i_h_isForm, .int i_h_letter, .ref h_tells, .int i_h_faultReason, .int i_h_faultCause])), (h_s, .inl (cI, 703, .inl f_h_s))] := by
    refine G_iload_n X dX6_unknown_35 0 rfl ?_
    cases h4
    exact rt _ _ _ _ dX6_unknown_36 ⟨rfl, rfl⟩
  refine G_lv [2, 3, 1, 0] rfl ?_
  refine itr_ind (P := fun s1 : (Int32 × Int32) => G p l e rmX6_unknown s m args below meth c D A 4 Q 0 0 4 [(0, .ref h), (1, .int x0), (2, .int s1.1), (3, .int s1.2)] [] [(h, .inr (6, [.ref h_s, .ref h_aside, .ref h_before, .ref h_past, .int i_h_known, .ref h_text, .int i_h_length, .ref h_lost, .int i_h_losts, .int i_h_bestOrder, .int i_h_bestMany, .int i_h_spot, .int i_h_begin, .int i_h_isForm, .int i_h_letter, .ref h_tells, .int i_h_faultReason, .int i_h_faultCause])), (h_s, .inl (cI, 703, .inl f_h_s))]) (fun s1 o8 h5 h6 h7 => ?_) FU _ h3
  unfold SX6_unknown_4 at h5
  refine G_iload_n X dX6_unknown_4 3 rfl ?_
  refine G_bipush X (v := 8) dX6_unknown_5 (by decide) ?_
  refine G_icmp_ge X (tgt := 35) dX6_unknown_7 (by decide) (fun h11 => ?_) (fun h11 => ?_)
  · have h12 := ifp h11 h5
    cases h12
    have h13 := h7 _ rfl
    subst h13
    exact G_lv [2] rfl (J9)
  · have h14 := ifn h11 h5
    refine G_iload_n X dX6_unknown_10 2 rfl ?_
    refine G_aload_n X dX6_unknown_11 0 rfl ?_
    refine G_iload_n X dX6_unknown_12 1 rfl ?_
    refine G_iconst X (v := 5) dX6_unknown_13 (by decide) ?_
    refine G_iload_n X dX6_unknown_14 3 rfl ?_
    refine G_iadd X dX6_unknown_15 ?_
    obtain ⟨v15, h16, h17⟩ := bnd h14
    refine G1_calli X (As := [.int x0, .int (5 + s1.2)]) (rest := [.int s1.1]) (wr := []) (ws' := [(h, .inr (6, [.ref h_s, .ref h_aside, .ref h_before, .ref h_past, .int i_h_known, .ref h_text, .int i_h_length, .ref h_lost, .int i_h_losts, .int i_h_bestOrder, .int i_h_bestMany, .int i_h_spot, .int i_h_begin, .int i_h_isForm, .int i_h_letter, .ref h_tells, .int i_h_faultReason, .int i_h_faultCause])), (h_s, .inl (cI, 703, .inl f_h_s))]) dX6_unknown_16 pkX6_of gX6_unknown_X6_of (kkX6_of l D cI cR h h_s h_aside h_before h_past h_text h_lost h_tells i_h_known i_h_length i_h_losts i_h_bestOrder i_h_bestMany i_h_spot i_h_begin i_h_isForm i_h_letter i_h_faultReason i_h_faultCause f_h_s x0 (5 + s1.2) v15 h16) ⟨rfl, rfl⟩ ⟨Nat.le_of_ble_eq_true rfl, Nat.le_of_ble_eq_true rfl⟩ rfl rfl (Nat.le_of_ble_eq_true rfl) 0 rfl rfl [0, 1] [] rfl rfl ⟨rfl, rfl, by decide⟩ ⟨Nat.zero_le _, Nat.zero_le _⟩ [0, 1] rfl rfl ?_
    refine G_if_ne X (tgt := 26) dX6_unknown_19 (by decide) (fun h18 => ?_) (fun h18 => ?_)
    · have h19 := ifp h18 h17
      refine G_iconst X (v := 1) dX6_unknown_22 (by decide) ?_
      refine G_goto X (tgt := 27) dX6_unknown_23 (by decide) ?_
      refine G_iadd X dX6_unknown_27 ?_
      refine G_istore_n X (lv' := [(2, .int (s1.1 + 1)), (0, .ref h), (1, .int x0), (3, .int s1.2)]) dX6_unknown_28 (by decide) rfl ?_
      refine G_iinc X (v := (s1.2 + 1)) (lv' := [(3, .int (s1.2 + 1)), (2, .int (s1.1 + 1)), (0, .ref h), (1, .int x0)]) dX6_unknown_29 3 rfl rfl (by decide) rfl ?_
      refine G_goto X (tgt := 4) dX6_unknown_32 (by decide) ?_
      cases h19
      exact G_lv [2, 3, 1, 0] rfl (h6 _ rfl)
    · have h20 := ifn h18 h17
      refine G_iconst X (v := 0) dX6_unknown_26 (by decide) ?_
      refine G_iadd X dX6_unknown_27 ?_
      refine G_istore_n X (lv' := [(2, .int (s1.1 + 0)), (0, .ref h), (1, .int x0), (3, .int s1.2)]) dX6_unknown_28 (by decide) rfl ?_
      refine G_iinc X (v := (s1.2 + 1)) (lv' := [(3, .int (s1.2 + 1)), (2, .int (s1.1 + 0)), (0, .ref h), (1, .int x0)]) dX6_unknown_29 3 rfl rfl (by decide) rfl ?_
      refine G_goto X (tgt := 4) dX6_unknown_32 (by decide) ?_
      cases h20
      exact G_lv [2, 3, 1, 0] rfl (h6 _ rfl)
def rmX6_wrongCells : Room := { frames := 1, cells := 0, slots := 0, locals := 22 }
theorem pkX6_wrongCells : cK yX6_wrongCells wsX6_wrongCells cX6_wrongCells 4 (some .int) 1 RX6 := ⟨⟨_, rfl⟩, by decide +kernel⟩
set_option maxHeartbeats 4000000 in
set_option maxRecDepth 100000 in
theorem kkX6_wrongCells (l : Launch) (D : va_G) (cI cR : ClassId) (h h_s h_aside h_before h_past h_text h_lost h_tells : Nat) (i_h_known : Int32) (i_h_length : Int32) (i_h_losts : Int32) (i_h_bestOrder : Int32) (i_h_bestMany : Int32) (i_h_spot : Int32) (i_h_begin : Int32) (i_h_isForm : Int32) (i_h_letter : Int32) (i_h_faultReason : Int32) (i_h_faultCause : Int32) (f_h_s : Nat → Int32) (x0 : Int32) (z : Int32) (hz : MX6_wrongCells f_h_s x0 = some z) : cI1 l yX6_wrongCells wsX6_wrongCells rmX6_wrongCells D cI cR [.ref h, .int x0] [(h, .inr (6, [.ref h_s, .ref h_aside, .ref h_before, .ref h_past, .int i_h_known, .ref h_text, .int i_h_length, .ref h_lost, .int i_h_losts, .int i_h_bestOrder, .int i_h_bestMany, .int i_h_spot, .int i_h_begin, .int i_h_isForm, .int i_h_letter, .ref h_tells, .int i_h_faultReason, .int i_h_faultCause])), (h_s, .inl (cI, 703, .inl f_h_s))] z [(h, .inr (6, [.ref h_s, .ref h_aside, .ref h_before, .ref h_past, .int i_h_known, .ref h_text, .int i_h_length, .ref h_lost, .int i_h_losts, .int i_h_bestOrder, .int i_h_bestMany, .int i_h_spot, .int i_h_begin, .int i_h_isForm, .int i_h_letter, .ref h_tells, .int i_h_faultReason, .int i_h_faultCause])), (h_s, .inl (cI, 703, .inl f_h_s))] := by
  unfold MX6_wrongCells at hz
  refine kI_of (cc := cX6_wrongCells) (maxL := 4) (own := RX6) (by decide +kernel) rfl rfl (Nat.le_of_ble_eq_true rfl) (lv0 := [(0, .ref h), (1, .int x0)]) rfl (fun p e s m args below meth c A Q X rt => ?_)
  refine G_iconst X (v := 0) dX6_wrongCells_0 (by decide) ?_
  refine G_istore_n X (lv' := [(2, .int 0), (0, .ref h), (1, .int x0)]) dX6_wrongCells_1 (by decide) rfl ?_
  refine G_iconst X (v := 0) dX6_wrongCells_2 (by decide) ?_
  refine G_istore_n X (lv' := [(3, .int 0), (2, .int 0), (0, .ref h), (1, .int x0)]) dX6_wrongCells_3 (by decide) rfl ?_
  obtain ⟨j2, h3, h4⟩ := bnd hz
  have J9 : G p l e rmX6_wrongCells s m args below meth c D A 4 Q 0 0 28 [(2, .int j2)] [] [(h, .inr (6, [.ref h_s, .ref h_aside, .ref h_before, .ref h_past, .int i_h_known, .ref h_text, .int i_h_length, .ref h_lost, .int i_h_losts, .int i_h_bestOrder, .int i_h_bestMany, .int i_h_spot, .int i_h_begin, .int i_h_isForm, .int i_h_letter, .ref h_tells, .int i_h_faultReason, .int i_h_faultCause])), (h_s, .inl (cI, 703, .inl f_h_s))] := by
    refine G_iload_n X dX6_wrongCells_28 0 rfl ?_
    cases h4
    exact rt _ _ _ _ dX6_wrongCells_29 ⟨rfl, rfl⟩
  refine G_lv [2, 3, 1, 0] rfl ?_
  refine itr_ind (P := fun s1 : (Int32 × Int32) => G p l e rmX6_wrongCells s m args below meth c D A 4 Q 0 0 4 [(0, .ref h), (1, .int x0), (2, .int s1.1), (3, .int s1.2)] [] [(h, .inr (6, [.ref h_s, .ref h_aside, .ref h_before, .ref h_past, .int i_h_known, .ref h_text, .int i_h_length, .ref h_lost, .int i_h_losts, .int i_h_bestOrder, .int i_h_bestMany, .int i_h_spot, .int i_h_begin, .int i_h_isForm, .int i_h_letter, .ref h_tells, .int i_h_faultReason, .int i_h_faultCause])), (h_s, .inl (cI, 703, .inl f_h_s))]) (fun s1 o8 h5 h6 h7 => ?_) FU _ h3
  unfold SX6_wrongCells_4 at h5
  refine G_iload_n X dX6_wrongCells_4 3 rfl ?_
  refine G_bipush X (v := 8) dX6_wrongCells_5 (by decide) ?_
  refine G_icmp_ge X (tgt := 28) dX6_wrongCells_7 (by decide) (fun h11 => ?_) (fun h11 => ?_)
  · have h12 := ifp h11 h5
    cases h12
    have h13 := h7 _ rfl
    subst h13
    exact G_lv [2] rfl (J9)
  · have h14 := ifn h11 h5
    refine G_iload_n X dX6_wrongCells_10 2 rfl ?_
    refine G_aload_n X dX6_wrongCells_11 0 rfl ?_
    refine G_iload_n X dX6_wrongCells_12 1 rfl ?_
    refine G_bipush X (v := 21) dX6_wrongCells_13 (by decide) ?_
    refine G_iload_n X dX6_wrongCells_15 3 rfl ?_
    refine G_iadd X dX6_wrongCells_16 ?_
    obtain ⟨v15, h16, h17⟩ := bnd h14
    refine G1_calli X (As := [.int x0, .int (21 + s1.2)]) (rest := [.int s1.1]) (wr := []) (ws' := [(h, .inr (6, [.ref h_s, .ref h_aside, .ref h_before, .ref h_past, .int i_h_known, .ref h_text, .int i_h_length, .ref h_lost, .int i_h_losts, .int i_h_bestOrder, .int i_h_bestMany, .int i_h_spot, .int i_h_begin, .int i_h_isForm, .int i_h_letter, .ref h_tells, .int i_h_faultReason, .int i_h_faultCause])), (h_s, .inl (cI, 703, .inl f_h_s))]) dX6_wrongCells_17 pkX6_of gX6_wrongCells_X6_of (kkX6_of l D cI cR h h_s h_aside h_before h_past h_text h_lost h_tells i_h_known i_h_length i_h_losts i_h_bestOrder i_h_bestMany i_h_spot i_h_begin i_h_isForm i_h_letter i_h_faultReason i_h_faultCause f_h_s x0 (21 + s1.2) v15 h16) ⟨rfl, rfl⟩ ⟨Nat.le_of_ble_eq_true rfl, Nat.le_of_ble_eq_true rfl⟩ rfl rfl (Nat.le_of_ble_eq_true rfl) 0 rfl rfl [0, 1] [] rfl rfl ⟨rfl, rfl, by decide⟩ ⟨Nat.zero_le _, Nat.zero_le _⟩ [0, 1] rfl rfl ?_
    refine G_iadd X dX6_wrongCells_20 ?_
    refine G_istore_n X (lv' := [(2, .int (s1.1 + v15)), (0, .ref h), (1, .int x0), (3, .int s1.2)]) dX6_wrongCells_21 (by decide) rfl ?_
    refine G_iinc X (v := (s1.2 + 1)) (lv' := [(3, .int (s1.2 + 1)), (2, .int (s1.1 + v15)), (0, .ref h), (1, .int x0)]) dX6_wrongCells_22 3 rfl rfl (by decide) rfl ?_
    refine G_goto X (tgt := 4) dX6_wrongCells_25 (by decide) ?_
    cases h17
    exact G_lv [2, 3, 1, 0] rfl (h6 _ rfl)
def rmX6_row : Room := { frames := 7, cells := 0, slots := 0, locals := 160 }
theorem pkX6_row : cK yX6_row wsX6_row cX6_row 3 (some .int) 2 RX6 := ⟨⟨_, rfl⟩, by decide +kernel⟩
theorem flX6_row_114 : Cond.constant RX6 114 (-1000001) ∈ wsX6_row := by decide +kernel
set_option maxHeartbeats 4000000 in
set_option maxRecDepth 100000 in
theorem kkX6_row (l : Launch) (D : va_G) (cI cR : ClassId) (h h_s h_aside h_before h_past h_text h_lost h_tells : Nat) (i_h_known : Int32) (i_h_length : Int32) (i_h_losts : Int32) (i_h_bestOrder : Int32) (i_h_bestMany : Int32) (i_h_spot : Int32) (i_h_begin : Int32) (i_h_isForm : Int32) (i_h_letter : Int32) (i_h_faultReason : Int32) (i_h_faultCause : Int32) (f_h_s : Nat → Int32) (x0 : Int32) (x1 : Int32) (z : Int32) (hz : MX6_row f_h_s x0 x1 = some z) : cI1 l yX6_row wsX6_row rmX6_row D cI cR [.ref h, .int x0, .int x1] [(h, .inr (6, [.ref h_s, .ref h_aside, .ref h_before, .ref h_past, .int i_h_known, .ref h_text, .int i_h_length, .ref h_lost, .int i_h_losts, .int i_h_bestOrder, .int i_h_bestMany, .int i_h_spot, .int i_h_begin, .int i_h_isForm, .int i_h_letter, .ref h_tells, .int i_h_faultReason, .int i_h_faultCause])), (h_s, .inl (cI, 703, .inl f_h_s))] z [(h, .inr (6, [.ref h_s, .ref h_aside, .ref h_before, .ref h_past, .int i_h_known, .ref h_text, .int i_h_length, .ref h_lost, .int i_h_losts, .int i_h_bestOrder, .int i_h_bestMany, .int i_h_spot, .int i_h_begin, .int i_h_isForm, .int i_h_letter, .ref h_tells, .int i_h_faultReason, .int i_h_faultCause])), (h_s, .inl (cI, 703, .inl f_h_s))] := by
  unfold MX6_row at hz
  refine kI_of (cc := cX6_row) (maxL := 3) (own := RX6) (by decide +kernel) rfl rfl (Nat.le_of_ble_eq_true rfl) (lv0 := [(0, .ref h), (1, .int x0), (2, .int x1)]) rfl (fun p e s m args below meth c A Q X rt => ?_)
  refine G_aload_n X dX6_row_0 0 rfl ?_
  refine G_iload_n X dX6_row_1 1 rfl ?_
  obtain ⟨v1, h2, h3⟩ := bnd hz
  refine G1_calli X (As := [.int x0]) (rest := []) (wr := []) (ws' := [(h, .inr (6, [.ref h_s, .ref h_aside, .ref h_before, .ref h_past, .int i_h_known, .ref h_text, .int i_h_length, .ref h_lost, .int i_h_losts, .int i_h_bestOrder, .int i_h_bestMany, .int i_h_spot, .int i_h_begin, .int i_h_isForm, .int i_h_letter, .ref h_tells, .int i_h_faultReason, .int i_h_faultCause])), (h_s, .inl (cI, 703, .inl f_h_s))]) dX6_row_2 pkX6_isRow gX6_row_X6_isRow (kkX6_isRow l D cI cR h h_s h_aside h_before h_past h_text h_lost h_tells i_h_known i_h_length i_h_losts i_h_bestOrder i_h_bestMany i_h_spot i_h_begin i_h_isForm i_h_letter i_h_faultReason i_h_faultCause f_h_s x0 v1 h2) ⟨rfl, rfl⟩ ⟨Nat.le_of_ble_eq_true rfl, Nat.le_of_ble_eq_true rfl⟩ rfl rfl (Nat.le_of_ble_eq_true rfl) 0 rfl rfl [0, 1] [] rfl rfl ⟨rfl, rfl, by decide⟩ ⟨Nat.zero_le _, Nat.zero_le _⟩ [0, 1] rfl rfl ?_
  refine G_if_ne X (tgt := 11) dX6_row_5 (by decide) (fun h4 => ?_) (fun h4 => ?_)
  · have h5 := ifp h4 h3
    refine G_ldc X dX6_row_8 flX6_row_114 ?_
    cases h5
    exact rt _ _ _ _ dX6_row_10 ⟨rfl, rfl⟩
  · have h6 := ifn h4 h3
    refine G_iload_n X dX6_row_11 2 rfl ?_
    by_cases h7 : x1 = 0
    · have h8 := ifp h7 h6
      refine G_tableIn X (off := 56) (tgt := 68) dX6_row_12 (by rw [h7]; decide) (by rw [h7]; decide) (by rw [h7]; rfl) (by decide) ?_
      refine G_aload_n X dX6_row_68 0 rfl ?_
      refine G_iload_n X dX6_row_69 1 rfl ?_
      refine G_iconst X (v := 0) dX6_row_70 (by decide) ?_
      obtain ⟨v10, h11, h12⟩ := bnd h8
      refine G1_calli X (As := [.int x0, .int 0]) (rest := []) (wr := []) (ws' := [(h, .inr (6, [.ref h_s, .ref h_aside, .ref h_before, .ref h_past, .int i_h_known, .ref h_text, .int i_h_length, .ref h_lost, .int i_h_losts, .int i_h_bestOrder, .int i_h_bestMany, .int i_h_spot, .int i_h_begin, .int i_h_isForm, .int i_h_letter, .ref h_tells, .int i_h_faultReason, .int i_h_faultCause])), (h_s, .inl (cI, 703, .inl f_h_s))]) dX6_row_71 pkX6_of gX6_row_X6_of (kkX6_of l D cI cR h h_s h_aside h_before h_past h_text h_lost h_tells i_h_known i_h_length i_h_losts i_h_bestOrder i_h_bestMany i_h_spot i_h_begin i_h_isForm i_h_letter i_h_faultReason i_h_faultCause f_h_s x0 0 v10 h11) ⟨rfl, rfl⟩ ⟨Nat.le_of_ble_eq_true rfl, Nat.le_of_ble_eq_true rfl⟩ rfl rfl (Nat.le_of_ble_eq_true rfl) 0 rfl rfl [0, 1] [] rfl rfl ⟨rfl, rfl, by decide⟩ ⟨Nat.zero_le _, Nat.zero_le _⟩ [0, 1] rfl rfl ?_
      cases h12
      exact rt _ _ _ _ dX6_row_74 ⟨rfl, rfl⟩
    · have h9 := ifn h7 h6
      by_cases h13 : x1 = 1
      · have h14 := ifp h13 h9
        refine G_tableIn X (off := 63) (tgt := 75) dX6_row_12 (by rw [h13]; decide) (by rw [h13]; decide) (by rw [h13]; rfl) (by decide) ?_
        refine G_aload_n X dX6_row_75 0 rfl ?_
        refine G_iload_n X dX6_row_76 1 rfl ?_
        refine G_iconst X (v := 1) dX6_row_77 (by decide) ?_
        obtain ⟨v16, h17, h18⟩ := bnd h14
        refine G1_calli X (As := [.int x0, .int 1]) (rest := []) (wr := []) (ws' := [(h, .inr (6, [.ref h_s, .ref h_aside, .ref h_before, .ref h_past, .int i_h_known, .ref h_text, .int i_h_length, .ref h_lost, .int i_h_losts, .int i_h_bestOrder, .int i_h_bestMany, .int i_h_spot, .int i_h_begin, .int i_h_isForm, .int i_h_letter, .ref h_tells, .int i_h_faultReason, .int i_h_faultCause])), (h_s, .inl (cI, 703, .inl f_h_s))]) dX6_row_78 pkX6_of gX6_row_X6_of (kkX6_of l D cI cR h h_s h_aside h_before h_past h_text h_lost h_tells i_h_known i_h_length i_h_losts i_h_bestOrder i_h_bestMany i_h_spot i_h_begin i_h_isForm i_h_letter i_h_faultReason i_h_faultCause f_h_s x0 1 v16 h17) ⟨rfl, rfl⟩ ⟨Nat.le_of_ble_eq_true rfl, Nat.le_of_ble_eq_true rfl⟩ rfl rfl (Nat.le_of_ble_eq_true rfl) 0 rfl rfl [0, 1] [] rfl rfl ⟨rfl, rfl, by decide⟩ ⟨Nat.zero_le _, Nat.zero_le _⟩ [0, 1] rfl rfl ?_
        cases h18
        exact rt _ _ _ _ dX6_row_81 ⟨rfl, rfl⟩
      · have h15 := ifn h13 h9
        by_cases h19 : x1 = 2
        · have h20 := ifp h19 h15
          refine G_tableIn X (off := 70) (tgt := 82) dX6_row_12 (by rw [h19]; decide) (by rw [h19]; decide) (by rw [h19]; rfl) (by decide) ?_
          refine G_aload_n X dX6_row_82 0 rfl ?_
          refine G_iload_n X dX6_row_83 1 rfl ?_
          obtain ⟨v22, h23, h24⟩ := bnd h20
          refine G1_calli X (As := [.int x0]) (rest := []) (wr := []) (ws' := [(h, .inr (6, [.ref h_s, .ref h_aside, .ref h_before, .ref h_past, .int i_h_known, .ref h_text, .int i_h_length, .ref h_lost, .int i_h_losts, .int i_h_bestOrder, .int i_h_bestMany, .int i_h_spot, .int i_h_begin, .int i_h_isForm, .int i_h_letter, .ref h_tells, .int i_h_faultReason, .int i_h_faultCause])), (h_s, .inl (cI, 703, .inl f_h_s))]) dX6_row_84 pkX6_upper gX6_row_X6_upper (kkX6_upper l D cI cR h h_s h_aside h_before h_past h_text h_lost h_tells i_h_known i_h_length i_h_losts i_h_bestOrder i_h_bestMany i_h_spot i_h_begin i_h_isForm i_h_letter i_h_faultReason i_h_faultCause f_h_s x0 v22 h23) ⟨rfl, rfl⟩ ⟨Nat.le_of_ble_eq_true rfl, Nat.le_of_ble_eq_true rfl⟩ rfl rfl (Nat.le_of_ble_eq_true rfl) 0 rfl rfl [0, 1] [] rfl rfl ⟨rfl, rfl, by decide⟩ ⟨Nat.zero_le _, Nat.zero_le _⟩ [0, 1] rfl rfl ?_
          cases h24
          exact rt _ _ _ _ dX6_row_87 ⟨rfl, rfl⟩
        · have h21 := ifn h19 h15
          by_cases h25 : x1 = 3
          · have h26 := ifp h25 h21
            refine G_tableIn X (off := 76) (tgt := 88) dX6_row_12 (by rw [h25]; decide) (by rw [h25]; decide) (by rw [h25]; rfl) (by decide) ?_
            refine G_aload_n X dX6_row_88 0 rfl ?_
            refine G_iload_n X dX6_row_89 1 rfl ?_
            obtain ⟨v28, h29, h30⟩ := bnd h26
            refine G1_calli X (As := [.int x0]) (rest := []) (wr := []) (ws' := [(h, .inr (6, [.ref h_s, .ref h_aside, .ref h_before, .ref h_past, .int i_h_known, .ref h_text, .int i_h_length, .ref h_lost, .int i_h_losts, .int i_h_bestOrder, .int i_h_bestMany, .int i_h_spot, .int i_h_begin, .int i_h_isForm, .int i_h_letter, .ref h_tells, .int i_h_faultReason, .int i_h_faultCause])), (h_s, .inl (cI, 703, .inl f_h_s))]) dX6_row_90 pkX6_lower gX6_row_X6_lower (kkX6_lower l D cI cR h h_s h_aside h_before h_past h_text h_lost h_tells i_h_known i_h_length i_h_losts i_h_bestOrder i_h_bestMany i_h_spot i_h_begin i_h_isForm i_h_letter i_h_faultReason i_h_faultCause f_h_s x0 v28 h29) ⟨rfl, rfl⟩ ⟨Nat.le_of_ble_eq_true rfl, Nat.le_of_ble_eq_true rfl⟩ rfl rfl (Nat.le_of_ble_eq_true rfl) 0 rfl rfl [0, 1] [] rfl rfl ⟨rfl, rfl, by decide⟩ ⟨Nat.zero_le _, Nat.zero_le _⟩ [0, 1] rfl rfl ?_
            cases h30
            exact rt _ _ _ _ dX6_row_93 ⟨rfl, rfl⟩
          · have h27 := ifn h25 h21
            by_cases h31 : x1 = 4
            · have h32 := ifp h31 h27
              refine G_tableIn X (off := 82) (tgt := 94) dX6_row_12 (by rw [h31]; decide) (by rw [h31]; decide) (by rw [h31]; rfl) (by decide) ?_
              refine G_aload_n X dX6_row_94 0 rfl ?_
              refine G_iload_n X dX6_row_95 1 rfl ?_
              refine G_iconst X (v := 4) dX6_row_96 (by decide) ?_
              obtain ⟨v34, h35, h36⟩ := bnd h32
              refine G1_calli X (As := [.int x0, .int 4]) (rest := []) (wr := []) (ws' := [(h, .inr (6, [.ref h_s, .ref h_aside, .ref h_before, .ref h_past, .int i_h_known, .ref h_text, .int i_h_length, .ref h_lost, .int i_h_losts, .int i_h_bestOrder, .int i_h_bestMany, .int i_h_spot, .int i_h_begin, .int i_h_isForm, .int i_h_letter, .ref h_tells, .int i_h_faultReason, .int i_h_faultCause])), (h_s, .inl (cI, 703, .inl f_h_s))]) dX6_row_97 pkX6_of gX6_row_X6_of (kkX6_of l D cI cR h h_s h_aside h_before h_past h_text h_lost h_tells i_h_known i_h_length i_h_losts i_h_bestOrder i_h_bestMany i_h_spot i_h_begin i_h_isForm i_h_letter i_h_faultReason i_h_faultCause f_h_s x0 4 v34 h35) ⟨rfl, rfl⟩ ⟨Nat.le_of_ble_eq_true rfl, Nat.le_of_ble_eq_true rfl⟩ rfl rfl (Nat.le_of_ble_eq_true rfl) 0 rfl rfl [0, 1] [] rfl rfl ⟨rfl, rfl, by decide⟩ ⟨Nat.zero_le _, Nat.zero_le _⟩ [0, 1] rfl rfl ?_
              cases h36
              exact rt _ _ _ _ dX6_row_100 ⟨rfl, rfl⟩
            · have h33 := ifn h31 h27
              by_cases h37 : x1 = 5
              · have h38 := ifp h37 h33
                refine G_tableIn X (off := 89) (tgt := 101) dX6_row_12 (by rw [h37]; decide) (by rw [h37]; decide) (by rw [h37]; rfl) (by decide) ?_
                refine G_aload_n X dX6_row_101 0 rfl ?_
                refine G_iload_n X dX6_row_102 1 rfl ?_
                obtain ⟨v40, h41, h42⟩ := bnd h38
                refine G1_calli X (As := [.int x0]) (rest := []) (wr := []) (ws' := [(h, .inr (6, [.ref h_s, .ref h_aside, .ref h_before, .ref h_past, .int i_h_known, .ref h_text, .int i_h_length, .ref h_lost, .int i_h_losts, .int i_h_bestOrder, .int i_h_bestMany, .int i_h_spot, .int i_h_begin, .int i_h_isForm, .int i_h_letter, .ref h_tells, .int i_h_faultReason, .int i_h_faultCause])), (h_s, .inl (cI, 703, .inl f_h_s))]) dX6_row_103 pkX6_unknown gX6_row_X6_unknown (kkX6_unknown l D cI cR h h_s h_aside h_before h_past h_text h_lost h_tells i_h_known i_h_length i_h_losts i_h_bestOrder i_h_bestMany i_h_spot i_h_begin i_h_isForm i_h_letter i_h_faultReason i_h_faultCause f_h_s x0 v40 h41) ⟨rfl, rfl⟩ ⟨Nat.le_of_ble_eq_true rfl, Nat.le_of_ble_eq_true rfl⟩ rfl rfl (Nat.le_of_ble_eq_true rfl) 0 rfl rfl [0, 1] [] rfl rfl ⟨rfl, rfl, by decide⟩ ⟨Nat.zero_le _, Nat.zero_le _⟩ [0, 1] rfl rfl ?_
                cases h42
                exact rt _ _ _ _ dX6_row_106 ⟨rfl, rfl⟩
              · have h39 := ifn h37 h33
                by_cases h43 : x1 = 6
                · have h44 := ifp h43 h39
                  refine G_tableIn X (off := 95) (tgt := 107) dX6_row_12 (by rw [h43]; decide) (by rw [h43]; decide) (by rw [h43]; rfl) (by decide) ?_
                  refine G_aload_n X dX6_row_107 0 rfl ?_
                  refine G_iload_n X dX6_row_108 1 rfl ?_
                  obtain ⟨v46, h47, h48⟩ := bnd h44
                  refine G1_calli X (As := [.int x0]) (rest := []) (wr := []) (ws' := [(h, .inr (6, [.ref h_s, .ref h_aside, .ref h_before, .ref h_past, .int i_h_known, .ref h_text, .int i_h_length, .ref h_lost, .int i_h_losts, .int i_h_bestOrder, .int i_h_bestMany, .int i_h_spot, .int i_h_begin, .int i_h_isForm, .int i_h_letter, .ref h_tells, .int i_h_faultReason, .int i_h_faultCause])), (h_s, .inl (cI, 703, .inl f_h_s))]) dX6_row_109 pkX6_wrongCells gX6_row_X6_wrongCells (kkX6_wrongCells l D cI cR h h_s h_aside h_before h_past h_text h_lost h_tells i_h_known i_h_length i_h_losts i_h_bestOrder i_h_bestMany i_h_spot i_h_begin i_h_isForm i_h_letter i_h_faultReason i_h_faultCause f_h_s x0 v46 h47) ⟨rfl, rfl⟩ ⟨Nat.le_of_ble_eq_true rfl, Nat.le_of_ble_eq_true rfl⟩ rfl rfl (Nat.le_of_ble_eq_true rfl) 0 rfl rfl [0, 1] [] rfl rfl ⟨rfl, rfl, by decide⟩ ⟨Nat.zero_le _, Nat.zero_le _⟩ [0, 1] rfl rfl ?_
                  cases h48
                  exact rt _ _ _ _ dX6_row_112 ⟨rfl, rfl⟩
                · have h45 := ifn h43 h39
                  by_cases h49 : x1 = 7
                  · have h50 := ifp h49 h45
                    refine G_tableIn X (off := 101) (tgt := 113) dX6_row_12 (by rw [h49]; decide) (by rw [h49]; decide) (by rw [h49]; rfl) (by decide) ?_
                    refine G_aload_n X dX6_row_113 0 rfl ?_
                    refine G_iload_n X dX6_row_114 1 rfl ?_
                    obtain ⟨v52, h53, h54⟩ := bnd h50
                    refine G1_calli X (As := [.int x0]) (rest := []) (wr := []) (ws' := [(h, .inr (6, [.ref h_s, .ref h_aside, .ref h_before, .ref h_past, .int i_h_known, .ref h_text, .int i_h_length, .ref h_lost, .int i_h_losts, .int i_h_bestOrder, .int i_h_bestMany, .int i_h_spot, .int i_h_begin, .int i_h_isForm, .int i_h_letter, .ref h_tells, .int i_h_faultReason, .int i_h_faultCause])), (h_s, .inl (cI, 703, .inl f_h_s))]) dX6_row_115 pkX6_back gX6_row_X6_back (kkX6_back l D cI cR h h_s h_aside h_before h_past h_text h_lost h_tells i_h_known i_h_length i_h_losts i_h_bestOrder i_h_bestMany i_h_spot i_h_begin i_h_isForm i_h_letter i_h_faultReason i_h_faultCause f_h_s x0 v52 h53) ⟨rfl, rfl⟩ ⟨Nat.le_of_ble_eq_true rfl, Nat.le_of_ble_eq_true rfl⟩ rfl rfl (Nat.le_of_ble_eq_true rfl) 0 rfl rfl [0, 1] [] rfl rfl ⟨rfl, rfl, by decide⟩ ⟨Nat.zero_le _, Nat.zero_le _⟩ [0, 1] rfl rfl ?_
                    cases h54
                    exact rt _ _ _ _ dX6_row_118 ⟨rfl, rfl⟩
                  · have h51 := ifn h49 h45
                    by_cases h55 : x1 = 8
                    · have h56 := ifp h55 h51
                      refine G_tableIn X (off := 107) (tgt := 119) dX6_row_12 (by rw [h55]; decide) (by rw [h55]; decide) (by rw [h55]; rfl) (by decide) ?_
                      refine G_aload_n X dX6_row_119 0 rfl ?_
                      refine G_iload_n X dX6_row_120 1 rfl ?_
                      refine G_iconst X (v := 2) dX6_row_121 (by decide) ?_
                      obtain ⟨v58, h59, h60⟩ := bnd h56
                      refine G1_calli X (As := [.int x0, .int 2]) (rest := []) (wr := []) (ws' := [(h, .inr (6, [.ref h_s, .ref h_aside, .ref h_before, .ref h_past, .int i_h_known, .ref h_text, .int i_h_length, .ref h_lost, .int i_h_losts, .int i_h_bestOrder, .int i_h_bestMany, .int i_h_spot, .int i_h_begin, .int i_h_isForm, .int i_h_letter, .ref h_tells, .int i_h_faultReason, .int i_h_faultCause])), (h_s, .inl (cI, 703, .inl f_h_s))]) dX6_row_122 pkX6_of gX6_row_X6_of (kkX6_of l D cI cR h h_s h_aside h_before h_past h_text h_lost h_tells i_h_known i_h_length i_h_losts i_h_bestOrder i_h_bestMany i_h_spot i_h_begin i_h_isForm i_h_letter i_h_faultReason i_h_faultCause f_h_s x0 2 v58 h59) ⟨rfl, rfl⟩ ⟨Nat.le_of_ble_eq_true rfl, Nat.le_of_ble_eq_true rfl⟩ rfl rfl (Nat.le_of_ble_eq_true rfl) 0 rfl rfl [0, 1] [] rfl rfl ⟨rfl, rfl, by decide⟩ ⟨Nat.zero_le _, Nat.zero_le _⟩ [0, 1] rfl rfl ?_
                      cases h60
                      exact rt _ _ _ _ dX6_row_125 ⟨rfl, rfl⟩
                    · have h57 := ifn h55 h51
                      by_cases h61 : x1 = 9
                      · have h62 := ifp h61 h57
                        refine G_tableIn X (off := 114) (tgt := 126) dX6_row_12 (by rw [h61]; decide) (by rw [h61]; decide) (by rw [h61]; rfl) (by decide) ?_
                        refine G_aload_n X dX6_row_126 0 rfl ?_
                        refine G_iload_n X dX6_row_127 1 rfl ?_
                        refine G_iconst X (v := 3) dX6_row_128 (by decide) ?_
                        obtain ⟨v64, h65, h66⟩ := bnd h62
                        refine G1_calli X (As := [.int x0, .int 3]) (rest := []) (wr := []) (ws' := [(h, .inr (6, [.ref h_s, .ref h_aside, .ref h_before, .ref h_past, .int i_h_known, .ref h_text, .int i_h_length, .ref h_lost, .int i_h_losts, .int i_h_bestOrder, .int i_h_bestMany, .int i_h_spot, .int i_h_begin, .int i_h_isForm, .int i_h_letter, .ref h_tells, .int i_h_faultReason, .int i_h_faultCause])), (h_s, .inl (cI, 703, .inl f_h_s))]) dX6_row_129 pkX6_of gX6_row_X6_of (kkX6_of l D cI cR h h_s h_aside h_before h_past h_text h_lost h_tells i_h_known i_h_length i_h_losts i_h_bestOrder i_h_bestMany i_h_spot i_h_begin i_h_isForm i_h_letter i_h_faultReason i_h_faultCause f_h_s x0 3 v64 h65) ⟨rfl, rfl⟩ ⟨Nat.le_of_ble_eq_true rfl, Nat.le_of_ble_eq_true rfl⟩ rfl rfl (Nat.le_of_ble_eq_true rfl) 0 rfl rfl [0, 1] [] rfl rfl ⟨rfl, rfl, by decide⟩ ⟨Nat.zero_le _, Nat.zero_le _⟩ [0, 1] rfl rfl ?_
                        cases h66
                        exact rt _ _ _ _ dX6_row_132 ⟨rfl, rfl⟩
                      · have h63 := ifn h61 h57
                        have h7 : ¬ (x1).toInt = 0 := fun q => h7 (Int32.toInt_inj.mp (q.trans (by decide)))
                        have h13 : ¬ (x1).toInt = 1 := fun q => h13 (Int32.toInt_inj.mp (q.trans (by decide)))
                        have h19 : ¬ (x1).toInt = 2 := fun q => h19 (Int32.toInt_inj.mp (q.trans (by decide)))
                        have h25 : ¬ (x1).toInt = 3 := fun q => h25 (Int32.toInt_inj.mp (q.trans (by decide)))
                        have h31 : ¬ (x1).toInt = 4 := fun q => h31 (Int32.toInt_inj.mp (q.trans (by decide)))
                        have h37 : ¬ (x1).toInt = 5 := fun q => h37 (Int32.toInt_inj.mp (q.trans (by decide)))
                        have h43 : ¬ (x1).toInt = 6 := fun q => h43 (Int32.toInt_inj.mp (q.trans (by decide)))
                        have h49 : ¬ (x1).toInt = 7 := fun q => h49 (Int32.toInt_inj.mp (q.trans (by decide)))
                        have h55 : ¬ (x1).toInt = 8 := fun q => h55 (Int32.toInt_inj.mp (q.trans (by decide)))
                        have h61 : ¬ (x1).toInt = 9 := fun q => h61 (Int32.toInt_inj.mp (q.trans (by decide)))
                        refine G_tableOut X (tgt := 133) dX6_row_12 (by omega) (by decide) ?_
                        refine G_ldc X dX6_row_133 flX6_row_114 ?_
                        cases h63
                        exact rt _ _ _ _ dX6_row_135 ⟨rfl, rfl⟩
def rmX6_at : Room := { frames := 2, cells := 0, slots := 0, locals := 45 }
theorem pkX6_at : cK yX6_at wsX6_at cX6_at 2 (some .int) 1 RX6 := ⟨⟨_, rfl⟩, by decide +kernel⟩
theorem hiX6_at_X6 : ∀ w ∈ wsX60, w ∈ wsX6_at := by decide +kernel
theorem flX6_at_7 : Cond.fieldLink RX6 7 "EchoMarginsModel" "s" "[I" ∈ wsX6_at := by decide +kernel
theorem flX6_at_114 : Cond.constant RX6 114 (-1000001) ∈ wsX6_at := by decide +kernel
set_option maxHeartbeats 4000000 in
set_option maxRecDepth 100000 in
theorem kkX6_at (l : Launch) (D : va_G) (cI cR : ClassId) (h h_s h_aside h_before h_past h_text h_lost h_tells : Nat) (i_h_known : Int32) (i_h_length : Int32) (i_h_losts : Int32) (i_h_bestOrder : Int32) (i_h_bestMany : Int32) (i_h_spot : Int32) (i_h_begin : Int32) (i_h_isForm : Int32) (i_h_letter : Int32) (i_h_faultReason : Int32) (i_h_faultCause : Int32) (f_h_s : Nat → Int32) (x0 : Int32) (z : Int32) (hz : MX6_at f_h_s x0 = some z) : cI1 l yX6_at wsX6_at rmX6_at D cI cR [.ref h, .int x0] [(h, .inr (6, [.ref h_s, .ref h_aside, .ref h_before, .ref h_past, .int i_h_known, .ref h_text, .int i_h_length, .ref h_lost, .int i_h_losts, .int i_h_bestOrder, .int i_h_bestMany, .int i_h_spot, .int i_h_begin, .int i_h_isForm, .int i_h_letter, .ref h_tells, .int i_h_faultReason, .int i_h_faultCause])), (h_s, .inl (cI, 703, .inl f_h_s))] z [(h, .inr (6, [.ref h_s, .ref h_aside, .ref h_before, .ref h_past, .int i_h_known, .ref h_text, .int i_h_length, .ref h_lost, .int i_h_losts, .int i_h_bestOrder, .int i_h_bestMany, .int i_h_spot, .int i_h_begin, .int i_h_isForm, .int i_h_letter, .ref h_tells, .int i_h_faultReason, .int i_h_faultCause])), (h_s, .inl (cI, 703, .inl f_h_s))] := by
  unfold MX6_at at hz
  refine kI_of (cc := cX6_at) (maxL := 2) (own := RX6) (by decide +kernel) rfl rfl (Nat.le_of_ble_eq_true rfl) (lv0 := [(0, .ref h), (1, .int x0)]) rfl (fun p e s m args below meth c A Q X rt => ?_)
  refine G_iload_n X dX6_at_0 1 rfl ?_
  refine G_iconst X (v := 0) dX6_at_1 (by decide) ?_
  refine G_aload_n X dX6_at_2 0 rfl ?_
  refine G_get X (i0 := 0) (ci := 6) (j := 0) (C := RX6) (ref := RX6) (T := TX6) (N := 18) dX6_at_3 rfl rfl hiX6_at_X6 (by decide) flX6_at_7 rfl rfl ?_
  refine G_iconst X (v := 0) dX6_at_6 (by decide) ?_
  obtain ⟨v1, h2, h3⟩ := bnd hz
  refine G_iald X (i0 := 1) dX6_at_7 rfl h2 ?_
  refine G_iconst X (v := 1) dX6_at_8 (by decide) ?_
  refine G_isub X dX6_at_9 ?_
  obtain ⟨v4, h5, h6⟩ := bnd h3
  refine G1_callsi X (As := [.int x0, .int 0, .int (v1 - 1)]) (rest := []) (wr := [(h, .inr (6, [.ref h_s, .ref h_aside, .ref h_before, .ref h_past, .int i_h_known, .ref h_text, .int i_h_length, .ref h_lost, .int i_h_losts, .int i_h_bestOrder, .int i_h_bestMany, .int i_h_spot, .int i_h_begin, .int i_h_isForm, .int i_h_letter, .ref h_tells, .int i_h_faultReason, .int i_h_faultCause])), (h_s, .inl (cI, 703, .inl f_h_s))]) (ws' := [(h, .inr (6, [.ref h_s, .ref h_aside, .ref h_before, .ref h_past, .int i_h_known, .ref h_text, .int i_h_length, .ref h_lost, .int i_h_losts, .int i_h_bestOrder, .int i_h_bestMany, .int i_h_spot, .int i_h_begin, .int i_h_isForm, .int i_h_letter, .ref h_tells, .int i_h_faultReason, .int i_h_faultCause])), (h_s, .inl (cI, 703, .inl f_h_s))]) dX6_at_10 pkX6_in gX6_at_X6_in (kkX6_in l D cI cR x0 0 (v1 - 1) v4 h5) ⟨rfl, rfl⟩ ⟨Nat.le_of_ble_eq_true rfl, Nat.le_of_ble_eq_true rfl⟩ rfl rfl (Nat.le_of_ble_eq_true rfl) [] [0, 1] rfl rfl ⟨rfl, rfl, by decide⟩ ⟨Nat.zero_le _, Nat.zero_le _⟩ [0, 1] rfl rfl ?_
  refine G_if_eq X (tgt := 24) dX6_at_13 (by decide) (fun h7 => ?_) (fun h7 => ?_)
  · have h8 := ifp h7 h6
    refine G_ldc X dX6_at_24 flX6_at_114 ?_
    cases h8
    exact rt _ _ _ _ dX6_at_26 ⟨rfl, rfl⟩
  · have h9 := ifn h7 h6
    refine G_aload_n X dX6_at_16 0 rfl ?_
    refine G_iload_n X dX6_at_17 1 rfl ?_
    obtain ⟨v10, h11, h12⟩ := bnd h9
    refine G1_calli X (As := [.int x0]) (rest := []) (wr := []) (ws' := [(h, .inr (6, [.ref h_s, .ref h_aside, .ref h_before, .ref h_past, .int i_h_known, .ref h_text, .int i_h_length, .ref h_lost, .int i_h_losts, .int i_h_bestOrder, .int i_h_bestMany, .int i_h_spot, .int i_h_begin, .int i_h_isForm, .int i_h_letter, .ref h_tells, .int i_h_faultReason, .int i_h_faultCause])), (h_s, .inl (cI, 703, .inl f_h_s))]) dX6_at_18 pkX6_rowAt gX6_at_X6_rowAt (kkX6_rowAt l D cI cR h h_s h_aside h_before h_past h_text h_lost h_tells i_h_known i_h_length i_h_losts i_h_bestOrder i_h_bestMany i_h_spot i_h_begin i_h_isForm i_h_letter i_h_faultReason i_h_faultCause f_h_s x0 v10 h11) ⟨rfl, rfl⟩ ⟨Nat.le_of_ble_eq_true rfl, Nat.le_of_ble_eq_true rfl⟩ rfl rfl (Nat.le_of_ble_eq_true rfl) 0 rfl rfl [0, 1] [] rfl rfl ⟨rfl, rfl, by decide⟩ ⟨Nat.zero_le _, Nat.zero_le _⟩ [0, 1] rfl rfl ?_
    refine G_goto X (tgt := 26) dX6_at_21 (by decide) ?_
    cases h12
    exact rt _ _ _ _ dX6_at_26 ⟨rfl, rfl⟩
def rmX6_unheard : Room := { frames := 6, cells := 0, slots := 0, locals := 136 }
theorem pkX6_unheard : cK yX6_unheard wsX6_unheard cX6_unheard 4 (some .int) 1 RX6 := ⟨⟨_, rfl⟩, by decide +kernel⟩
set_option maxHeartbeats 4000000 in
set_option maxRecDepth 100000 in
theorem kkX6_unheard (l : Launch) (D : va_G) (cI cR : ClassId) (h h_s h_aside h_before h_past h_text h_lost h_tells : Nat) (i_h_known : Int32) (i_h_length : Int32) (i_h_losts : Int32) (i_h_bestOrder : Int32) (i_h_bestMany : Int32) (i_h_spot : Int32) (i_h_begin : Int32) (i_h_isForm : Int32) (i_h_letter : Int32) (i_h_faultReason : Int32) (i_h_faultCause : Int32) (f_h_s : Nat → Int32) (x0 : Int32) (z : Int32) (hz : MX6_unheard f_h_s x0 = some z) : cI1 l yX6_unheard wsX6_unheard rmX6_unheard D cI cR [.ref h, .int x0] [(h, .inr (6, [.ref h_s, .ref h_aside, .ref h_before, .ref h_past, .int i_h_known, .ref h_text, .int i_h_length, .ref h_lost, .int i_h_losts, .int i_h_bestOrder, .int i_h_bestMany, .int i_h_spot, .int i_h_begin, .int i_h_isForm, .int i_h_letter, .ref h_tells, .int i_h_faultReason, .int i_h_faultCause])), (h_s, .inl (cI, 703, .inl f_h_s))] z [(h, .inr (6, [.ref h_s, .ref h_aside, .ref h_before, .ref h_past, .int i_h_known, .ref h_text, .int i_h_length, .ref h_lost, .int i_h_losts, .int i_h_bestOrder, .int i_h_bestMany, .int i_h_spot, .int i_h_begin, .int i_h_isForm, .int i_h_letter, .ref h_tells, .int i_h_faultReason, .int i_h_faultCause])), (h_s, .inl (cI, 703, .inl f_h_s))] := by
  unfold MX6_unheard at hz
  refine kI_of (cc := cX6_unheard) (maxL := 4) (own := RX6) (by decide +kernel) rfl rfl (Nat.le_of_ble_eq_true rfl) (lv0 := [(0, .ref h), (1, .int x0)]) rfl (fun p e s m args below meth c A Q X rt => ?_)
  refine G_iconst X (v := 0) dX6_unheard_0 (by decide) ?_
  refine G_istore_n X (lv' := [(2, .int 0), (0, .ref h), (1, .int x0)]) dX6_unheard_1 (by decide) rfl ?_
  refine G_iconst X (v := 0) dX6_unheard_2 (by decide) ?_
  refine G_istore_n X (lv' := [(3, .int 0), (2, .int 0), (0, .ref h), (1, .int x0)]) dX6_unheard_3 (by decide) rfl ?_
  obtain ⟨j2, h3, h4⟩ := bnd hz
  have J9 : G p l e rmX6_unheard s m args below meth c D A 4 Q 0 0 33 [(2, .int j2)] [] [(h, .inr (6, [.ref h_s, .ref h_aside, .ref h_before, .ref h_past, .int i_h_known, .ref h_text, .int i_h_length, .ref h_lost, .int i_h_losts, .int i_h_bestOrder, .int i_h_bestMany, .int i_h_spot, .int i_h_begin, .int i_h_isForm, .int i_h_letter, .ref h_tells, .int i_h_faultReason, .int i_h_faultCause])), (h_s, .inl (cI, 703, .inl f_h_s))] := by
    refine G_iload_n X dX6_unheard_33 0 rfl ?_
    cases h4
    exact rt _ _ _ _ dX6_unheard_34 ⟨rfl, rfl⟩
  refine G_lv [2, 3, 1, 0] rfl ?_
  refine itr_ind (P := fun s1 : (Int32 × Int32) => G p l e rmX6_unheard s m args below meth c D A 4 Q 0 0 4 [(0, .ref h), (1, .int x0), (2, .int s1.1), (3, .int s1.2)] [] [(h, .inr (6, [.ref h_s, .ref h_aside, .ref h_before, .ref h_past, .int i_h_known, .ref h_text, .int i_h_length, .ref h_lost, .int i_h_losts, .int i_h_bestOrder, .int i_h_bestMany, .int i_h_spot, .int i_h_begin, .int i_h_isForm, .int i_h_letter, .ref h_tells, .int i_h_faultReason, .int i_h_faultCause])), (h_s, .inl (cI, 703, .inl f_h_s))]) (fun s1 o8 h5 h6 h7 => ?_) FU _ h3
  unfold SX6_unheard_4 at h5
  refine G_iload_n X dX6_unheard_4 3 rfl ?_
  refine G_bipush X (v := 8) dX6_unheard_5 (by decide) ?_
  refine G_icmp_ge X (tgt := 33) dX6_unheard_7 (by decide) (fun h11 => ?_) (fun h11 => ?_)
  · have h12 := ifp h11 h5
    cases h12
    have h13 := h7 _ rfl
    subst h13
    exact G_lv [2] rfl (J9)
  · have h14 := ifn h11 h5
    refine G_iload_n X dX6_unheard_10 2 rfl ?_
    refine G_aload_n X dX6_unheard_11 0 rfl ?_
    refine G_iload_n X dX6_unheard_12 1 rfl ?_
    refine G_iload_n X dX6_unheard_13 3 rfl ?_
    obtain ⟨v15, h16, h17⟩ := bnd h14
    refine G1_calli X (As := [.int x0, .int s1.2]) (rest := [.int s1.1]) (wr := []) (ws' := [(h, .inr (6, [.ref h_s, .ref h_aside, .ref h_before, .ref h_past, .int i_h_known, .ref h_text, .int i_h_length, .ref h_lost, .int i_h_losts, .int i_h_bestOrder, .int i_h_bestMany, .int i_h_spot, .int i_h_begin, .int i_h_isForm, .int i_h_letter, .ref h_tells, .int i_h_faultReason, .int i_h_faultCause])), (h_s, .inl (cI, 703, .inl f_h_s))]) dX6_unheard_14 pkX6_heard gX6_unheard_X6_heard (kkX6_heard l D cI cR h h_s h_aside h_before h_past h_text h_lost h_tells i_h_known i_h_length i_h_losts i_h_bestOrder i_h_bestMany i_h_spot i_h_begin i_h_isForm i_h_letter i_h_faultReason i_h_faultCause f_h_s x0 s1.2 v15 h16) ⟨rfl, rfl⟩ ⟨Nat.le_of_ble_eq_true rfl, Nat.le_of_ble_eq_true rfl⟩ rfl rfl (Nat.le_of_ble_eq_true rfl) 0 rfl rfl [0, 1] [] rfl rfl ⟨rfl, rfl, by decide⟩ ⟨Nat.zero_le _, Nat.zero_le _⟩ [0, 1] rfl rfl ?_
    refine G_if_ne X (tgt := 24) dX6_unheard_17 (by decide) (fun h18 => ?_) (fun h18 => ?_)
    · have h19 := ifp h18 h17
      refine G_iconst X (v := 1) dX6_unheard_20 (by decide) ?_
      refine G_goto X (tgt := 25) dX6_unheard_21 (by decide) ?_
      refine G_iadd X dX6_unheard_25 ?_
      refine G_istore_n X (lv' := [(2, .int (s1.1 + 1)), (0, .ref h), (1, .int x0), (3, .int s1.2)]) dX6_unheard_26 (by decide) rfl ?_
      refine G_iinc X (v := (s1.2 + 1)) (lv' := [(3, .int (s1.2 + 1)), (2, .int (s1.1 + 1)), (0, .ref h), (1, .int x0)]) dX6_unheard_27 3 rfl rfl (by decide) rfl ?_
      refine G_goto X (tgt := 4) dX6_unheard_30 (by decide) ?_
      cases h19
      exact G_lv [2, 3, 1, 0] rfl (h6 _ rfl)
    · have h20 := ifn h18 h17
      refine G_iconst X (v := 0) dX6_unheard_24 (by decide) ?_
      refine G_iadd X dX6_unheard_25 ?_
      refine G_istore_n X (lv' := [(2, .int (s1.1 + 0)), (0, .ref h), (1, .int x0), (3, .int s1.2)]) dX6_unheard_26 (by decide) rfl ?_
      refine G_iinc X (v := (s1.2 + 1)) (lv' := [(3, .int (s1.2 + 1)), (2, .int (s1.1 + 0)), (0, .ref h), (1, .int x0)]) dX6_unheard_27 3 rfl rfl (by decide) rfl ?_
      refine G_goto X (tgt := 4) dX6_unheard_30 (by decide) ?_
      cases h20
      exact G_lv [2, 3, 1, 0] rfl (h6 _ rfl)
