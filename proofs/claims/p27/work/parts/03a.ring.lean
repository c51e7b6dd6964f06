def rmX3_get : Room := { frames := 0, cells := 0, slots := 0, locals := 0 }
theorem pkX3_get : cK yX3_get wsX3_get cX3_get 2 (some .int) 1 RX3 := ⟨⟨_, rfl⟩, by decide +kernel⟩
theorem hiX3_get_X3 : ∀ w ∈ wsX30, w ∈ wsX3_get := by decide +kernel
theorem flX3_get_11 : Cond.fieldLink RX3 11 "EchoMargins$Ring" "numbers" "[I" ∈ wsX3_get := by decide +kernel
set_option maxHeartbeats 4000000 in
set_option maxRecDepth 100000 in
theorem kkX3_get (l : Launch) (D : va_G) (cI cR : ClassId) (h h_numbers : Nat) (f_h_numbers : Nat → Int32) (x0 : Int32) (z : Int32) (hz : MX3_get f_h_numbers x0 = some z) : cI1 l yX3_get wsX3_get rmX3_get D cI cR [.ref h, .int x0] [(h, .inr (3, [.ref h_numbers])), (h_numbers, .inl (cI, 352, .inl f_h_numbers))] z [(h, .inr (3, [.ref h_numbers])), (h_numbers, .inl (cI, 352, .inl f_h_numbers))] := by
  unfold MX3_get at hz
  refine kI_of (cc := cX3_get) (maxL := 2) (own := RX3) (by decide +kernel) rfl rfl (Nat.le_of_ble_eq_true rfl) (lv0 := [(0, .ref h), (1, .int x0)]) rfl (fun p e s m args below meth c A Q X rt => ?_)
  refine G_iload_n X dX3_get_0 1 rfl ?_
  refine G_if_lt X (tgt := 20) dX3_get_1 (by decide) (fun h1 => ?_) (fun h1 => ?_)
  · have h2 := ifp h1 hz
    refine G_iconst X (v := 0) dX3_get_20 (by decide) ?_
    cases h2
    exact rt _ _ _ _ dX3_get_21 ⟨rfl, rfl⟩
  · have h3 := ifn h1 hz
    refine G_iload_n X dX3_get_4 1 rfl ?_
    refine G_sipush X (v := 352) dX3_get_5 (by decide) ?_
    refine G_icmp_ge X (tgt := 20) dX3_get_8 (by decide) (fun h4 => ?_) (fun h4 => ?_)
    · have h5 := ifp h4 h3
      refine G_iconst X (v := 0) dX3_get_20 (by decide) ?_
      cases h5
      exact rt _ _ _ _ dX3_get_21 ⟨rfl, rfl⟩
    · have h6 := ifn h4 h3
      refine G_aload_n X dX3_get_11 0 rfl ?_
      refine G_get X (i0 := 0) (ci := 3) (j := 0) (C := RX3) (ref := RX3) (T := TX3) (N := 1) dX3_get_12 rfl rfl hiX3_get_X3 (by decide) flX3_get_11 rfl rfl ?_
      refine G_iload_n X dX3_get_15 1 rfl ?_
      obtain ⟨v7, h8, h9⟩ := bnd h6
      refine G_iald X (i0 := 1) dX3_get_16 rfl h8 ?_
      refine G_goto X (tgt := 21) dX3_get_17 (by decide) ?_
      cases h9
      exact rt _ _ _ _ dX3_get_21 ⟨rfl, rfl⟩
def rmX3_put : Room := { frames := 0, cells := 0, slots := 0, locals := 0 }
theorem pkX3_put : cK yX3_put wsX3_put cX3_put 3 none 2 RX3 := ⟨⟨_, rfl⟩, by decide +kernel⟩
theorem hiX3_put_X3 : ∀ w ∈ wsX30, w ∈ wsX3_put := by decide +kernel
theorem flX3_put_11 : Cond.fieldLink RX3 11 "EchoMargins$Ring" "numbers" "[I" ∈ wsX3_put := by decide +kernel
set_option maxHeartbeats 4000000 in
set_option maxRecDepth 100000 in
theorem kkX3_put (l : Launch) (D : va_G) (cI cR : ClassId) (h h_numbers : Nat) (f_h_numbers : Nat → Int32) (x0 : Int32) (x1 : Int32) (z : (Nat → Int32)) (hz : MX3_put f_h_numbers x0 x1 = some z) : cV1 l yX3_put wsX3_put rmX3_put D cI cR [.ref h, .int x0, .int x1] [(h, .inr (3, [.ref h_numbers])), (h_numbers, .inl (cI, 352, .inl f_h_numbers))] [(h, .inr (3, [.ref h_numbers])), (h_numbers, .inl (cI, 352, .inl z))] := by
  unfold MX3_put at hz
  refine kV_of (cc := cX3_put) (maxL := 3) (own := RX3) (by decide +kernel) rfl rfl (Nat.le_of_ble_eq_true rfl) (lv0 := [(0, .ref h), (1, .int x0), (2, .int x1)]) rfl (fun p e s m args below meth c A Q X rt => ?_)
  refine G_iload_n X dX3_put_0 1 rfl ?_
  refine G_if_lt X (tgt := 18) dX3_put_1 (by decide) (fun h1 => ?_) (fun h1 => ?_)
  · have h2 := ifp h1 hz
    cases h2
    exact rt _ _ _ dX3_put_18 rfl
  · have h3 := ifn h1 hz
    refine G_iload_n X dX3_put_4 1 rfl ?_
    refine G_sipush X (v := 352) dX3_put_5 (by decide) ?_
    refine G_icmp_ge X (tgt := 18) dX3_put_8 (by decide) (fun h4 => ?_) (fun h4 => ?_)
    · have h5 := ifp h4 h3
      cases h5
      exact rt _ _ _ dX3_put_18 rfl
    · have h6 := ifn h4 h3
      refine G_aload_n X dX3_put_11 0 rfl ?_
      refine G_get X (i0 := 0) (ci := 3) (j := 0) (C := RX3) (ref := RX3) (T := TX3) (N := 1) dX3_put_12 rfl rfl hiX3_put_X3 (by decide) flX3_put_11 rfl rfl ?_
      refine G_iload_n X dX3_put_15 1 rfl ?_
      refine G_iload_n X dX3_put_16 2 rfl ?_
      obtain ⟨g7, h8, h9⟩ := bnd h6
      refine G_iast X (i0 := 1) (ws' := [(h, .inr (3, [.ref h_numbers])), (h_numbers, .inl (cI, 352, .inl g7))]) dX3_put_17 rfl h8 rfl ?_
      cases h9
      exact rt _ _ _ dX3_put_18 rfl
def rmX3_add : Room := { frames := 1, cells := 0, slots := 0, locals := 22 }
theorem pkX3_add : cK yX3_add wsX3_add cX3_add 3 none 2 RX3 := ⟨⟨_, rfl⟩, by decide +kernel⟩
set_option maxHeartbeats 4000000 in
set_option maxRecDepth 100000 in
theorem kkX3_add (l : Launch) (D : va_G) (cI cR : ClassId) (h h_numbers : Nat) (f_h_numbers : Nat → Int32) (x0 : Int32) (x1 : Int32) (z : (Nat → Int32)) (hz : MX3_add f_h_numbers x0 x1 = some z) : cV1 l yX3_add wsX3_add rmX3_add D cI cR [.ref h, .int x0, .int x1] [(h, .inr (3, [.ref h_numbers])), (h_numbers, .inl (cI, 352, .inl f_h_numbers))] [(h, .inr (3, [.ref h_numbers])), (h_numbers, .inl (cI, 352, .inl z))] := by
  unfold MX3_add at hz
  refine kV_of (cc := cX3_add) (maxL := 3) (own := RX3) (by decide +kernel) rfl rfl (Nat.le_of_ble_eq_true rfl) (lv0 := [(0, .ref h), (1, .int x0), (2, .int x1)]) rfl (fun p e s m args below meth c A Q X rt => ?_)
  refine G_aload_n X dX3_add_0 0 rfl ?_
  refine G_iload_n X dX3_add_1 1 rfl ?_
  refine G_aload_n X dX3_add_2 0 rfl ?_
  refine G_iload_n X dX3_add_3 1 rfl ?_
  obtain ⟨v1, h2, h3⟩ := bnd hz
  refine G1_calli X (As := [.int x0]) (rest := [.int x0, .ref h]) (wr := []) (ws' := [(h, .inr (3, [.ref h_numbers])), (h_numbers, .inl (cI, 352, .inl f_h_numbers))]) dX3_add_4 pkX3_get gX3_add_X3_get (kkX3_get l D cI cR h h_numbers f_h_numbers x0 v1 h2) ⟨rfl, rfl⟩ ⟨Nat.le_of_ble_eq_true rfl, Nat.le_of_ble_eq_true rfl⟩ rfl rfl (Nat.le_of_ble_eq_true rfl) 0 rfl rfl [0, 1] [] rfl rfl ⟨rfl, rfl, by decide⟩ ⟨Nat.zero_le _, Nat.zero_le _⟩ [0, 1] rfl rfl ?_
  refine G_iload_n X dX3_add_7 2 rfl ?_
  refine G_iadd X dX3_add_8 ?_
  obtain ⟨v4, h5, h6⟩ := bnd h3
  refine G1_callv X (As := [.int x0, .int (v1 + x1)]) (rest := []) (wr := []) (ws' := [(h, .inr (3, [.ref h_numbers])), (h_numbers, .inl (cI, 352, .inl v4))]) dX3_add_9 pkX3_put gX3_add_X3_put (kkX3_put l D cI cR h h_numbers f_h_numbers x0 (v1 + x1) v4 h5) ⟨rfl, rfl⟩ ⟨Nat.le_of_ble_eq_true rfl, Nat.le_of_ble_eq_true rfl⟩ rfl rfl (Nat.le_of_ble_eq_true rfl) 0 rfl rfl [0, 1] [] rfl rfl ⟨rfl, rfl, by decide⟩ ⟨Nat.zero_le _, Nat.zero_le _⟩ [0, 1] rfl rfl ?_
  cases h6
  exact rt _ _ _ dX3_add_12 rfl
def rmX3_copyFrom : Room := { frames := 1, cells := 0, slots := 0, locals := 90 }
theorem pkX3_copyFrom : cK yX3_copyFrom wsX3_copyFrom cX3_copyFrom 2 none 1 RX3 := ⟨⟨_, rfl⟩, by decide +kernel⟩
theorem hiX3_copyFrom_X3 : ∀ w ∈ wsX30, w ∈ wsX3_copyFrom := by decide +kernel
theorem flX3_copyFrom_11 : Cond.fieldLink RX3 11 "EchoMargins$Ring" "numbers" "[I" ∈ wsX3_copyFrom := by decide +kernel
theorem flX3_copyFrom_acm : Cond.methodLink RX3 23 arraycopyName ∈ wsX3_copyFrom := by decide +kernel
theorem flX3_copyFrom_acn : Cond.native arraycopyName ∈ wsX3_copyFrom := by decide +kernel
theorem flX3_copyFrom_acs : Cond.static arraycopyName ∈ wsX3_copyFrom := by decide +kernel
theorem flX3_copyFrom_ini : Cond.initialized "java/lang/System" ∈ wsX3_copyFrom := by decide +kernel
set_option maxHeartbeats 4000000 in
set_option maxRecDepth 100000 in
theorem kkX3_copyFrom (l : Launch) (D : va_G) (cI cR : ClassId) (h h_numbers a0 a0_numbers : Nat) (f_h_numbers : Nat → Int32) (f_a0_numbers : Nat → Int32) (z : (Nat → Int32)) (hz : MX3_copyFrom f_h_numbers f_a0_numbers = some z) : cV1 l yX3_copyFrom wsX3_copyFrom rmX3_copyFrom D cI cR [.ref h, .ref a0] [(h, .inr (3, [.ref h_numbers])), (h_numbers, .inl (cI, 352, .inl f_h_numbers)), (a0, .inr (3, [.ref a0_numbers])), (a0_numbers, .inl (cI, 352, .inl f_a0_numbers))] [(h, .inr (3, [.ref h_numbers])), (h_numbers, .inl (cI, 352, .inl z)), (a0, .inr (3, [.ref a0_numbers])), (a0_numbers, .inl (cI, 352, .inl f_a0_numbers))] := by
  unfold MX3_copyFrom at hz
  refine kV_of (cc := cX3_copyFrom) (maxL := 2) (own := RX3) (by decide +kernel) rfl rfl (Nat.le_of_ble_eq_true rfl) (lv0 := [(0, .ref h), (1, .ref a0)]) rfl (fun p e s m args below meth c A Q X rt => ?_)
  refine G_aload_n X dX3_copyFrom_0 1 rfl ?_
  refine G_ifnull X dX3_copyFrom_1 ?_
  refine G_aload_n X dX3_copyFrom_4 1 rfl ?_
  refine G_get X (i0 := 2) (ci := 3) (j := 0) (C := RX3) (ref := RX3) (T := TX3) (N := 1) dX3_copyFrom_5 rfl rfl hiX3_copyFrom_X3 (by decide) flX3_copyFrom_11 rfl rfl ?_
  refine G_iconst X (v := 0) dX3_copyFrom_8 (by decide) ?_
  refine G_aload_n X dX3_copyFrom_9 0 rfl ?_
  refine G_get X (i0 := 0) (ci := 3) (j := 0) (C := RX3) (ref := RX3) (T := TX3) (N := 1) dX3_copyFrom_10 rfl rfl hiX3_copyFrom_X3 (by decide) flX3_copyFrom_11 rfl rfl ?_
  refine G_iconst X (v := 0) dX3_copyFrom_13 (by decide) ?_
  refine G_sipush X (v := 352) dX3_copyFrom_14 (by decide) ?_
  obtain ⟨g1, h2, h3⟩ := bnd hz
  refine G_copy X (i0 := 3) (i1 := 1) (ws' := [(h, .inr (3, [.ref h_numbers])), (h_numbers, .inl (cI, 352, .inl g1)), (a0, .inr (3, [.ref a0_numbers])), (a0_numbers, .inl (cI, 352, .inl f_a0_numbers))]) dX3_copyFrom_17 flX3_copyFrom_acm flX3_copyFrom_acn flX3_copyFrom_acs flX3_copyFrom_ini rfl rfl h2 rfl (Nat.le_of_ble_eq_true rfl) (Nat.le_of_ble_eq_true rfl) ?_
  cases h3
  exact rt _ _ _ dX3_copyFrom_20 rfl
def rmX3_echo : Room := { frames := 0, cells := 0, slots := 0, locals := 0 }
theorem pkX3_echo : cK yX3_echo wsX3_echo cX3_echo 3 (some .int) 3 RX3 := ⟨⟨_, rfl⟩, by decide +kernel⟩
set_option maxHeartbeats 4000000 in
set_option maxRecDepth 100000 in
theorem kkX3_echo (l : Launch) (D : va_G) (cI cR : ClassId) (x0 : Int32) (x1 : Int32) (x2 : Int32) (z : Int32) (hz : MX3_echo x0 x1 x2 = some z) : cI1 l yX3_echo wsX3_echo rmX3_echo D cI cR [.int x0, .int x1, .int x2] [] z [] := by
  unfold MX3_echo at hz
  refine kI_of (cc := cX3_echo) (maxL := 3) (own := RX3) (by decide +kernel) rfl rfl (Nat.le_of_ble_eq_true rfl) (lv0 := [(0, .int x0), (1, .int x1), (2, .int x2)]) rfl (fun p e s m args below meth c A Q X rt => ?_)
  refine G_iload_n X dX3_echo_0 0 rfl ?_
  refine G_bipush X (v := 24) dX3_echo_1 (by decide) ?_
  refine G_ishl X dX3_echo_3 ?_
  refine G_iload_n X dX3_echo_4 1 rfl ?_
  refine G_bipush X (v := 14) dX3_echo_5 (by decide) ?_
  refine G_ishl X dX3_echo_7 ?_
  refine G_ior X dX3_echo_8 ?_
  refine G_iload_n X dX3_echo_9 2 rfl ?_
  refine G_ior X dX3_echo_10 ?_
  cases hz
  exact rt _ _ _ _ dX3_echo_11 ⟨rfl, rfl⟩
def rmX3_ownerOf : Room := { frames := 0, cells := 0, slots := 0, locals := 0 }
theorem pkX3_ownerOf : cK yX3_ownerOf wsX3_ownerOf cX3_ownerOf 1 (some .int) 1 RX3 := ⟨⟨_, rfl⟩, by decide +kernel⟩
set_option maxHeartbeats 4000000 in
set_option maxRecDepth 100000 in
theorem kkX3_ownerOf (l : Launch) (D : va_G) (cI cR : ClassId) (x0 : Int32) (z : Int32) (hz : MX3_ownerOf x0 = some z) : cI1 l yX3_ownerOf wsX3_ownerOf rmX3_ownerOf D cI cR [.int x0] [] z [] := by
  unfold MX3_ownerOf at hz
  refine kI_of (cc := cX3_ownerOf) (maxL := 1) (own := RX3) (by decide +kernel) rfl rfl (Nat.le_of_ble_eq_true rfl) (lv0 := [(0, .int x0)]) rfl (fun p e s m args below meth c A Q X rt => ?_)
  refine G_iload_n X dX3_ownerOf_0 0 rfl ?_
  refine G_bipush X (v := 24) dX3_ownerOf_1 (by decide) ?_
  refine G_ishr X dX3_ownerOf_3 ?_
  cases hz
  exact rt _ _ _ _ dX3_ownerOf_4 ⟨rfl, rfl⟩
def rmX3_valueOf : Room := { frames := 0, cells := 0, slots := 0, locals := 0 }
theorem pkX3_valueOf : cK yX3_valueOf wsX3_valueOf cX3_valueOf 1 (some .int) 1 RX3 := ⟨⟨_, rfl⟩, by decide +kernel⟩
set_option maxHeartbeats 4000000 in
set_option maxRecDepth 100000 in
theorem kkX3_valueOf (l : Launch) (D : va_G) (cI cR : ClassId) (x0 : Int32) (z : Int32) (hz : MX3_valueOf x0 = some z) : cI1 l yX3_valueOf wsX3_valueOf rmX3_valueOf D cI cR [.int x0] [] z [] := by
  unfold MX3_valueOf at hz
  refine kI_of (cc := cX3_valueOf) (maxL := 1) (own := RX3) (by decide +kernel) rfl rfl (Nat.le_of_ble_eq_true rfl) (lv0 := [(0, .int x0)]) rfl (fun p e s m args below meth c A Q X rt => ?_)
  refine G_iload_n X dX3_valueOf_0 0 rfl ?_
  refine G_bipush X (v := 14) dX3_valueOf_1 (by decide) ?_
  refine G_ishr X dX3_valueOf_3 ?_
  refine G_sipush X (v := 1023) dX3_valueOf_4 (by decide) ?_
  refine G_iand X dX3_valueOf_7 ?_
  cases hz
  exact rt _ _ _ _ dX3_valueOf_8 ⟨rfl, rfl⟩
def rmX3_dayOf : Room := { frames := 0, cells := 0, slots := 0, locals := 0 }
theorem pkX3_dayOf : cK yX3_dayOf wsX3_dayOf cX3_dayOf 1 (some .int) 1 RX3 := ⟨⟨_, rfl⟩, by decide +kernel⟩
set_option maxHeartbeats 4000000 in
set_option maxRecDepth 100000 in
theorem kkX3_dayOf (l : Launch) (D : va_G) (cI cR : ClassId) (x0 : Int32) (z : Int32) (hz : MX3_dayOf x0 = some z) : cI1 l yX3_dayOf wsX3_dayOf rmX3_dayOf D cI cR [.int x0] [] z [] := by
  unfold MX3_dayOf at hz
  refine kI_of (cc := cX3_dayOf) (maxL := 1) (own := RX3) (by decide +kernel) rfl rfl (Nat.le_of_ble_eq_true rfl) (lv0 := [(0, .int x0)]) rfl (fun p e s m args below meth c A Q X rt => ?_)
  refine G_iload_n X dX3_dayOf_0 0 rfl ?_
  refine G_sipush X (v := 16383) dX3_dayOf_1 (by decide) ?_
  refine G_iand X dX3_dayOf_4 ?_
  cases hz
  exact rt _ _ _ _ dX3_dayOf_5 ⟨rfl, rfl⟩
def rmX3_ageOf : Room := { frames := 1, cells := 0, slots := 0, locals := 21 }
theorem pkX3_ageOf : cK yX3_ageOf wsX3_ageOf cX3_ageOf 2 (some .int) 1 RX3 := ⟨⟨_, rfl⟩, by decide +kernel⟩
set_option maxHeartbeats 4000000 in
set_option maxRecDepth 100000 in
theorem kkX3_ageOf (l : Launch) (D : va_G) (cI cR : ClassId) (h h_numbers : Nat) (f_h_numbers : Nat → Int32) (x0 : Int32) (z : Int32) (hz : MX3_ageOf f_h_numbers x0 = some z) : cI1 l yX3_ageOf wsX3_ageOf rmX3_ageOf D cI cR [.ref h, .int x0] [(h, .inr (3, [.ref h_numbers])), (h_numbers, .inl (cI, 352, .inl f_h_numbers))] z [(h, .inr (3, [.ref h_numbers])), (h_numbers, .inl (cI, 352, .inl f_h_numbers))] := by
  unfold MX3_ageOf at hz
  refine kI_of (cc := cX3_ageOf) (maxL := 2) (own := RX3) (by decide +kernel) rfl rfl (Nat.le_of_ble_eq_true rfl) (lv0 := [(0, .ref h), (1, .int x0)]) rfl (fun p e s m args below meth c A Q X rt => ?_)
  refine G_aload_n X dX3_ageOf_0 0 rfl ?_
  refine G_iconst X (v := 0) dX3_ageOf_1 (by decide) ?_
  obtain ⟨v1, h2, h3⟩ := bnd hz
  refine G1_calli X (As := [.int 0]) (rest := []) (wr := []) (ws' := [(h, .inr (3, [.ref h_numbers])), (h_numbers, .inl (cI, 352, .inl f_h_numbers))]) dX3_ageOf_2 pkX3_get gX3_ageOf_X3_get (kkX3_get l D cI cR h h_numbers f_h_numbers 0 v1 h2) ⟨rfl, rfl⟩ ⟨Nat.le_of_ble_eq_true rfl, Nat.le_of_ble_eq_true rfl⟩ rfl rfl (Nat.le_of_ble_eq_true rfl) 0 rfl rfl [0, 1] [] rfl rfl ⟨rfl, rfl, by decide⟩ ⟨Nat.zero_le _, Nat.zero_le _⟩ [0, 1] rfl rfl ?_
  refine G_iload_n X dX3_ageOf_5 1 rfl ?_
  obtain ⟨v4, h5, h6⟩ := bnd h3
  refine G1_callsi X (As := [.int x0]) (rest := [.int v1]) (wr := [(h, .inr (3, [.ref h_numbers])), (h_numbers, .inl (cI, 352, .inl f_h_numbers))]) (ws' := [(h, .inr (3, [.ref h_numbers])), (h_numbers, .inl (cI, 352, .inl f_h_numbers))]) dX3_ageOf_6 pkX3_dayOf gX3_ageOf_X3_dayOf (kkX3_dayOf l D cI cR x0 v4 h5) ⟨rfl, rfl⟩ ⟨Nat.le_of_ble_eq_true rfl, Nat.le_of_ble_eq_true rfl⟩ rfl rfl (Nat.le_of_ble_eq_true rfl) [] [0, 1] rfl rfl ⟨rfl, rfl, by decide⟩ ⟨Nat.zero_le _, Nat.zero_le _⟩ [0, 1] rfl rfl ?_
  refine G_isub X dX3_ageOf_9 ?_
  cases h6
  exact rt _ _ _ _ dX3_ageOf_10 ⟨rfl, rfl⟩
def rmX3_isFaded : Room := { frames := 1, cells := 0, slots := 0, locals := 21 }
theorem pkX3_isFaded : cK yX3_isFaded wsX3_isFaded cX3_isFaded 2 (some .boolean) 1 RX3 := ⟨⟨_, rfl⟩, by decide +kernel⟩
set_option maxHeartbeats 4000000 in
set_option maxRecDepth 100000 in
theorem kkX3_isFaded (l : Launch) (D : va_G) (cI cR : ClassId) (h h_numbers : Nat) (f_h_numbers : Nat → Int32) (x0 : Int32) (z : Int32) (hz : MX3_isFaded f_h_numbers x0 = some z) : cI1 l yX3_isFaded wsX3_isFaded rmX3_isFaded D cI cR [.ref h, .int x0] [(h, .inr (3, [.ref h_numbers])), (h_numbers, .inl (cI, 352, .inl f_h_numbers))] z [(h, .inr (3, [.ref h_numbers])), (h_numbers, .inl (cI, 352, .inl f_h_numbers))] := by
  unfold MX3_isFaded at hz
  refine kZ_of (cc := cX3_isFaded) (maxL := 2) (own := RX3) (by decide +kernel) rfl rfl (Nat.le_of_ble_eq_true rfl) (lv0 := [(0, .ref h), (1, .int x0)]) rfl (fun p e s m args below meth c A Q X rt => ?_)
  refine G_aload_n X dX3_isFaded_0 0 rfl ?_
  refine G_iconst X (v := 0) dX3_isFaded_1 (by decide) ?_
  obtain ⟨v1, h2, h3⟩ := bnd hz
  refine G1_calli X (As := [.int 0]) (rest := []) (wr := []) (ws' := [(h, .inr (3, [.ref h_numbers])), (h_numbers, .inl (cI, 352, .inl f_h_numbers))]) dX3_isFaded_2 pkX3_get gX3_isFaded_X3_get (kkX3_get l D cI cR h h_numbers f_h_numbers 0 v1 h2) ⟨rfl, rfl⟩ ⟨Nat.le_of_ble_eq_true rfl, Nat.le_of_ble_eq_true rfl⟩ rfl rfl (Nat.le_of_ble_eq_true rfl) 0 rfl rfl [0, 1] [] rfl rfl ⟨rfl, rfl, by decide⟩ ⟨Nat.zero_le _, Nat.zero_le _⟩ [0, 1] rfl rfl ?_
  refine G_iload_n X dX3_isFaded_5 1 rfl ?_
  obtain ⟨v4, h5, h6⟩ := bnd h3
  refine G1_callsi X (As := [.int x0]) (rest := [.int v1]) (wr := [(h, .inr (3, [.ref h_numbers])), (h_numbers, .inl (cI, 352, .inl f_h_numbers))]) (ws' := [(h, .inr (3, [.ref h_numbers])), (h_numbers, .inl (cI, 352, .inl f_h_numbers))]) dX3_isFaded_6 pkX3_dayOf gX3_isFaded_X3_dayOf (kkX3_dayOf l D cI cR x0 v4 h5) ⟨rfl, rfl⟩ ⟨Nat.le_of_ble_eq_true rfl, Nat.le_of_ble_eq_true rfl⟩ rfl rfl (Nat.le_of_ble_eq_true rfl) [] [0, 1] rfl rfl ⟨rfl, rfl, by decide⟩ ⟨Nat.zero_le _, Nat.zero_le _⟩ [0, 1] rfl rfl ?_
  refine G_isub X dX3_isFaded_9 ?_
  refine G_aload_n X dX3_isFaded_10 0 rfl ?_
  refine G_iconst X (v := 3) dX3_isFaded_11 (by decide) ?_
  obtain ⟨v7, h8, h9⟩ := bnd h6
  refine G1_calli X (As := [.int 3]) (rest := [.int (v1 - v4)]) (wr := []) (ws' := [(h, .inr (3, [.ref h_numbers])), (h_numbers, .inl (cI, 352, .inl f_h_numbers))]) dX3_isFaded_12 pkX3_get gX3_isFaded_X3_get (kkX3_get l D cI cR h h_numbers f_h_numbers 3 v7 h8) ⟨rfl, rfl⟩ ⟨Nat.le_of_ble_eq_true rfl, Nat.le_of_ble_eq_true rfl⟩ rfl rfl (Nat.le_of_ble_eq_true rfl) 0 rfl rfl [0, 1] [] rfl rfl ⟨rfl, rfl, by decide⟩ ⟨Nat.zero_le _, Nat.zero_le _⟩ [0, 1] rfl rfl ?_
  refine G_icmp_le X (tgt := 22) dX3_isFaded_15 (by decide) (fun h10 => ?_) (fun h10 => ?_)
  · have h11 := ifp h10 h9
    refine G_iconst X (v := 0) dX3_isFaded_22 (by decide) ?_
    cases h11
    exact rt _ _ _ _ dX3_isFaded_23 rfl ⟨rfl, rfl⟩
  · have h12 := ifn h10 h9
    refine G_iconst X (v := 1) dX3_isFaded_18 (by decide) ?_
    refine G_goto X (tgt := 23) dX3_isFaded_19 (by decide) ?_
    cases h12
    exact rt _ _ _ _ dX3_isFaded_23 rfl ⟨rfl, rfl⟩
def rmX3_hasRow : Room := { frames := 1, cells := 0, slots := 0, locals := 21 }
theorem pkX3_hasRow : cK yX3_hasRow wsX3_hasRow cX3_hasRow 2 (some .boolean) 1 RX3 := ⟨⟨_, rfl⟩, by decide +kernel⟩
set_option maxHeartbeats 4000000 in
set_option maxRecDepth 100000 in
theorem kkX3_hasRow (l : Launch) (D : va_G) (cI cR : ClassId) (h h_numbers : Nat) (f_h_numbers : Nat → Int32) (x0 : Int32) (z : Int32) (hz : MX3_hasRow f_h_numbers x0 = some z) : cI1 l yX3_hasRow wsX3_hasRow rmX3_hasRow D cI cR [.ref h, .int x0] [(h, .inr (3, [.ref h_numbers])), (h_numbers, .inl (cI, 352, .inl f_h_numbers))] z [(h, .inr (3, [.ref h_numbers])), (h_numbers, .inl (cI, 352, .inl f_h_numbers))] := by
  unfold MX3_hasRow at hz
  refine kZ_of (cc := cX3_hasRow) (maxL := 2) (own := RX3) (by decide +kernel) rfl rfl (Nat.le_of_ble_eq_true rfl) (lv0 := [(0, .ref h), (1, .int x0)]) rfl (fun p e s m args below meth c A Q X rt => ?_)
  refine G_iload_n X dX3_hasRow_0 1 rfl ?_
  refine G_if_lt X (tgt := 17) dX3_hasRow_1 (by decide) (fun h1 => ?_) (fun h1 => ?_)
  · have h2 := ifp h1 hz
    refine G_iconst X (v := 0) dX3_hasRow_17 (by decide) ?_
    cases h2
    exact rt _ _ _ _ dX3_hasRow_18 rfl ⟨rfl, rfl⟩
  · have h3 := ifn h1 hz
    refine G_iload_n X dX3_hasRow_4 1 rfl ?_
    refine G_aload_n X dX3_hasRow_5 0 rfl ?_
    refine G_iconst X (v := 1) dX3_hasRow_6 (by decide) ?_
    obtain ⟨v4, h5, h6⟩ := bnd h3
    refine G1_calli X (As := [.int 1]) (rest := [.int x0]) (wr := []) (ws' := [(h, .inr (3, [.ref h_numbers])), (h_numbers, .inl (cI, 352, .inl f_h_numbers))]) dX3_hasRow_7 pkX3_get gX3_hasRow_X3_get (kkX3_get l D cI cR h h_numbers f_h_numbers 1 v4 h5) ⟨rfl, rfl⟩ ⟨Nat.le_of_ble_eq_true rfl, Nat.le_of_ble_eq_true rfl⟩ rfl rfl (Nat.le_of_ble_eq_true rfl) 0 rfl rfl [0, 1] [] rfl rfl ⟨rfl, rfl, by decide⟩ ⟨Nat.zero_le _, Nat.zero_le _⟩ [0, 1] rfl rfl ?_
    refine G_icmp_ge X (tgt := 17) dX3_hasRow_10 (by decide) (fun h7 => ?_) (fun h7 => ?_)
    · have h8 := ifp h7 h6
      refine G_iconst X (v := 0) dX3_hasRow_17 (by decide) ?_
      cases h8
      exact rt _ _ _ _ dX3_hasRow_18 rfl ⟨rfl, rfl⟩
    · have h9 := ifn h7 h6
      refine G_iconst X (v := 1) dX3_hasRow_13 (by decide) ?_
      refine G_goto X (tgt := 18) dX3_hasRow_14 (by decide) ?_
      cases h9
      exact rt _ _ _ _ dX3_hasRow_18 rfl ⟨rfl, rfl⟩
def rmX3_isCell : Room := { frames := 0, cells := 0, slots := 0, locals := 0 }
theorem pkX3_isCell : cK yX3_isCell wsX3_isCell cX3_isCell 1 (some .boolean) 1 RX3 := ⟨⟨_, rfl⟩, by decide +kernel⟩
set_option maxHeartbeats 4000000 in
set_option maxRecDepth 100000 in
theorem kkX3_isCell (l : Launch) (D : va_G) (cI cR : ClassId) (x0 : Int32) (z : Int32) (hz : MX3_isCell x0 = some z) : cI1 l yX3_isCell wsX3_isCell rmX3_isCell D cI cR [.int x0] [] z [] := by
  unfold MX3_isCell at hz
  refine kZ_of (cc := cX3_isCell) (maxL := 1) (own := RX3) (by decide +kernel) rfl rfl (Nat.le_of_ble_eq_true rfl) (lv0 := [(0, .int x0)]) rfl (fun p e s m args below meth c A Q X rt => ?_)
  refine G_iload_n X dX3_isCell_0 0 rfl ?_
  refine G_if_lt X (tgt := 14) dX3_isCell_1 (by decide) (fun h1 => ?_) (fun h1 => ?_)
  · have h2 := ifp h1 hz
    refine G_iconst X (v := 0) dX3_isCell_14 (by decide) ?_
    cases h2
    exact rt _ _ _ _ dX3_isCell_15 rfl ⟨rfl, rfl⟩
  · have h3 := ifn h1 hz
    refine G_iload_n X dX3_isCell_4 0 rfl ?_
    refine G_bipush X (v := 8) dX3_isCell_5 (by decide) ?_
    refine G_icmp_ge X (tgt := 14) dX3_isCell_7 (by decide) (fun h4 => ?_) (fun h4 => ?_)
    · have h5 := ifp h4 h3
      refine G_iconst X (v := 0) dX3_isCell_14 (by decide) ?_
      cases h5
      exact rt _ _ _ _ dX3_isCell_15 rfl ⟨rfl, rfl⟩
    · have h6 := ifn h4 h3
      refine G_iconst X (v := 1) dX3_isCell_10 (by decide) ?_
      refine G_goto X (tgt := 15) dX3_isCell_11 (by decide) ?_
      cases h6
      exact rt _ _ _ _ dX3_isCell_15 rfl ⟨rfl, rfl⟩
def rmX3_lives : Room := { frames := 1, cells := 0, slots := 0, locals := 21 }
theorem pkX3_lives : cK yX3_lives wsX3_lives cX3_lives 2 (some .boolean) 1 RX3 := ⟨⟨_, rfl⟩, by decide +kernel⟩
set_option maxHeartbeats 4000000 in
set_option maxRecDepth 100000 in
theorem kkX3_lives (l : Launch) (D : va_G) (cI cR : ClassId) (h h_numbers : Nat) (f_h_numbers : Nat → Int32) (x0 : Int32) (z : Int32) (hz : MX3_lives f_h_numbers x0 = some z) : cI1 l yX3_lives wsX3_lives rmX3_lives D cI cR [.ref h, .int x0] [(h, .inr (3, [.ref h_numbers])), (h_numbers, .inl (cI, 352, .inl f_h_numbers))] z [(h, .inr (3, [.ref h_numbers])), (h_numbers, .inl (cI, 352, .inl f_h_numbers))] := by
  unfold MX3_lives at hz
  refine kZ_of (cc := cX3_lives) (maxL := 2) (own := RX3) (by decide +kernel) rfl rfl (Nat.le_of_ble_eq_true rfl) (lv0 := [(0, .ref h), (1, .int x0)]) rfl (fun p e s m args below meth c A Q X rt => ?_)
  refine G_aload_n X dX3_lives_0 0 rfl ?_
  refine G_bipush X (v := 28) dX3_lives_1 (by decide) ?_
  refine G_iload_n X dX3_lives_3 1 rfl ?_
  refine G_iadd X dX3_lives_4 ?_
  obtain ⟨v1, h2, h3⟩ := bnd hz
  refine G1_calli X (As := [.int (28 + x0)]) (rest := []) (wr := []) (ws' := [(h, .inr (3, [.ref h_numbers])), (h_numbers, .inl (cI, 352, .inl f_h_numbers))]) dX3_lives_5 pkX3_get gX3_lives_X3_get (kkX3_get l D cI cR h h_numbers f_h_numbers (28 + x0) v1 h2) ⟨rfl, rfl⟩ ⟨Nat.le_of_ble_eq_true rfl, Nat.le_of_ble_eq_true rfl⟩ rfl rfl (Nat.le_of_ble_eq_true rfl) 0 rfl rfl [0, 1] [] rfl rfl ⟨rfl, rfl, by decide⟩ ⟨Nat.zero_le _, Nat.zero_le _⟩ [0, 1] rfl rfl ?_
  refine G_iconst X (v := 1) dX3_lives_8 (by decide) ?_
  refine G_icmp_ne X (tgt := 16) dX3_lives_9 (by decide) (fun h4 => ?_) (fun h4 => ?_)
  · have h5 := ifp h4 h3
    refine G_iconst X (v := 1) dX3_lives_12 (by decide) ?_
    refine G_goto X (tgt := 17) dX3_lives_13 (by decide) ?_
    cases h5
    exact rt _ _ _ _ dX3_lives_17 rfl ⟨rfl, rfl⟩
  · have h6 := ifn h4 h3
    refine G_iconst X (v := 0) dX3_lives_16 (by decide) ?_
    cases h6
    exact rt _ _ _ _ dX3_lives_17 rfl ⟨rfl, rfl⟩
def rmX3_neighbour : Room := { frames := 1, cells := 0, slots := 0, locals := 21 }
theorem pkX3_neighbour : cK yX3_neighbour wsX3_neighbour cX3_neighbour 5 (some .int) 2 RX3 := ⟨⟨_, rfl⟩, by decide +kernel⟩
set_option maxHeartbeats 4000000 in
set_option maxRecDepth 100000 in
theorem kkX3_neighbour (l : Launch) (D : va_G) (cI cR : ClassId) (h h_numbers : Nat) (f_h_numbers : Nat → Int32) (x0 : Int32) (x1 : Int32) (z : Int32) (hz : MX3_neighbour f_h_numbers x0 x1 = some z) : cI1 l yX3_neighbour wsX3_neighbour rmX3_neighbour D cI cR [.ref h, .int x0, .int x1] [(h, .inr (3, [.ref h_numbers])), (h_numbers, .inl (cI, 352, .inl f_h_numbers))] z [(h, .inr (3, [.ref h_numbers])), (h_numbers, .inl (cI, 352, .inl f_h_numbers))] := by
  unfold MX3_neighbour at hz
  refine kI_of (cc := cX3_neighbour) (maxL := 5) (own := RX3) (by decide +kernel) rfl rfl (Nat.le_of_ble_eq_true rfl) (lv0 := [(0, .ref h), (1, .int x0), (2, .int x1)]) rfl (fun p e s m args below meth c A Q X rt => ?_)
  refine G_aload_n X dX3_neighbour_0 0 rfl ?_
  refine G_bipush X (v := 10) dX3_neighbour_1 (by decide) ?_
  refine G_iload_n X dX3_neighbour_3 1 rfl ?_
  refine G_iadd X dX3_neighbour_4 ?_
  obtain ⟨v1, h2, h3⟩ := bnd hz
  refine G1_calli X (As := [.int (10 + x0)]) (rest := []) (wr := []) (ws' := [(h, .inr (3, [.ref h_numbers])), (h_numbers, .inl (cI, 352, .inl f_h_numbers))]) dX3_neighbour_5 pkX3_get gX3_neighbour_X3_get (kkX3_get l D cI cR h h_numbers f_h_numbers (10 + x0) v1 h2) ⟨rfl, rfl⟩ ⟨Nat.le_of_ble_eq_true rfl, Nat.le_of_ble_eq_true rfl⟩ rfl rfl (Nat.le_of_ble_eq_true rfl) 0 rfl rfl [0, 1] [] rfl rfl ⟨rfl, rfl, by decide⟩ ⟨Nat.zero_le _, Nat.zero_le _⟩ [0, 1] rfl rfl ?_
  refine G_iload_n X dX3_neighbour_8 2 rfl ?_
  refine G_iadd X dX3_neighbour_9 ?_
  refine G_istore_n X (lv' := [(3, .int (v1 + x1)), (0, .ref h), (1, .int x0), (2, .int x1)]) dX3_neighbour_10 (by decide) rfl ?_
  refine G_aload_n X dX3_neighbour_11 1 rfl ?_
  refine G_iconst X (v := 1) dX3_neighbour_12 (by decide) ?_
  obtain ⟨v4, h5, h6⟩ := bnd h3
  refine G1_calli X (As := [.int 1]) (rest := []) (wr := []) (ws' := [(h, .inr (3, [.ref h_numbers])), (h_numbers, .inl (cI, 352, .inl f_h_numbers))]) dX3_neighbour_13 pkX3_get gX3_neighbour_X3_get (kkX3_get l D cI cR h h_numbers f_h_numbers 1 v4 h5) ⟨rfl, rfl⟩ ⟨Nat.le_of_ble_eq_true rfl, Nat.le_of_ble_eq_true rfl⟩ rfl rfl (Nat.le_of_ble_eq_true rfl) 0 rfl rfl [0, 1] [] rfl rfl ⟨rfl, rfl, by decide⟩ ⟨Nat.zero_le _, Nat.zero_le _⟩ [0, 1] rfl rfl ?_
  refine G_iconst X (v := 1) dX3_neighbour_16 (by decide) ?_
  refine G_isub X dX3_neighbour_17 ?_
  refine G_istore X (lv' := [(4, .int (v4 - 1)), (3, .int (v1 + x1)), (0, .ref h), (1, .int x0), (2, .int x1)]) dX3_neighbour_18 (by decide) rfl ?_
  refine G_iload_n X dX3_neighbour_20 1 rfl ?_
  obtain ⟨j7, h8, h9⟩ := bnd h6
  have J10 : G p l e rmX3_neighbour s m args below meth c D A 5 Q 0 0 38 [(0, .ref h), (3, .int j7)] [] [(h, .inr (3, [.ref h_numbers])), (h_numbers, .inl (cI, 352, .inl f_h_numbers))] := by
    refine G_aload_n X dX3_neighbour_38 0 rfl ?_
    refine G_bipush X (v := 19) dX3_neighbour_39 (by decide) ?_
    refine G_iload_n X dX3_neighbour_41 1 rfl ?_
    refine G_iadd X dX3_neighbour_42 ?_
    obtain ⟨v11, h12, h13⟩ := bnd h9
    refine G1_calli X (As := [.int (19 + j7)]) (rest := []) (wr := []) (ws' := [(h, .inr (3, [.ref h_numbers])), (h_numbers, .inl (cI, 352, .inl f_h_numbers))]) dX3_neighbour_43 pkX3_get gX3_neighbour_X3_get (kkX3_get l D cI cR h h_numbers f_h_numbers (19 + j7) v11 h12) ⟨rfl, rfl⟩ ⟨Nat.le_of_ble_eq_true rfl, Nat.le_of_ble_eq_true rfl⟩ rfl rfl (Nat.le_of_ble_eq_true rfl) 0 rfl rfl [0, 1] [] rfl rfl ⟨rfl, rfl, by decide⟩ ⟨Nat.zero_le _, Nat.zero_le _⟩ [0, 1] rfl rfl ?_
    cases h13
    exact rt _ _ _ _ dX3_neighbour_46 ⟨rfl, rfl⟩
  refine G_if_ge X (tgt := 30) dX3_neighbour_21 (by decide) (fun h14 => ?_) (fun h14 => ?_)
  · have h15 := ifp h14 h8
    refine G_iload_n X dX3_neighbour_30 1 rfl ?_
    refine G_iload X dX3_neighbour_31 0 rfl ?_
    refine G_icmp_le X (tgt := 38) dX3_neighbour_33 (by decide) (fun h16 => ?_) (fun h16 => ?_)
    · have h17 := ifp h16 h15
      cases h17
      exact G_lv [2, 1] rfl (J10)
    · have h18 := ifn h16 h15
      refine G_iconst X (v := 0) dX3_neighbour_36 (by decide) ?_
      refine G_istore_n X (lv' := [(3, .int 0), (4, .int (v4 - 1)), (0, .ref h), (1, .int x0), (2, .int x1)]) dX3_neighbour_37 (by decide) rfl ?_
      cases h18
      exact G_lv [2, 0] rfl (J10)
  · have h19 := ifn h14 h8
    refine G_iload X dX3_neighbour_24 0 rfl ?_
    refine G_istore_n X (lv' := [(3, .int (v4 - 1)), (4, .int (v4 - 1)), (0, .ref h), (1, .int x0), (2, .int x1)]) dX3_neighbour_26 (by decide) rfl ?_
    refine G_goto X (tgt := 38) dX3_neighbour_27 (by decide) ?_
    cases h19
    exact G_lv [2, 0] rfl (J10)
def rmX3_stepToHolder : Room := { frames := 0, cells := 0, slots := 0, locals := 0 }
theorem pkX3_stepToHolder : cK yX3_stepToHolder wsX3_stepToHolder cX3_stepToHolder 1 (some .int) 1 RX3 := ⟨⟨_, rfl⟩, by decide +kernel⟩
set_option maxHeartbeats 4000000 in
set_option maxRecDepth 100000 in
theorem kkX3_stepToHolder (l : Launch) (D : va_G) (cI cR : ClassId) (x0 : Int32) (z : Int32) (hz : MX3_stepToHolder x0 = some z) : cI1 l yX3_stepToHolder wsX3_stepToHolder rmX3_stepToHolder D cI cR [.int x0] [] z [] := by
  unfold MX3_stepToHolder at hz
  refine kI_of (cc := cX3_stepToHolder) (maxL := 1) (own := RX3) (by decide +kernel) rfl rfl (Nat.le_of_ble_eq_true rfl) (lv0 := [(0, .int x0)]) rfl (fun p e s m args below meth c A Q X rt => ?_)
  refine G_iload_n X dX3_stepToHolder_0 0 rfl ?_
  refine G_iconst X (v := 2) dX3_stepToHolder_1 (by decide) ?_
  refine G_irem X dX3_stepToHolder_2 (by decide) ?_
  refine G_if_ne X (tgt := 10) dX3_stepToHolder_3 (by decide) (fun h1 => ?_) (fun h1 => ?_)
  · have h2 := ifp h1 hz
    refine G_iconst X (v := (-1)) dX3_stepToHolder_6 (by decide) ?_
    refine G_goto X (tgt := 11) dX3_stepToHolder_7 (by decide) ?_
    cases h2
    exact rt _ _ _ _ dX3_stepToHolder_11 ⟨rfl, rfl⟩
  · have h3 := ifn h1 hz
    refine G_iconst X (v := 1) dX3_stepToHolder_10 (by decide) ?_
    cases h3
    exact rt _ _ _ _ dX3_stepToHolder_11 ⟨rfl, rfl⟩
def rmX3_freshEcho : Room := { frames := 2, cells := 0, slots := 0, locals := 45 }
theorem pkX3_freshEcho : cK yX3_freshEcho wsX3_freshEcho cX3_freshEcho 8 (some .int) 2 RX3 := ⟨⟨_, rfl⟩, by decide +kernel⟩
set_option maxHeartbeats 4000000 in
set_option maxRecDepth 100000 in
theorem kkX3_freshEcho (l : Launch) (D : va_G) (cI cR : ClassId) (h h_numbers : Nat) (f_h_numbers : Nat → Int32) (x0 : Int32) (x1 : Int32) (z : Int32) (hz : MX3_freshEcho f_h_numbers x0 x1 = some z) : cI1 l yX3_freshEcho wsX3_freshEcho rmX3_freshEcho D cI cR [.ref h, .int x0, .int x1] [(h, .inr (3, [.ref h_numbers])), (h_numbers, .inl (cI, 352, .inl f_h_numbers))] z [(h, .inr (3, [.ref h_numbers])), (h_numbers, .inl (cI, 352, .inl f_h_numbers))] := by
  unfold MX3_freshEcho at hz
  refine kI_of (cc := cX3_freshEcho) (maxL := 8) (own := RX3) (by decide +kernel) rfl rfl (Nat.le_of_ble_eq_true rfl) (lv0 := [(0, .ref h), (1, .int x0), (2, .int x1)]) rfl (fun p e s m args below meth c A Q X rt => ?_)
  refine G_aload_n X dX3_freshEcho_0 0 rfl ?_
  refine G_iload_n X dX3_freshEcho_1 1 rfl ?_
  refine G_iload_n X dX3_freshEcho_2 2 rfl ?_
  obtain ⟨v1, h2, h3⟩ := bnd hz
  refine G1_callsi X (As := [.int x1]) (rest := [.int x0, .ref h]) (wr := [(h, .inr (3, [.ref h_numbers])), (h_numbers, .inl (cI, 352, .inl f_h_numbers))]) (ws' := [(h, .inr (3, [.ref h_numbers])), (h_numbers, .inl (cI, 352, .inl f_h_numbers))]) dX3_freshEcho_3 pkX3_stepToHolder gX3_freshEcho_X3_stepToHolder (kkX3_stepToHolder l D cI cR x1 v1 h2) ⟨rfl, rfl⟩ ⟨Nat.le_of_ble_eq_true rfl, Nat.le_of_ble_eq_true rfl⟩ rfl rfl (Nat.le_of_ble_eq_true rfl) [] [0, 1] rfl rfl ⟨rfl, rfl, by decide⟩ ⟨Nat.zero_le _, Nat.zero_le _⟩ [0, 1] rfl rfl ?_
  obtain ⟨v4, h5, h6⟩ := bnd h3
  refine G1_calli X (As := [.int x0, .int v1]) (rest := []) (wr := []) (ws' := [(h, .inr (3, [.ref h_numbers])), (h_numbers, .inl (cI, 352, .inl f_h_numbers))]) dX3_freshEcho_6 pkX3_neighbour gX3_freshEcho_X3_neighbour (kkX3_neighbour l D cI cR h h_numbers f_h_numbers x0 v1 v4 h5) ⟨rfl, rfl⟩ ⟨Nat.le_of_ble_eq_true rfl, Nat.le_of_ble_eq_true rfl⟩ rfl rfl (Nat.le_of_ble_eq_true rfl) 0 rfl rfl [0, 1] [] rfl rfl ⟨rfl, rfl, by decide⟩ ⟨Nat.zero_le _, Nat.zero_le _⟩ [0, 1] rfl rfl ?_
  refine G_istore_n X (lv' := [(3, .int v4), (0, .ref h), (1, .int x0), (2, .int x1)]) dX3_freshEcho_9 (by decide) rfl ?_
  refine G_sipush X (v := 208) dX3_freshEcho_10 (by decide) ?_
  refine G_iload_n X dX3_freshEcho_13 0 rfl ?_
  refine G_bipush X (v := 16) dX3_freshEcho_14 (by decide) ?_
  refine G_imul X dX3_freshEcho_16 ?_
  refine G_iadd X dX3_freshEcho_17 ?_
  refine G_istore X (lv' := [(4, .int (208 + (v4 * 16))), (3, .int v4), (0, .ref h), (1, .int x0), (2, .int x1)]) dX3_freshEcho_18 (by decide) rfl ?_
  refine G_aload_n X dX3_freshEcho_20 2 rfl ?_
  refine G_bipush X (v := 55) dX3_freshEcho_21 (by decide) ?_
  refine G_iload_n X dX3_freshEcho_23 1 rfl ?_
  refine G_iadd X dX3_freshEcho_24 ?_
  obtain ⟨v7, h8, h9⟩ := bnd h6
  refine G1_calli X (As := [.int (55 + v4)]) (rest := []) (wr := []) (ws' := [(h, .inr (3, [.ref h_numbers])), (h_numbers, .inl (cI, 352, .inl f_h_numbers))]) dX3_freshEcho_25 pkX3_get gX3_freshEcho_X3_get (kkX3_get l D cI cR h h_numbers f_h_numbers (55 + v4) v7 h8) ⟨rfl, rfl⟩ ⟨Nat.le_of_ble_eq_true rfl, Nat.le_of_ble_eq_true rfl⟩ rfl rfl (Nat.le_of_ble_eq_true rfl) 0 rfl rfl [0, 1] [] rfl rfl ⟨rfl, rfl, by decide⟩ ⟨Nat.zero_le _, Nat.zero_le _⟩ [0, 1] rfl rfl ?_
  refine G_istore X (lv' := [(5, .int v7), (4, .int (208 + (v4 * 16))), (3, .int v4), (0, .ref h), (1, .int x0), (2, .int x1)]) dX3_freshEcho_28 (by decide) rfl ?_
  refine G_iconst X (v := 0) dX3_freshEcho_30 (by decide) ?_
  refine G_istore X (lv' := [(6, .int 0), (5, .int v7), (4, .int (208 + (v4 * 16))), (3, .int v4), (0, .ref h), (1, .int x0), (2, .int x1)]) dX3_freshEcho_31 (by decide) rfl ?_
  obtain ⟨w12, h13, h14⟩ := bnd h9
  have J19 : ∀ j11, w12 = .inl j11 → G p l e rmX3_freshEcho s m args below meth c D A 8 Q 0 0 87 [] [] [(h, .inr (3, [.ref h_numbers])), (h_numbers, .inl (cI, 352, .inl f_h_numbers))] := by
    intro j11 q
    subst q
    have h20 := cnt_l h14
    refine G_iconst X (v := (-1)) dX3_freshEcho_87 (by decide) ?_
    cases h20
    exact rt _ _ _ _ dX3_freshEcho_88 ⟨rfl, rfl⟩
  refine G_lv [4, 5, 6, 2, 1, 0] rfl ?_
  refine itr_ind (P := fun s10 : Int32 => G p l e rmX3_freshEcho s m args below meth c D A 8 Q 0 0 33 [(0, .ref h), (1, .int x0), (2, .int x1), (4, .int (208 + (v4 * 16))), (5, .int v7), (6, .int s10)] [] [(h, .inr (3, [.ref h_numbers])), (h_numbers, .inl (cI, 352, .inl f_h_numbers))]) (fun s10 o18 h15 h16 h17 => ?_) FU _ h13
  unfold SX3_freshEcho_33 at h15
  refine G_iload X dX3_freshEcho_33 5 rfl ?_
  refine G_iload X dX3_freshEcho_35 4 rfl ?_
  refine G_icmp_ge X (tgt := 87) dX3_freshEcho_37 (by decide) (fun h21 => ?_) (fun h21 => ?_)
  · have h22 := ifp h21 h15
    cases h22
    have h23 := h17 _ rfl
    subst h23
    exact G_lv [] rfl (J19 _ rfl)
  · have h24 := ifn h21 h15
    refine G_aload_n X dX3_freshEcho_40 0 rfl ?_
    refine G_iload X dX3_freshEcho_41 3 rfl ?_
    refine G_iload X dX3_freshEcho_43 5 rfl ?_
    refine G_iadd X dX3_freshEcho_45 ?_
    obtain ⟨v25, h26, h27⟩ := bnd h24
    refine G1_calli X (As := [.int ((208 + (v4 * 16)) + s10)]) (rest := []) (wr := []) (ws' := [(h, .inr (3, [.ref h_numbers])), (h_numbers, .inl (cI, 352, .inl f_h_numbers))]) dX3_freshEcho_46 pkX3_get gX3_freshEcho_X3_get (kkX3_get l D cI cR h h_numbers f_h_numbers ((208 + (v4 * 16)) + s10) v25 h26) ⟨rfl, rfl⟩ ⟨Nat.le_of_ble_eq_true rfl, Nat.le_of_ble_eq_true rfl⟩ rfl rfl (Nat.le_of_ble_eq_true rfl) 0 rfl rfl [0, 1] [] rfl rfl ⟨rfl, rfl, by decide⟩ ⟨Nat.zero_le _, Nat.zero_le _⟩ [0, 1] rfl rfl ?_
    refine G_istore X (lv' := [(7, .int v25), (0, .ref h), (1, .int x0), (2, .int x1), (4, .int (208 + (v4 * 16))), (5, .int v7), (6, .int s10)]) dX3_freshEcho_49 (by decide) rfl ?_
    refine G_iload X dX3_freshEcho_51 0 rfl ?_
    obtain ⟨v28, h29, h30⟩ := bnd h27
    refine G1_callsi X (As := [.int v25]) (rest := []) (wr := [(h, .inr (3, [.ref h_numbers])), (h_numbers, .inl (cI, 352, .inl f_h_numbers))]) (ws' := [(h, .inr (3, [.ref h_numbers])), (h_numbers, .inl (cI, 352, .inl f_h_numbers))]) dX3_freshEcho_53 pkX3_ownerOf gX3_freshEcho_X3_ownerOf (kkX3_ownerOf l D cI cR v25 v28 h29) ⟨rfl, rfl⟩ ⟨Nat.le_of_ble_eq_true rfl, Nat.le_of_ble_eq_true rfl⟩ rfl rfl (Nat.le_of_ble_eq_true rfl) [] [0, 1] rfl rfl ⟨rfl, rfl, by decide⟩ ⟨Nat.zero_le _, Nat.zero_le _⟩ [0, 1] rfl rfl ?_
    refine G_iload_n X dX3_freshEcho_56 2 rfl ?_
    refine G_bipush X (v := 8) dX3_freshEcho_57 (by decide) ?_
    refine G_imul X dX3_freshEcho_59 ?_
    refine G_iload_n X dX3_freshEcho_60 3 rfl ?_
    refine G_iadd X dX3_freshEcho_61 ?_
    refine G_icmp_ne X (tgt := 81) dX3_freshEcho_62 (by decide) (fun h31 => ?_) (fun h31 => ?_)
    · have h32 := ifp h31 h30
      refine G_aload_n X dX3_freshEcho_65 1 rfl ?_
      refine G_iload X dX3_freshEcho_66 0 rfl ?_
      obtain ⟨v33, h34, h35⟩ := bnd h32
      refine G1_calli X (As := [.int v25]) (rest := []) (wr := []) (ws' := [(h, .inr (3, [.ref h_numbers])), (h_numbers, .inl (cI, 352, .inl f_h_numbers))]) dX3_freshEcho_68 pkX3_isFaded gX3_freshEcho_X3_isFaded (kkX3_isFaded l D cI cR h h_numbers f_h_numbers v25 v33 h34) ⟨rfl, rfl⟩ ⟨Nat.le_of_ble_eq_true rfl, Nat.le_of_ble_eq_true rfl⟩ rfl rfl (Nat.le_of_ble_eq_true rfl) 0 rfl rfl [0, 1] [] rfl rfl ⟨rfl, rfl, by decide⟩ ⟨Nat.zero_le _, Nat.zero_le _⟩ [0, 1] rfl rfl ?_
      refine G_if_eq X (tgt := 78) dX3_freshEcho_71 (by decide) (fun h36 => ?_) (fun h36 => ?_)
      · have h37 := ifp h36 h35
        refine G_iload X dX3_freshEcho_78 0 rfl ?_
        cases h37
        have h38 := h17 _ rfl
        subst h38
        have h39 := congrArg some (cnt_r h14)
        cases h39
        exact rt _ _ _ _ dX3_freshEcho_80 ⟨rfl, rfl⟩
      · have h40 := ifn h36 h35
        refine G_iconst X (v := (-1)) dX3_freshEcho_74 (by decide) ?_
        refine G_goto X (tgt := 80) dX3_freshEcho_75 (by decide) ?_
        cases h40
        have h41 := h17 _ rfl
        subst h41
        have h42 := congrArg some (cnt_r h14)
        cases h42
        exact rt _ _ _ _ dX3_freshEcho_80 ⟨rfl, rfl⟩
    · have h43 := ifn h31 h30
      refine G_iinc X (v := (s10 + 1)) (lv' := [(6, .int (s10 + 1)), (7, .int v25), (0, .ref h), (1, .int x0), (2, .int x1), (4, .int (208 + (v4 * 16))), (5, .int v7)]) dX3_freshEcho_81 6 rfl rfl (by decide) rfl ?_
      refine G_goto X (tgt := 33) dX3_freshEcho_84 (by decide) ?_
      cases h43
      exact G_lv [2, 3, 4, 5, 6, 0] rfl (h16 _ rfl)
def rmX3_comingBack : Room := { frames := 3, cells := 0, slots := 0, locals := 72 }
theorem pkX3_comingBack : cK yX3_comingBack wsX3_comingBack cX3_comingBack 5 (some .int) 1 RX3 := ⟨⟨_, rfl⟩, by decide +kernel⟩
set_option maxHeartbeats 4000000 in
set_option maxRecDepth 100000 in
theorem kkX3_comingBack (l : Launch) (D : va_G) (cI cR : ClassId) (h h_numbers : Nat) (f_h_numbers : Nat → Int32) (x0 : Int32) (z : Int32) (hz : MX3_comingBack f_h_numbers x0 = some z) : cI1 l yX3_comingBack wsX3_comingBack rmX3_comingBack D cI cR [.ref h, .int x0] [(h, .inr (3, [.ref h_numbers])), (h_numbers, .inl (cI, 352, .inl f_h_numbers))] z [(h, .inr (3, [.ref h_numbers])), (h_numbers, .inl (cI, 352, .inl f_h_numbers))] := by
  unfold MX3_comingBack at hz
  refine kI_of (cc := cX3_comingBack) (maxL := 5) (own := RX3) (by decide +kernel) rfl rfl (Nat.le_of_ble_eq_true rfl) (lv0 := [(0, .ref h), (1, .int x0)]) rfl (fun p e s m args below meth c A Q X rt => ?_)
  refine G_iconst X (v := 0) dX3_comingBack_0 (by decide) ?_
  refine G_istore_n X (lv' := [(2, .int 0), (0, .ref h), (1, .int x0)]) dX3_comingBack_1 (by decide) rfl ?_
  refine G_iconst X (v := 0) dX3_comingBack_2 (by decide) ?_
  refine G_istore_n X (lv' := [(3, .int 0), (2, .int 0), (0, .ref h), (1, .int x0)]) dX3_comingBack_3 (by decide) rfl ?_
  obtain ⟨j2, h3, h4⟩ := bnd hz
  have J9 : G p l e rmX3_comingBack s m args below meth c D A 5 Q 0 0 54 [(2, .int j2)] [] [(h, .inr (3, [.ref h_numbers])), (h_numbers, .inl (cI, 352, .inl f_h_numbers))] := by
    refine G_iload_n X dX3_comingBack_54 0 rfl ?_
    cases h4
    exact rt _ _ _ _ dX3_comingBack_55 ⟨rfl, rfl⟩
  refine G_lv [2, 3, 1, 0] rfl ?_
  refine itr_ind (P := fun s1 : (Int32 × Int32) => G p l e rmX3_comingBack s m args below meth c D A 5 Q 0 0 4 [(0, .ref h), (1, .int x0), (2, .int s1.1), (3, .int s1.2)] [] [(h, .inr (3, [.ref h_numbers])), (h_numbers, .inl (cI, 352, .inl f_h_numbers))]) (fun s1 o8 h5 h6 h7 => ?_) FU _ h3
  unfold SX3_comingBack_4 at h5
  refine G_iload_n X dX3_comingBack_4 3 rfl ?_
  refine G_bipush X (v := 8) dX3_comingBack_5 (by decide) ?_
  refine G_icmp_ge X (tgt := 54) dX3_comingBack_7 (by decide) (fun h11 => ?_) (fun h11 => ?_)
  · have h12 := ifp h11 h5
    cases h12
    have h13 := h7 _ rfl
    subst h13
    exact G_lv [2] rfl (J9)
  · have h14 := ifn h11 h5
    refine G_aload_n X dX3_comingBack_10 0 rfl ?_
    refine G_iload_n X dX3_comingBack_11 1 rfl ?_
    refine G_iload_n X dX3_comingBack_12 3 rfl ?_
    obtain ⟨v15, h16, h17⟩ := bnd h14
    refine G1_calli X (As := [.int x0, .int s1.2]) (rest := []) (wr := []) (ws' := [(h, .inr (3, [.ref h_numbers])), (h_numbers, .inl (cI, 352, .inl f_h_numbers))]) dX3_comingBack_13 pkX3_freshEcho gX3_comingBack_X3_freshEcho (kkX3_freshEcho l D cI cR h h_numbers f_h_numbers x0 s1.2 v15 h16) ⟨rfl, rfl⟩ ⟨Nat.le_of_ble_eq_true rfl, Nat.le_of_ble_eq_true rfl⟩ rfl rfl (Nat.le_of_ble_eq_true rfl) 0 rfl rfl [0, 1] [] rfl rfl ⟨rfl, rfl, by decide⟩ ⟨Nat.zero_le _, Nat.zero_le _⟩ [0, 1] rfl rfl ?_
    refine G_istore X (lv' := [(4, .int v15), (0, .ref h), (1, .int x0), (2, .int s1.1), (3, .int s1.2)]) dX3_comingBack_16 (by decide) rfl ?_
    refine G_iload X dX3_comingBack_18 0 rfl ?_
    refine G_iconst X (v := (-1)) dX3_comingBack_20 (by decide) ?_
    refine G_icmp_eq X (tgt := 48) dX3_comingBack_21 (by decide) (fun h18 => ?_) (fun h18 => ?_)
    · have h19 := ifp h18 h17
      refine G_iinc X (v := (s1.2 + 1)) (lv' := [(3, .int (s1.2 + 1)), (4, .int v15), (0, .ref h), (1, .int x0), (2, .int s1.1)]) dX3_comingBack_48 4 rfl rfl (by decide) rfl ?_
      refine G_goto X (tgt := 4) dX3_comingBack_51 (by decide) ?_
      cases h19
      exact G_lv [2, 3, 4, 0] rfl (h6 _ rfl)
    · have h20 := ifn h18 h17
      refine G_iload X dX3_comingBack_24 0 rfl ?_
      obtain ⟨v21, h22, h23⟩ := bnd h20
      refine G1_callsi X (As := [.int v15]) (rest := []) (wr := [(h, .inr (3, [.ref h_numbers])), (h_numbers, .inl (cI, 352, .inl f_h_numbers))]) (ws' := [(h, .inr (3, [.ref h_numbers])), (h_numbers, .inl (cI, 352, .inl f_h_numbers))]) dX3_comingBack_26 pkX3_valueOf gX3_comingBack_X3_valueOf (kkX3_valueOf l D cI cR v15 v21 h22) ⟨rfl, rfl⟩ ⟨Nat.le_of_ble_eq_true rfl, Nat.le_of_ble_eq_true rfl⟩ rfl rfl (Nat.le_of_ble_eq_true rfl) [] [0, 1] rfl rfl ⟨rfl, rfl, by decide⟩ ⟨Nat.zero_le _, Nat.zero_le _⟩ [0, 1] rfl rfl ?_
      refine G_aload_n X dX3_comingBack_29 1 rfl ?_
      refine G_bipush X (v := 64) dX3_comingBack_30 (by decide) ?_
      refine G_iload_n X dX3_comingBack_32 2 rfl ?_
      refine G_bipush X (v := 8) dX3_comingBack_33 (by decide) ?_
      refine G_imul X dX3_comingBack_35 ?_
      refine G_iadd X dX3_comingBack_36 ?_
      refine G_iload_n X dX3_comingBack_37 4 rfl ?_
      refine G_iadd X dX3_comingBack_38 ?_
      obtain ⟨v24, h25, h26⟩ := bnd h23
      refine G1_calli X (As := [.int ((64 + (x0 * 8)) + s1.2)]) (rest := [.int v21]) (wr := []) (ws' := [(h, .inr (3, [.ref h_numbers])), (h_numbers, .inl (cI, 352, .inl f_h_numbers))]) dX3_comingBack_39 pkX3_get gX3_comingBack_X3_get (kkX3_get l D cI cR h h_numbers f_h_numbers ((64 + (x0 * 8)) + s1.2) v24 h25) ⟨rfl, rfl⟩ ⟨Nat.le_of_ble_eq_true rfl, Nat.le_of_ble_eq_true rfl⟩ rfl rfl (Nat.le_of_ble_eq_true rfl) 0 rfl rfl [0, 1] [] rfl rfl ⟨rfl, rfl, by decide⟩ ⟨Nat.zero_le _, Nat.zero_le _⟩ [0, 1] rfl rfl ?_
      refine G_icmp_ne X (tgt := 48) dX3_comingBack_42 (by decide) (fun h27 => ?_) (fun h27 => ?_)
      · have h28 := ifp h27 h26
        refine G_iinc X (v := (s1.1 + 1)) (lv' := [(2, .int (s1.1 + 1)), (4, .int v15), (0, .ref h), (1, .int x0), (3, .int s1.2)]) dX3_comingBack_45 3 rfl rfl (by decide) rfl ?_
        refine G_iinc X (v := (s1.2 + 1)) (lv' := [(3, .int (s1.2 + 1)), (2, .int (s1.1 + 1)), (4, .int v15), (0, .ref h), (1, .int x0)]) dX3_comingBack_48 4 rfl rfl (by decide) rfl ?_
        refine G_goto X (tgt := 4) dX3_comingBack_51 (by decide) ?_
        cases h28
        exact G_lv [3, 4, 1, 0] rfl (h6 _ rfl)
      · have h29 := ifn h27 h26
        refine G_iinc X (v := (s1.2 + 1)) (lv' := [(3, .int (s1.2 + 1)), (4, .int v15), (0, .ref h), (1, .int x0), (2, .int s1.1)]) dX3_comingBack_48 4 rfl rfl (by decide) rfl ?_
        refine G_goto X (tgt := 4) dX3_comingBack_51 (by decide) ?_
        cases h29
        exact G_lv [2, 3, 4, 0] rfl (h6 _ rfl)
def rmX3_removeEcho : Room := { frames := 1, cells := 0, slots := 0, locals := 22 }
theorem pkX3_removeEcho : cK yX3_removeEcho wsX3_removeEcho cX3_removeEcho 8 none 2 RX3 := ⟨⟨_, rfl⟩, by decide +kernel⟩
set_option maxHeartbeats 4000000 in
set_option maxRecDepth 100000 in
theorem kkX3_removeEcho (l : Launch) (D : va_G) (cI cR : ClassId) (h h_numbers : Nat) (f_h_numbers : Nat → Int32) (x0 : Int32) (x1 : Int32) (z : (Nat → Int32)) (hz : MX3_removeEcho f_h_numbers x0 x1 = some z) : cV1 l yX3_removeEcho wsX3_removeEcho rmX3_removeEcho D cI cR [.ref h, .int x0, .int x1] [(h, .inr (3, [.ref h_numbers])), (h_numbers, .inl (cI, 352, .inl f_h_numbers))] [(h, .inr (3, [.ref h_numbers])), (h_numbers, .inl (cI, 352, .inl z))] := by
  unfold MX3_removeEcho at hz
  refine kV_of (cc := cX3_removeEcho) (maxL := 8) (own := RX3) (by decide +kernel) rfl rfl (Nat.le_of_ble_eq_true rfl) (lv0 := [(0, .ref h), (1, .int x0), (2, .int x1)]) rfl (fun p e s m args below meth c A Q X rt => ?_)
  refine G_sipush X (v := 208) dX3_removeEcho_0 (by decide) ?_
  refine G_iload_n X dX3_removeEcho_3 1 rfl ?_
  refine G_bipush X (v := 16) dX3_removeEcho_4 (by decide) ?_
  refine G_imul X dX3_removeEcho_6 ?_
  refine G_iadd X dX3_removeEcho_7 ?_
  refine G_istore_n X (lv' := [(3, .int (208 + (x0 * 16))), (0, .ref h), (1, .int x0), (2, .int x1)]) dX3_removeEcho_8 (by decide) rfl ?_
  refine G_aload_n X dX3_removeEcho_9 1 rfl ?_
  refine G_bipush X (v := 55) dX3_removeEcho_10 (by decide) ?_
  refine G_iload_n X dX3_removeEcho_12 2 rfl ?_
  refine G_iadd X dX3_removeEcho_13 ?_
  obtain ⟨v1, h2, h3⟩ := bnd hz
  refine G1_calli X (As := [.int (55 + x0)]) (rest := []) (wr := []) (ws' := [(h, .inr (3, [.ref h_numbers])), (h_numbers, .inl (cI, 352, .inl f_h_numbers))]) dX3_removeEcho_14 pkX3_get gX3_removeEcho_X3_get (kkX3_get l D cI cR h h_numbers f_h_numbers (55 + x0) v1 h2) ⟨rfl, rfl⟩ ⟨Nat.le_of_ble_eq_true rfl, Nat.le_of_ble_eq_true rfl⟩ rfl rfl (Nat.le_of_ble_eq_true rfl) 0 rfl rfl [0, 1] [] rfl rfl ⟨rfl, rfl, by decide⟩ ⟨Nat.zero_le _, Nat.zero_le _⟩ [0, 1] rfl rfl ?_
  refine G_istore X (lv' := [(4, .int v1), (3, .int (208 + (x0 * 16))), (0, .ref h), (1, .int x0), (2, .int x1)]) dX3_removeEcho_17 (by decide) rfl ?_
  refine G_iconst X (v := 0) dX3_removeEcho_19 (by decide) ?_
  refine G_istore X (lv' := [(5, .int 0), (4, .int v1), (3, .int (208 + (x0 * 16))), (0, .ref h), (1, .int x0), (2, .int x1)]) dX3_removeEcho_20 (by decide) rfl ?_
  refine G_iconst X (v := 0) dX3_removeEcho_22 (by decide) ?_
  refine G_istore X (lv' := [(6, .int 0), (5, .int 0), (4, .int v1), (3, .int (208 + (x0 * 16))), (0, .ref h), (1, .int x0), (2, .int x1)]) dX3_removeEcho_23 (by decide) rfl ?_
  obtain ⟨j5, h6, h7⟩ := bnd h3
  have J12 : G p l e rmX3_removeEcho s m args below meth c D A 8 Q 0 0 70 [(0, .ref h), (1, .int x0), (5, .int j5.1)] [] [(h, .inr (3, [.ref h_numbers])), (h_numbers, .inl (cI, 352, .inl j5.2))] := by
    refine G_aload_n X dX3_removeEcho_70 0 rfl ?_
    refine G_bipush X (v := 55) dX3_removeEcho_71 (by decide) ?_
    refine G_iload_n X dX3_removeEcho_73 1 rfl ?_
    refine G_iadd X dX3_removeEcho_74 ?_
    refine G_iload X dX3_removeEcho_75 2 rfl ?_
    obtain ⟨v14, h15, h16⟩ := bnd h7
    refine G1_callv X (As := [.int (55 + x0), .int j5.1]) (rest := []) (wr := []) (ws' := [(h, .inr (3, [.ref h_numbers])), (h_numbers, .inl (cI, 352, .inl v14))]) dX3_removeEcho_77 pkX3_put gX3_removeEcho_X3_put (kkX3_put l D cI cR h h_numbers j5.2 (55 + x0) j5.1 v14 h15) ⟨rfl, rfl⟩ ⟨Nat.le_of_ble_eq_true rfl, Nat.le_of_ble_eq_true rfl⟩ rfl rfl (Nat.le_of_ble_eq_true rfl) 0 rfl rfl [0, 1] [] rfl rfl ⟨rfl, rfl, by decide⟩ ⟨Nat.zero_le _, Nat.zero_le _⟩ [0, 1] rfl rfl ?_
    cases h16
    exact rt _ _ _ dX3_removeEcho_80 rfl
  refine G_lv [4, 5, 6, 3, 2, 1, 0] rfl ?_
  refine itr_ind (P := fun s4 : (Int32 × Int32 × (Nat → Int32)) => G p l e rmX3_removeEcho s m args below meth c D A 8 Q 0 0 25 [(0, .ref h), (1, .int x0), (2, .int x1), (3, .int (208 + (x0 * 16))), (4, .int v1), (5, .int s4.1), (6, .int s4.2.1)] [] [(h, .inr (3, [.ref h_numbers])), (h_numbers, .inl (cI, 352, .inl s4.2.2))]) (fun s4 o11 h8 h9 h10 => ?_) FU _ h6
  unfold SX3_removeEcho_25 at h8
  refine G_iload X dX3_removeEcho_25 6 rfl ?_
  refine G_iload X dX3_removeEcho_27 4 rfl ?_
  refine G_icmp_ge X (tgt := 70) dX3_removeEcho_29 (by decide) (fun h17 => ?_) (fun h17 => ?_)
  · have h18 := ifp h17 h8
    cases h18
    have h19 := h10 _ rfl
    subst h19
    exact G_lv [0, 1, 5] rfl (J12)
  · have h20 := ifn h17 h8
    refine G_aload_n X dX3_removeEcho_32 0 rfl ?_
    refine G_iload_n X dX3_removeEcho_33 3 rfl ?_
    refine G_iload X dX3_removeEcho_34 6 rfl ?_
    refine G_iadd X dX3_removeEcho_36 ?_
    obtain ⟨v21, h22, h23⟩ := bnd h20
    refine G1_calli X (As := [.int ((208 + (x0 * 16)) + s4.2.1)]) (rest := []) (wr := []) (ws' := [(h, .inr (3, [.ref h_numbers])), (h_numbers, .inl (cI, 352, .inl s4.2.2))]) dX3_removeEcho_37 pkX3_get gX3_removeEcho_X3_get (kkX3_get l D cI cR h h_numbers s4.2.2 ((208 + (x0 * 16)) + s4.2.1) v21 h22) ⟨rfl, rfl⟩ ⟨Nat.le_of_ble_eq_true rfl, Nat.le_of_ble_eq_true rfl⟩ rfl rfl (Nat.le_of_ble_eq_true rfl) 0 rfl rfl [0, 1] [] rfl rfl ⟨rfl, rfl, by decide⟩ ⟨Nat.zero_le _, Nat.zero_le _⟩ [0, 1] rfl rfl ?_
    refine G_istore X (lv' := [(7, .int v21), (0, .ref h), (1, .int x0), (2, .int x1), (3, .int (208 + (x0 * 16))), (4, .int v1), (5, .int s4.1), (6, .int s4.2.1)]) dX3_removeEcho_40 (by decide) rfl ?_
    refine G_iload X dX3_removeEcho_42 0 rfl ?_
    obtain ⟨v24, h25, h26⟩ := bnd h23
    refine G1_callsi X (As := [.int v21]) (rest := []) (wr := [(h, .inr (3, [.ref h_numbers])), (h_numbers, .inl (cI, 352, .inl s4.2.2))]) (ws' := [(h, .inr (3, [.ref h_numbers])), (h_numbers, .inl (cI, 352, .inl s4.2.2))]) dX3_removeEcho_44 pkX3_ownerOf gX3_removeEcho_X3_ownerOf (kkX3_ownerOf l D cI cR v21 v24 h25) ⟨rfl, rfl⟩ ⟨Nat.le_of_ble_eq_true rfl, Nat.le_of_ble_eq_true rfl⟩ rfl rfl (Nat.le_of_ble_eq_true rfl) [] [0, 1] rfl rfl ⟨rfl, rfl, by decide⟩ ⟨Nat.zero_le _, Nat.zero_le _⟩ [0, 1] rfl rfl ?_
    refine G_iload_n X dX3_removeEcho_47 3 rfl ?_
    refine G_icmp_eq X (tgt := 64) dX3_removeEcho_48 (by decide) (fun h27 => ?_) (fun h27 => ?_)
    · have h28 := ifp h27 h26
      refine G_iinc X (v := (s4.2.1 + 1)) (lv' := [(6, .int (s4.2.1 + 1)), (7, .int v21), (0, .ref h), (1, .int x0), (2, .int x1), (3, .int (208 + (x0 * 16))), (4, .int v1), (5, .int s4.1)]) dX3_removeEcho_64 7 rfl rfl (by decide) rfl ?_
      refine G_goto X (tgt := 25) dX3_removeEcho_67 (by decide) ?_
      cases h28
      exact G_lv [2, 3, 4, 5, 6, 7, 0] rfl (h9 _ rfl)
    · have h29 := ifn h27 h26
      refine G_aload_n X dX3_removeEcho_51 1 rfl ?_
      refine G_iload_n X dX3_removeEcho_52 4 rfl ?_
      refine G_iload X dX3_removeEcho_53 6 rfl ?_
      refine G_iadd X dX3_removeEcho_55 ?_
      refine G_iload X dX3_removeEcho_56 0 rfl ?_
      obtain ⟨v30, h31, h32⟩ := bnd h29
      refine G1_callv X (As := [.int ((208 + (x0 * 16)) + s4.1), .int v21]) (rest := []) (wr := []) (ws' := [(h, .inr (3, [.ref h_numbers])), (h_numbers, .inl (cI, 352, .inl v30))]) dX3_removeEcho_58 pkX3_put gX3_removeEcho_X3_put (kkX3_put l D cI cR h h_numbers s4.2.2 ((208 + (x0 * 16)) + s4.1) v21 v30 h31) ⟨rfl, rfl⟩ ⟨Nat.le_of_ble_eq_true rfl, Nat.le_of_ble_eq_true rfl⟩ rfl rfl (Nat.le_of_ble_eq_true rfl) 0 rfl rfl [0, 1] [] rfl rfl ⟨rfl, rfl, by decide⟩ ⟨Nat.zero_le _, Nat.zero_le _⟩ [0, 1] rfl rfl ?_
      refine G_iinc X (v := (s4.1 + 1)) (lv' := [(5, .int (s4.1 + 1)), (7, .int v21), (0, .ref h), (1, .int x0), (2, .int x1), (3, .int (208 + (x0 * 16))), (4, .int v1), (6, .int s4.2.1)]) dX3_removeEcho_61 6 rfl rfl (by decide) rfl ?_
      refine G_iinc X (v := (s4.2.1 + 1)) (lv' := [(6, .int (s4.2.1 + 1)), (5, .int (s4.1 + 1)), (7, .int v21), (0, .ref h), (1, .int x0), (2, .int x1), (3, .int (208 + (x0 * 16))), (4, .int v1)]) dX3_removeEcho_64 7 rfl rfl (by decide) rfl ?_
      refine G_goto X (tgt := 25) dX3_removeEcho_67 (by decide) ?_
      cases h32
      exact G_lv [3, 4, 5, 6, 7, 1, 0] rfl (h9 _ rfl)
def rmX3_dropFirst : Room := { frames := 1, cells := 0, slots := 0, locals := 90 }
theorem pkX3_dropFirst : cK yX3_dropFirst wsX3_dropFirst cX3_dropFirst 6 none 2 RX3 := ⟨⟨_, rfl⟩, by decide +kernel⟩
theorem flX3_dropFirst_m_max : Cond.methodLink RX3 99 Lib.Math.max.name ∈ wsX3_dropFirst := by decide +kernel
theorem flX3_dropFirst_s_max : Cond.static Lib.Math.max.name ∈ wsX3_dropFirst := by decide +kernel
theorem flX3_dropFirst_im : Cond.initialized "java/lang/Math" ∈ wsX3_dropFirst := by decide +kernel
theorem flX3_dropFirst_c_max : Cond.code Lib.Math.max.name Lib.Math.max.code 2 (some .int) ∈ wsX3_dropFirst := by decide +kernel
set_option maxHeartbeats 4000000 in
set_option maxRecDepth 100000 in
theorem kkX3_dropFirst (l : Launch) (D : va_G) (cI cR : ClassId) (h h_numbers : Nat) (f_h_numbers : Nat → Int32) (x0 : Int32) (x1 : Int32) (z : (Nat → Int32)) (hz : MX3_dropFirst f_h_numbers x0 x1 = some z) : cV1 l yX3_dropFirst wsX3_dropFirst rmX3_dropFirst D cI cR [.ref h, .int x0, .int x1] [(h, .inr (3, [.ref h_numbers])), (h_numbers, .inl (cI, 352, .inl f_h_numbers))] [(h, .inr (3, [.ref h_numbers])), (h_numbers, .inl (cI, 352, .inl z))] := by
  unfold MX3_dropFirst at hz
  refine kV_of (cc := cX3_dropFirst) (maxL := 6) (own := RX3) (by decide +kernel) rfl rfl (Nat.le_of_ble_eq_true rfl) (lv0 := [(0, .ref h), (1, .int x0), (2, .int x1)]) rfl (fun p e s m args below meth c A Q X rt => ?_)
  refine G_sipush X (v := 208) dX3_dropFirst_0 (by decide) ?_
  refine G_iload_n X dX3_dropFirst_3 1 rfl ?_
  refine G_bipush X (v := 16) dX3_dropFirst_4 (by decide) ?_
  refine G_imul X dX3_dropFirst_6 ?_
  refine G_iadd X dX3_dropFirst_7 ?_
  refine G_istore_n X (lv' := [(3, .int (208 + (x0 * 16))), (0, .ref h), (1, .int x0), (2, .int x1)]) dX3_dropFirst_8 (by decide) rfl ?_
  refine G_iconst X (v := 0) dX3_dropFirst_9 (by decide) ?_
  refine G_aload_n X dX3_dropFirst_10 1 rfl ?_
  refine G_bipush X (v := 55) dX3_dropFirst_11 (by decide) ?_
  refine G_iload_n X dX3_dropFirst_13 2 rfl ?_
  refine G_iadd X dX3_dropFirst_14 ?_
  obtain ⟨v1, h2, h3⟩ := bnd hz
  refine G1_calli X (As := [.int (55 + x0)]) (rest := [.int 0]) (wr := []) (ws' := [(h, .inr (3, [.ref h_numbers])), (h_numbers, .inl (cI, 352, .inl f_h_numbers))]) dX3_dropFirst_15 pkX3_get gX3_dropFirst_X3_get (kkX3_get l D cI cR h h_numbers f_h_numbers (55 + x0) v1 h2) ⟨rfl, rfl⟩ ⟨Nat.le_of_ble_eq_true rfl, Nat.le_of_ble_eq_true rfl⟩ rfl rfl (Nat.le_of_ble_eq_true rfl) 0 rfl rfl [0, 1] [] rfl rfl ⟨rfl, rfl, by decide⟩ ⟨Nat.zero_le _, Nat.zero_le _⟩ [0, 1] rfl rfl ?_
  refine G_iload_n X dX3_dropFirst_18 3 rfl ?_
  refine G_isub X dX3_dropFirst_19 ?_
  refine G_max X dX3_dropFirst_20 flX3_dropFirst_m_max flX3_dropFirst_s_max flX3_dropFirst_im flX3_dropFirst_c_max (Nat.le_of_ble_eq_true rfl) (Nat.le_of_ble_eq_true rfl) (Nat.zero_le _) (Nat.zero_le _) ?_
  refine G_istore X (lv' := [(4, .int (if 0 < (v1 - x1) then (v1 - x1) else 0)), (3, .int (208 + (x0 * 16))), (0, .ref h), (1, .int x0), (2, .int x1)]) dX3_dropFirst_23 (by decide) rfl ?_
  refine G_iconst X (v := 0) dX3_dropFirst_25 (by decide) ?_
  refine G_istore X (lv' := [(5, .int 0), (4, .int (if 0 < (v1 - x1) then (v1 - x1) else 0)), (3, .int (208 + (x0 * 16))), (0, .ref h), (1, .int x0), (2, .int x1)]) dX3_dropFirst_26 (by decide) rfl ?_
  obtain ⟨j5, h6, h7⟩ := bnd h3
  have J12 : G p l e rmX3_dropFirst s m args below meth c D A 6 Q 0 0 59 [(0, .ref h), (1, .int x0), (4, .int (if 0 < (v1 - x1) then (v1 - x1) else 0))] [] [(h, .inr (3, [.ref h_numbers])), (h_numbers, .inl (cI, 352, .inl j5))] := by
    refine G_aload_n X dX3_dropFirst_59 0 rfl ?_
    refine G_bipush X (v := 55) dX3_dropFirst_60 (by decide) ?_
    refine G_iload_n X dX3_dropFirst_62 1 rfl ?_
    refine G_iadd X dX3_dropFirst_63 ?_
    refine G_iload X dX3_dropFirst_64 2 rfl ?_
    obtain ⟨v14, h15, h16⟩ := bnd h7
    refine G1_callv X (As := [.int (55 + x0), .int (if 0 < (v1 - x1) then (v1 - x1) else 0)]) (rest := []) (wr := []) (ws' := [(h, .inr (3, [.ref h_numbers])), (h_numbers, .inl (cI, 352, .inl v14))]) dX3_dropFirst_66 pkX3_put gX3_dropFirst_X3_put (kkX3_put l D cI cR h h_numbers j5 (55 + x0) (if 0 < (v1 - x1) then (v1 - x1) else 0) v14 h15) ⟨rfl, rfl⟩ ⟨Nat.le_of_ble_eq_true rfl, Nat.le_of_ble_eq_true rfl⟩ rfl rfl (Nat.le_of_ble_eq_true rfl) 0 rfl rfl [0, 1] [] rfl rfl ⟨rfl, rfl, by decide⟩ ⟨Nat.zero_le _, Nat.zero_le _⟩ [0, 1] rfl rfl ?_
    cases h16
    exact rt _ _ _ dX3_dropFirst_69 rfl
  refine G_lv [3, 4, 5, 2, 1, 0] rfl ?_
  refine itr_ind (P := fun s4 : (Int32 × (Nat → Int32)) => G p l e rmX3_dropFirst s m args below meth c D A 6 Q 0 0 28 [(0, .ref h), (1, .int x0), (2, .int x1), (3, .int (208 + (x0 * 16))), (4, .int (if 0 < (v1 - x1) then (v1 - x1) else 0)), (5, .int s4.1)] [] [(h, .inr (3, [.ref h_numbers])), (h_numbers, .inl (cI, 352, .inl s4.2))]) (fun s4 o11 h8 h9 h10 => ?_) FU _ h6
  unfold SX3_dropFirst_28 at h8
  refine G_iload X dX3_dropFirst_28 5 rfl ?_
  refine G_iload X dX3_dropFirst_30 4 rfl ?_
  refine G_icmp_ge X (tgt := 59) dX3_dropFirst_32 (by decide) (fun h17 => ?_) (fun h17 => ?_)
  · have h18 := ifp h17 h8
    cases h18
    have h19 := h10 _ rfl
    subst h19
    exact G_lv [0, 1, 4] rfl (J12)
  · have h20 := ifn h17 h8
    refine G_aload_n X dX3_dropFirst_35 0 rfl ?_
    refine G_iload_n X dX3_dropFirst_36 3 rfl ?_
    refine G_iload X dX3_dropFirst_37 5 rfl ?_
    refine G_iadd X dX3_dropFirst_39 ?_
    refine G_aload_n X dX3_dropFirst_40 0 rfl ?_
    refine G_iload_n X dX3_dropFirst_41 3 rfl ?_
    refine G_iload X dX3_dropFirst_42 5 rfl ?_
    refine G_iadd X dX3_dropFirst_44 ?_
    refine G_iload_n X dX3_dropFirst_45 2 rfl ?_
    refine G_iadd X dX3_dropFirst_46 ?_
    obtain ⟨v21, h22, h23⟩ := bnd h20
    refine G1_calli X (As := [.int (((208 + (x0 * 16)) + s4.1) + x1)]) (rest := [.int ((208 + (x0 * 16)) + s4.1), .ref h]) (wr := []) (ws' := [(h, .inr (3, [.ref h_numbers])), (h_numbers, .inl (cI, 352, .inl s4.2))]) dX3_dropFirst_47 pkX3_get gX3_dropFirst_X3_get (kkX3_get l D cI cR h h_numbers s4.2 (((208 + (x0 * 16)) + s4.1) + x1) v21 h22) ⟨rfl, rfl⟩ ⟨Nat.le_of_ble_eq_true rfl, Nat.le_of_ble_eq_true rfl⟩ rfl rfl (Nat.le_of_ble_eq_true rfl) 0 rfl rfl [0, 1] [] rfl rfl ⟨rfl, rfl, by decide⟩ ⟨Nat.zero_le _, Nat.zero_le _⟩ [0, 1] rfl rfl ?_
    obtain ⟨v24, h25, h26⟩ := bnd h23
    refine G1_callv X (As := [.int ((208 + (x0 * 16)) + s4.1), .int v21]) (rest := []) (wr := []) (ws' := [(h, .inr (3, [.ref h_numbers])), (h_numbers, .inl (cI, 352, .inl v24))]) dX3_dropFirst_50 pkX3_put gX3_dropFirst_X3_put (kkX3_put l D cI cR h h_numbers s4.2 ((208 + (x0 * 16)) + s4.1) v21 v24 h25) ⟨rfl, rfl⟩ ⟨Nat.le_of_ble_eq_true rfl, Nat.le_of_ble_eq_true rfl⟩ rfl rfl (Nat.le_of_ble_eq_true rfl) 0 rfl rfl [0, 1] [] rfl rfl ⟨rfl, rfl, by decide⟩ ⟨Nat.zero_le _, Nat.zero_le _⟩ [0, 1] rfl rfl ?_
    refine G_iinc X (v := (s4.1 + 1)) (lv' := [(5, .int (s4.1 + 1)), (0, .ref h), (1, .int x0), (2, .int x1), (3, .int (208 + (x0 * 16))), (4, .int (if 0 < (v1 - x1) then (v1 - x1) else 0))]) dX3_dropFirst_53 5 rfl rfl (by decide) rfl ?_
    refine G_goto X (tgt := 28) dX3_dropFirst_56 (by decide) ?_
    cases h26
    exact G_lv [1, 2, 3, 4, 5, 0] rfl (h9 _ rfl)
def rmX3_layEcho : Room := { frames := 2, cells := 0, slots := 0, locals := 115 }
theorem pkX3_layEcho : cK yX3_layEcho wsX3_layEcho cX3_layEcho 7 (some .int) 3 RX3 := ⟨⟨_, rfl⟩, by decide +kernel⟩
set_option maxHeartbeats 4000000 in
set_option maxRecDepth 100000 in
theorem kkX3_layEcho (l : Launch) (D : va_G) (cI cR : ClassId) (h h_numbers : Nat) (f_h_numbers : Nat → Int32) (x0 : Int32) (x1 : Int32) (x2 : Int32) (z : (Int32 × (Nat → Int32))) (hz : MX3_layEcho f_h_numbers x0 x1 x2 = some z) : cI1 l yX3_layEcho wsX3_layEcho rmX3_layEcho D cI cR [.ref h, .int x0, .int x1, .int x2] [(h, .inr (3, [.ref h_numbers])), (h_numbers, .inl (cI, 352, .inl f_h_numbers))] z.1 [(h, .inr (3, [.ref h_numbers])), (h_numbers, .inl (cI, 352, .inl z.2))] := by
  unfold MX3_layEcho at hz
  refine kI_of (cc := cX3_layEcho) (maxL := 7) (own := RX3) (by decide +kernel) rfl rfl (Nat.le_of_ble_eq_true rfl) (lv0 := [(0, .ref h), (1, .int x0), (2, .int x1), (3, .int x2)]) rfl (fun p e s m args below meth c A Q X rt => ?_)
  refine G_iload_n X dX3_layEcho_0 1 rfl ?_
  refine G_bipush X (v := 8) dX3_layEcho_1 (by decide) ?_
  refine G_imul X dX3_layEcho_3 ?_
  refine G_iload_n X dX3_layEcho_4 2 rfl ?_
  refine G_iadd X dX3_layEcho_5 ?_
  refine G_istore X (lv' := [(4, .int ((x0 * 8) + x1)), (0, .ref h), (1, .int x0), (2, .int x1), (3, .int x2)]) dX3_layEcho_6 (by decide) rfl ?_
  refine G_aload_n X dX3_layEcho_8 1 rfl ?_
  refine G_bipush X (v := 64) dX3_layEcho_9 (by decide) ?_
  refine G_iload X dX3_layEcho_11 0 rfl ?_
  refine G_iadd X dX3_layEcho_13 ?_
  obtain ⟨v1, h2, h3⟩ := bnd hz
  refine G1_calli X (As := [.int (64 + ((x0 * 8) + x1))]) (rest := []) (wr := []) (ws' := [(h, .inr (3, [.ref h_numbers])), (h_numbers, .inl (cI, 352, .inl f_h_numbers))]) dX3_layEcho_14 pkX3_get gX3_layEcho_X3_get (kkX3_get l D cI cR h h_numbers f_h_numbers (64 + ((x0 * 8) + x1)) v1 h2) ⟨rfl, rfl⟩ ⟨Nat.le_of_ble_eq_true rfl, Nat.le_of_ble_eq_true rfl⟩ rfl rfl (Nat.le_of_ble_eq_true rfl) 0 rfl rfl [0, 1] [] rfl rfl ⟨rfl, rfl, by decide⟩ ⟨Nat.zero_le _, Nat.zero_le _⟩ [0, 1] rfl rfl ?_
  refine G_istore X (lv' := [(5, .int v1), (4, .int ((x0 * 8) + x1)), (0, .ref h), (1, .int x0), (2, .int x1), (3, .int x2)]) dX3_layEcho_17 (by decide) rfl ?_
  refine G_iload X dX3_layEcho_19 0 rfl ?_
  refine G_iconst X (v := (-1)) dX3_layEcho_21 (by decide) ?_
  refine G_icmp_eq X (tgt := 33) dX3_layEcho_22 (by decide) (fun h4 => ?_) (fun h4 => ?_)
  · have h5 := ifp h4 h3
    refine G_iconst X (v := 0) dX3_layEcho_33 (by decide) ?_
    cases h5
    exact rt _ _ _ _ dX3_layEcho_34 ⟨rfl, rfl⟩
  · have h6 := ifn h4 h3
    refine G_aload_n X dX3_layEcho_25 2 rfl ?_
    refine G_iload_n X dX3_layEcho_26 5 rfl ?_
    obtain ⟨v7, h8, h9⟩ := bnd h6
    refine G1_calli X (As := [.int x2]) (rest := []) (wr := []) (ws' := [(h, .inr (3, [.ref h_numbers])), (h_numbers, .inl (cI, 352, .inl f_h_numbers))]) dX3_layEcho_27 pkX3_lives gX3_layEcho_X3_lives (kkX3_lives l D cI cR h h_numbers f_h_numbers x2 v7 h8) ⟨rfl, rfl⟩ ⟨Nat.le_of_ble_eq_true rfl, Nat.le_of_ble_eq_true rfl⟩ rfl rfl (Nat.le_of_ble_eq_true rfl) 0 rfl rfl [0, 1] [] rfl rfl ⟨rfl, rfl, by decide⟩ ⟨Nat.zero_le _, Nat.zero_le _⟩ [0, 1] rfl rfl ?_
    refine G_if_ne X (tgt := 35) dX3_layEcho_30 (by decide) (fun h10 => ?_) (fun h10 => ?_)
    · have h11 := ifp h10 h9
      refine G_iconst X (v := 0) dX3_layEcho_33 (by decide) ?_
      cases h11
      exact rt _ _ _ _ dX3_layEcho_34 ⟨rfl, rfl⟩
    · have h12 := ifn h10 h9
      refine G_aload_n X dX3_layEcho_35 2 rfl ?_
      refine G_iload_n X dX3_layEcho_36 5 rfl ?_
      refine G_iload X dX3_layEcho_37 1 rfl ?_
      obtain ⟨v13, h14, h15⟩ := bnd h12
      refine G1_callv X (As := [.int x2, .int ((x0 * 8) + x1)]) (rest := []) (wr := []) (ws' := [(h, .inr (3, [.ref h_numbers])), (h_numbers, .inl (cI, 352, .inl v13))]) dX3_layEcho_39 pkX3_removeEcho gX3_layEcho_X3_removeEcho (kkX3_removeEcho l D cI cR h h_numbers f_h_numbers x2 ((x0 * 8) + x1) v13 h14) ⟨rfl, rfl⟩ ⟨Nat.le_of_ble_eq_true rfl, Nat.le_of_ble_eq_true rfl⟩ rfl rfl (Nat.le_of_ble_eq_true rfl) 0 rfl rfl [0, 1] [] rfl rfl ⟨rfl, rfl, by decide⟩ ⟨Nat.zero_le _, Nat.zero_le _⟩ [0, 1] rfl rfl ?_
      refine G_aload_n X dX3_layEcho_42 2 rfl ?_
      refine G_bipush X (v := 55) dX3_layEcho_43 (by decide) ?_
      refine G_iload_n X dX3_layEcho_45 5 rfl ?_
      refine G_iadd X dX3_layEcho_46 ?_
      obtain ⟨v16, h17, h18⟩ := bnd h15
      refine G1_calli X (As := [.int (55 + x2)]) (rest := []) (wr := []) (ws' := [(h, .inr (3, [.ref h_numbers])), (h_numbers, .inl (cI, 352, .inl v13))]) dX3_layEcho_47 pkX3_get gX3_layEcho_X3_get (kkX3_get l D cI cR h h_numbers v13 (55 + x2) v16 h17) ⟨rfl, rfl⟩ ⟨Nat.le_of_ble_eq_true rfl, Nat.le_of_ble_eq_true rfl⟩ rfl rfl (Nat.le_of_ble_eq_true rfl) 0 rfl rfl [0, 1] [] rfl rfl ⟨rfl, rfl, by decide⟩ ⟨Nat.zero_le _, Nat.zero_le _⟩ [0, 1] rfl rfl ?_
      refine G_iconst X (v := 1) dX3_layEcho_50 (by decide) ?_
      refine G_iadd X dX3_layEcho_51 ?_
      refine G_aload_n X dX3_layEcho_52 2 rfl ?_
      refine G_iconst X (v := 2) dX3_layEcho_53 (by decide) ?_
      obtain ⟨v19, h20, h21⟩ := bnd h18
      refine G1_calli X (As := [.int 2]) (rest := [.int (v16 + 1)]) (wr := []) (ws' := [(h, .inr (3, [.ref h_numbers])), (h_numbers, .inl (cI, 352, .inl v13))]) dX3_layEcho_54 pkX3_get gX3_layEcho_X3_get (kkX3_get l D cI cR h h_numbers v13 2 v19 h20) ⟨rfl, rfl⟩ ⟨Nat.le_of_ble_eq_true rfl, Nat.le_of_ble_eq_true rfl⟩ rfl rfl (Nat.le_of_ble_eq_true rfl) 0 rfl rfl [0, 1] [] rfl rfl ⟨rfl, rfl, by decide⟩ ⟨Nat.zero_le _, Nat.zero_le _⟩ [0, 1] rfl rfl ?_
      refine G_isub X dX3_layEcho_57 ?_
      refine G_istore X (lv' := [(6, .int ((v16 + 1) - v19)), (5, .int v1), (4, .int ((x0 * 8) + x1)), (0, .ref h), (1, .int x0), (2, .int x1), (3, .int x2)]) dX3_layEcho_58 (by decide) rfl ?_
      refine G_iload X dX3_layEcho_60 0 rfl ?_
      obtain ⟨j22, h23, h24⟩ := bnd h21
      have J25 : G p l e rmX3_layEcho s m args below meth c D A 7 Q 0 0 82 [(0, .ref h), (3, .int x2), (4, .int ((x0 * 8) + x1)), (5, .int v1)] [] [(h, .inr (3, [.ref h_numbers])), (h_numbers, .inl (cI, 352, .inl j22))] := by
        refine G_aload_n X dX3_layEcho_82 0 rfl ?_
        refine G_sipush X (v := 208) dX3_layEcho_83 (by decide) ?_
        refine G_iload_n X dX3_layEcho_86 1 rfl ?_
        refine G_bipush X (v := 16) dX3_layEcho_87 (by decide) ?_
        refine G_imul X dX3_layEcho_89 ?_
        refine G_iadd X dX3_layEcho_90 ?_
        refine G_aload_n X dX3_layEcho_91 0 rfl ?_
        refine G_bipush X (v := 55) dX3_layEcho_92 (by decide) ?_
        refine G_iload_n X dX3_layEcho_94 1 rfl ?_
        refine G_iadd X dX3_layEcho_95 ?_
        obtain ⟨v26, h27, h28⟩ := bnd h24
        refine G1_calli X (As := [.int (55 + x2)]) (rest := [.int (208 + (x2 * 16)), .ref h]) (wr := []) (ws' := [(h, .inr (3, [.ref h_numbers])), (h_numbers, .inl (cI, 352, .inl j22))]) dX3_layEcho_96 pkX3_get gX3_layEcho_X3_get (kkX3_get l D cI cR h h_numbers j22 (55 + x2) v26 h27) ⟨rfl, rfl⟩ ⟨Nat.le_of_ble_eq_true rfl, Nat.le_of_ble_eq_true rfl⟩ rfl rfl (Nat.le_of_ble_eq_true rfl) 0 rfl rfl [0, 1] [] rfl rfl ⟨rfl, rfl, by decide⟩ ⟨Nat.zero_le _, Nat.zero_le _⟩ [0, 1] rfl rfl ?_
        refine G_iadd X dX3_layEcho_99 ?_
        refine G_iload X dX3_layEcho_100 2 rfl ?_
        refine G_iload X dX3_layEcho_102 3 rfl ?_
        refine G_aload_n X dX3_layEcho_104 0 rfl ?_
        refine G_iconst X (v := 0) dX3_layEcho_105 (by decide) ?_
        obtain ⟨v29, h30, h31⟩ := bnd h28
        refine G1_calli X (As := [.int 0]) (rest := [.int v1, .int ((x0 * 8) + x1), .int ((208 + (x2 * 16)) + v26), .ref h]) (wr := []) (ws' := [(h, .inr (3, [.ref h_numbers])), (h_numbers, .inl (cI, 352, .inl j22))]) dX3_layEcho_106 pkX3_get gX3_layEcho_X3_get (kkX3_get l D cI cR h h_numbers j22 0 v29 h30) ⟨rfl, rfl⟩ ⟨Nat.le_of_ble_eq_true rfl, Nat.le_of_ble_eq_true rfl⟩ rfl rfl (Nat.le_of_ble_eq_true rfl) 0 rfl rfl [0, 1] [] rfl rfl ⟨rfl, rfl, by decide⟩ ⟨Nat.zero_le _, Nat.zero_le _⟩ [0, 1] rfl rfl ?_
        obtain ⟨v32, h33, h34⟩ := bnd h31
        refine G1_callsi X (As := [.int ((x0 * 8) + x1), .int v1, .int v29]) (rest := [.int ((208 + (x2 * 16)) + v26), .ref h]) (wr := [(h, .inr (3, [.ref h_numbers])), (h_numbers, .inl (cI, 352, .inl j22))]) (ws' := [(h, .inr (3, [.ref h_numbers])), (h_numbers, .inl (cI, 352, .inl j22))]) dX3_layEcho_109 pkX3_echo gX3_layEcho_X3_echo (kkX3_echo l D cI cR ((x0 * 8) + x1) v1 v29 v32 h33) ⟨rfl, rfl⟩ ⟨Nat.le_of_ble_eq_true rfl, Nat.le_of_ble_eq_true rfl⟩ rfl rfl (Nat.le_of_ble_eq_true rfl) [] [0, 1] rfl rfl ⟨rfl, rfl, by decide⟩ ⟨Nat.zero_le _, Nat.zero_le _⟩ [0, 1] rfl rfl ?_
        obtain ⟨v35, h36, h37⟩ := bnd h34
        refine G1_callv X (As := [.int ((208 + (x2 * 16)) + v26), .int v32]) (rest := []) (wr := []) (ws' := [(h, .inr (3, [.ref h_numbers])), (h_numbers, .inl (cI, 352, .inl v35))]) dX3_layEcho_112 pkX3_put gX3_layEcho_X3_put (kkX3_put l D cI cR h h_numbers j22 ((208 + (x2 * 16)) + v26) v32 v35 h36) ⟨rfl, rfl⟩ ⟨Nat.le_of_ble_eq_true rfl, Nat.le_of_ble_eq_true rfl⟩ rfl rfl (Nat.le_of_ble_eq_true rfl) 0 rfl rfl [0, 1] [] rfl rfl ⟨rfl, rfl, by decide⟩ ⟨Nat.zero_le _, Nat.zero_le _⟩ [0, 1] rfl rfl ?_
        refine G_aload_n X dX3_layEcho_115 0 rfl ?_
        refine G_bipush X (v := 55) dX3_layEcho_116 (by decide) ?_
        refine G_iload_n X dX3_layEcho_118 1 rfl ?_
        refine G_iadd X dX3_layEcho_119 ?_
        refine G_iconst X (v := 1) dX3_layEcho_120 (by decide) ?_
        obtain ⟨v38, h39, h40⟩ := bnd h37
        refine G1_callv X (As := [.int (55 + x2), .int 1]) (rest := []) (wr := []) (ws' := [(h, .inr (3, [.ref h_numbers])), (h_numbers, .inl (cI, 352, .inl v38))]) dX3_layEcho_121 pkX3_add gX3_layEcho_X3_add (kkX3_add l D cI cR h h_numbers v35 (55 + x2) 1 v38 h39) ⟨rfl, rfl⟩ ⟨Nat.le_of_ble_eq_true rfl, Nat.le_of_ble_eq_true rfl⟩ rfl rfl (Nat.le_of_ble_eq_true rfl) 0 rfl rfl [0, 1] [] rfl rfl ⟨rfl, rfl, by decide⟩ ⟨Nat.zero_le _, Nat.zero_le _⟩ [0, 1] rfl rfl ?_
        refine G_aload_n X dX3_layEcho_124 0 rfl ?_
        refine G_bipush X (v := 9) dX3_layEcho_125 (by decide) ?_
        refine G_iconst X (v := 1) dX3_layEcho_127 (by decide) ?_
        obtain ⟨v41, h42, h43⟩ := bnd h40
        refine G1_callv X (As := [.int 9, .int 1]) (rest := []) (wr := []) (ws' := [(h, .inr (3, [.ref h_numbers])), (h_numbers, .inl (cI, 352, .inl v41))]) dX3_layEcho_128 pkX3_add gX3_layEcho_X3_add (kkX3_add l D cI cR h h_numbers v38 9 1 v41 h42) ⟨rfl, rfl⟩ ⟨Nat.le_of_ble_eq_true rfl, Nat.le_of_ble_eq_true rfl⟩ rfl rfl (Nat.le_of_ble_eq_true rfl) 0 rfl rfl [0, 1] [] rfl rfl ⟨rfl, rfl, by decide⟩ ⟨Nat.zero_le _, Nat.zero_le _⟩ [0, 1] rfl rfl ?_
        refine G_iconst X (v := 1) dX3_layEcho_131 (by decide) ?_
        cases h43
        exact rt _ _ _ _ dX3_layEcho_132 ⟨rfl, rfl⟩
      refine G_if_le X (tgt := 82) dX3_layEcho_62 (by decide) (fun h44 => ?_) (fun h44 => ?_)
      · have h45 := ifp h44 h23
        cases h45
        exact G_lv [3, 6, 2, 1] rfl (J25)
      · have h46 := ifn h44 h23
        refine G_aload_n X dX3_layEcho_65 3 rfl ?_
        refine G_iload_n X dX3_layEcho_66 6 rfl ?_
        refine G_iload X dX3_layEcho_67 0 rfl ?_
        obtain ⟨v47, h48, h49⟩ := bnd h46
        refine G1_callv X (As := [.int x2, .int ((v16 + 1) - v19)]) (rest := []) (wr := []) (ws' := [(h, .inr (3, [.ref h_numbers])), (h_numbers, .inl (cI, 352, .inl v47))]) dX3_layEcho_69 pkX3_dropFirst gX3_layEcho_X3_dropFirst (kkX3_dropFirst l D cI cR h h_numbers v13 x2 ((v16 + 1) - v19) v47 h48) ⟨rfl, rfl⟩ ⟨Nat.le_of_ble_eq_true rfl, Nat.le_of_ble_eq_true rfl⟩ rfl rfl (Nat.le_of_ble_eq_true rfl) 0 rfl rfl [0, 1] [] rfl rfl ⟨rfl, rfl, by decide⟩ ⟨Nat.zero_le _, Nat.zero_le _⟩ [0, 1] rfl rfl ?_
        refine G_aload_n X dX3_layEcho_72 3 rfl ?_
        refine G_bipush X (v := 46) dX3_layEcho_73 (by decide) ?_
        refine G_iload_n X dX3_layEcho_75 6 rfl ?_
        refine G_iadd X dX3_layEcho_76 ?_
        refine G_iload X dX3_layEcho_77 0 rfl ?_
        obtain ⟨v50, h51, h52⟩ := bnd h49
        refine G1_callv X (As := [.int (46 + x2), .int ((v16 + 1) - v19)]) (rest := []) (wr := []) (ws' := [(h, .inr (3, [.ref h_numbers])), (h_numbers, .inl (cI, 352, .inl v50))]) dX3_layEcho_79 pkX3_add gX3_layEcho_X3_add (kkX3_add l D cI cR h h_numbers v47 (46 + x2) ((v16 + 1) - v19) v50 h51) ⟨rfl, rfl⟩ ⟨Nat.le_of_ble_eq_true rfl, Nat.le_of_ble_eq_true rfl⟩ rfl rfl (Nat.le_of_ble_eq_true rfl) 0 rfl rfl [0, 1] [] rfl rfl ⟨rfl, rfl, by decide⟩ ⟨Nat.zero_le _, Nat.zero_le _⟩ [0, 1] rfl rfl ?_
        cases h52
        exact G_lv [3, 6, 2, 1] rfl (J25)
def rmX3_layRow : Room := { frames := 3, cells := 0, slots := 0, locals := 141 }
theorem pkX3_layRow : cK yX3_layRow wsX3_layRow cX3_layRow 6 (some .int) 1 RX3 := ⟨⟨_, rfl⟩, by decide +kernel⟩
set_option maxHeartbeats 4000000 in
set_option maxRecDepth 100000 in
theorem kkX3_layRow (l : Launch) (D : va_G) (cI cR : ClassId) (h h_numbers : Nat) (f_h_numbers : Nat → Int32) (x0 : Int32) (z : (Int32 × (Nat → Int32))) (hz : MX3_layRow f_h_numbers x0 = some z) : cI1 l yX3_layRow wsX3_layRow rmX3_layRow D cI cR [.ref h, .int x0] [(h, .inr (3, [.ref h_numbers])), (h_numbers, .inl (cI, 352, .inl f_h_numbers))] z.1 [(h, .inr (3, [.ref h_numbers])), (h_numbers, .inl (cI, 352, .inl z.2))] := by
  unfold MX3_layRow at hz
  refine kI_of (cc := cX3_layRow) (maxL := 6) (own := RX3) (by decide +kernel) rfl rfl (Nat.le_of_ble_eq_true rfl) (lv0 := [(0, .ref h), (1, .int x0)]) rfl (fun p e s m args below meth c A Q X rt => ?_)
  refine G_aload_n X dX3_layRow_0 0 rfl ?_
  refine G_iload_n X dX3_layRow_1 1 rfl ?_
  obtain ⟨v1, h2, h3⟩ := bnd hz
  refine G1_calli X (As := [.int x0]) (rest := []) (wr := []) (ws' := [(h, .inr (3, [.ref h_numbers])), (h_numbers, .inl (cI, 352, .inl f_h_numbers))]) dX3_layRow_2 pkX3_lives gX3_layRow_X3_lives (kkX3_lives l D cI cR h h_numbers f_h_numbers x0 v1 h2) ⟨rfl, rfl⟩ ⟨Nat.le_of_ble_eq_true rfl, Nat.le_of_ble_eq_true rfl⟩ rfl rfl (Nat.le_of_ble_eq_true rfl) 0 rfl rfl [0, 1] [] rfl rfl ⟨rfl, rfl, by decide⟩ ⟨Nat.zero_le _, Nat.zero_le _⟩ [0, 1] rfl rfl ?_
  refine G_if_ne X (tgt := 10) dX3_layRow_5 (by decide) (fun h4 => ?_) (fun h4 => ?_)
  · have h5 := ifp h4 h3
    refine G_iconst X (v := 0) dX3_layRow_8 (by decide) ?_
    cases h5
    exact rt _ _ _ _ dX3_layRow_9 ⟨rfl, rfl⟩
  · have h6 := ifn h4 h3
    refine G_aload_n X dX3_layRow_10 0 rfl ?_
    refine G_iload_n X dX3_layRow_11 1 rfl ?_
    refine G_iconst X (v := (-1)) dX3_layRow_12 (by decide) ?_
    obtain ⟨v7, h8, h9⟩ := bnd h6
    refine G1_calli X (As := [.int x0, .int (-1)]) (rest := []) (wr := []) (ws' := [(h, .inr (3, [.ref h_numbers])), (h_numbers, .inl (cI, 352, .inl f_h_numbers))]) dX3_layRow_13 pkX3_neighbour gX3_layRow_X3_neighbour (kkX3_neighbour l D cI cR h h_numbers f_h_numbers x0 (-1) v7 h8) ⟨rfl, rfl⟩ ⟨Nat.le_of_ble_eq_true rfl, Nat.le_of_ble_eq_true rfl⟩ rfl rfl (Nat.le_of_ble_eq_true rfl) 0 rfl rfl [0, 1] [] rfl rfl ⟨rfl, rfl, by decide⟩ ⟨Nat.zero_le _, Nat.zero_le _⟩ [0, 1] rfl rfl ?_
    refine G_istore_n X (lv' := [(2, .int v7), (0, .ref h), (1, .int x0)]) dX3_layRow_16 (by decide) rfl ?_
    refine G_aload_n X dX3_layRow_17 1 rfl ?_
    refine G_iload_n X dX3_layRow_18 2 rfl ?_
    refine G_iconst X (v := 1) dX3_layRow_19 (by decide) ?_
    obtain ⟨v10, h11, h12⟩ := bnd h9
    refine G1_calli X (As := [.int x0, .int 1]) (rest := []) (wr := []) (ws' := [(h, .inr (3, [.ref h_numbers])), (h_numbers, .inl (cI, 352, .inl f_h_numbers))]) dX3_layRow_20 pkX3_neighbour gX3_layRow_X3_neighbour (kkX3_neighbour l D cI cR h h_numbers f_h_numbers x0 1 v10 h11) ⟨rfl, rfl⟩ ⟨Nat.le_of_ble_eq_true rfl, Nat.le_of_ble_eq_true rfl⟩ rfl rfl (Nat.le_of_ble_eq_true rfl) 0 rfl rfl [0, 1] [] rfl rfl ⟨rfl, rfl, by decide⟩ ⟨Nat.zero_le _, Nat.zero_le _⟩ [0, 1] rfl rfl ?_
    refine G_istore_n X (lv' := [(3, .int v10), (2, .int v7), (0, .ref h), (1, .int x0)]) dX3_layRow_23 (by decide) rfl ?_
    refine G_iconst X (v := 0) dX3_layRow_24 (by decide) ?_
    refine G_istore X (lv' := [(4, .int 0), (3, .int v10), (2, .int v7), (0, .ref h), (1, .int x0)]) dX3_layRow_25 (by decide) rfl ?_
    refine G_iconst X (v := 0) dX3_layRow_27 (by decide) ?_
    refine G_istore X (lv' := [(5, .int 0), (4, .int 0), (3, .int v10), (2, .int v7), (0, .ref h), (1, .int x0)]) dX3_layRow_28 (by decide) rfl ?_
    obtain ⟨j14, h15, h16⟩ := bnd h12
    have J21 : G p l e rmX3_layRow s m args below meth c D A 6 Q 0 0 69 [(4, .int j14.1)] [] [(h, .inr (3, [.ref h_numbers])), (h_numbers, .inl (cI, 352, .inl j14.2))] := by
      refine G_iload X dX3_layRow_69 0 rfl ?_
      cases h16
      exact rt _ _ _ _ dX3_layRow_71 ⟨rfl, rfl⟩
    refine G_lv [4, 5, 3, 2, 1, 0] rfl ?_
    refine itr_ind (P := fun s13 : (Int32 × Int32 × (Nat → Int32)) => G p l e rmX3_layRow s m args below meth c D A 6 Q 0 0 30 [(0, .ref h), (1, .int x0), (2, .int v7), (3, .int v10), (4, .int s13.1), (5, .int s13.2.1)] [] [(h, .inr (3, [.ref h_numbers])), (h_numbers, .inl (cI, 352, .inl s13.2.2))]) (fun s13 o20 h17 h18 h19 => ?_) FU _ h15
    unfold SX3_layRow_30 at h17
    refine G_iload X dX3_layRow_30 5 rfl ?_
    refine G_bipush X (v := 8) dX3_layRow_32 (by decide) ?_
    refine G_icmp_ge X (tgt := 69) dX3_layRow_34 (by decide) (fun h23 => ?_) (fun h23 => ?_)
    · have h24 := ifp h23 h17
      cases h24
      have h25 := h19 _ rfl
      subst h25
      exact G_lv [4] rfl (J21)
    · have h26 := ifn h23 h17
      refine G_iload X dX3_layRow_37 4 rfl ?_
      refine G_aload_n X dX3_layRow_39 0 rfl ?_
      refine G_iload_n X dX3_layRow_40 1 rfl ?_
      refine G_iload X dX3_layRow_41 5 rfl ?_
      refine G_iload X dX3_layRow_43 5 rfl ?_
      obtain ⟨v27, h28, h29⟩ := bnd h26
      refine G1_callsi X (As := [.int s13.2.1]) (rest := [.int s13.2.1, .int x0, .ref h, .int s13.1]) (wr := [(h, .inr (3, [.ref h_numbers])), (h_numbers, .inl (cI, 352, .inl s13.2.2))]) (ws' := [(h, .inr (3, [.ref h_numbers])), (h_numbers, .inl (cI, 352, .inl s13.2.2))]) dX3_layRow_45 pkX3_stepToHolder gX3_layRow_X3_stepToHolder (kkX3_stepToHolder l D cI cR s13.2.1 v27 h28) ⟨rfl, rfl⟩ ⟨Nat.le_of_ble_eq_true rfl, Nat.le_of_ble_eq_true rfl⟩ rfl rfl (Nat.le_of_ble_eq_true rfl) [] [0, 1] rfl rfl ⟨rfl, rfl, by decide⟩ ⟨Nat.zero_le _, Nat.zero_le _⟩ [0, 1] rfl rfl ?_
      refine G_iconst X (v := (-1)) dX3_layRow_48 (by decide) ?_
      refine G_icmp_ne X (tgt := 56) dX3_layRow_49 (by decide) (fun h30 => ?_) (fun h30 => ?_)
      · have h31 := ifp h30 h29
        refine G_iload_n X dX3_layRow_52 2 rfl ?_
        refine G_goto X (tgt := 57) dX3_layRow_53 (by decide) ?_
        obtain ⟨v32, h33, h34⟩ := bnd h31
        refine G1_calli X (As := [.int x0, .int s13.2.1, .int v7]) (rest := [.int s13.1]) (wr := []) (ws' := [(h, .inr (3, [.ref h_numbers])), (h_numbers, .inl (cI, 352, .inl v32.2))]) dX3_layRow_57 pkX3_layEcho gX3_layRow_X3_layEcho (kkX3_layEcho l D cI cR h h_numbers s13.2.2 x0 s13.2.1 v7 v32 h33) ⟨rfl, rfl⟩ ⟨Nat.le_of_ble_eq_true rfl, Nat.le_of_ble_eq_true rfl⟩ rfl rfl (Nat.le_of_ble_eq_true rfl) 0 rfl rfl [0, 1] [] rfl rfl ⟨rfl, rfl, by decide⟩ ⟨Nat.zero_le _, Nat.zero_le _⟩ [0, 1] rfl rfl ?_
        refine G_iadd X dX3_layRow_60 ?_
        refine G_istore X (lv' := [(4, .int (s13.1 + v32.1)), (0, .ref h), (1, .int x0), (2, .int v7), (3, .int v10), (5, .int s13.2.1)]) dX3_layRow_61 (by decide) rfl ?_
        refine G_iinc X (v := (s13.2.1 + 1)) (lv' := [(5, .int (s13.2.1 + 1)), (4, .int (s13.1 + v32.1)), (0, .ref h), (1, .int x0), (2, .int v7), (3, .int v10)]) dX3_layRow_63 5 rfl rfl (by decide) rfl ?_
        refine G_goto X (tgt := 30) dX3_layRow_66 (by decide) ?_
        cases h34
        exact G_lv [2, 3, 4, 5, 1, 0] rfl (h18 _ rfl)
      · have h35 := ifn h30 h29
        refine G_iload_n X dX3_layRow_56 3 rfl ?_
        obtain ⟨v36, h37, h38⟩ := bnd h35
        refine G1_calli X (As := [.int x0, .int s13.2.1, .int v10]) (rest := [.int s13.1]) (wr := []) (ws' := [(h, .inr (3, [.ref h_numbers])), (h_numbers, .inl (cI, 352, .inl v36.2))]) dX3_layRow_57 pkX3_layEcho gX3_layRow_X3_layEcho (kkX3_layEcho l D cI cR h h_numbers s13.2.2 x0 s13.2.1 v10 v36 h37) ⟨rfl, rfl⟩ ⟨Nat.le_of_ble_eq_true rfl, Nat.le_of_ble_eq_true rfl⟩ rfl rfl (Nat.le_of_ble_eq_true rfl) 0 rfl rfl [0, 1] [] rfl rfl ⟨rfl, rfl, by decide⟩ ⟨Nat.zero_le _, Nat.zero_le _⟩ [0, 1] rfl rfl ?_
        refine G_iadd X dX3_layRow_60 ?_
        refine G_istore X (lv' := [(4, .int (s13.1 + v36.1)), (0, .ref h), (1, .int x0), (2, .int v7), (3, .int v10), (5, .int s13.2.1)]) dX3_layRow_61 (by decide) rfl ?_
        refine G_iinc X (v := (s13.2.1 + 1)) (lv' := [(5, .int (s13.2.1 + 1)), (4, .int (s13.1 + v36.1)), (0, .ref h), (1, .int x0), (2, .int v7), (3, .int v10)]) dX3_layRow_63 5 rfl rfl (by decide) rfl ?_
        refine G_goto X (tgt := 30) dX3_layRow_66 (by decide) ?_
        cases h38
        exact G_lv [2, 3, 4, 5, 1, 0] rfl (h18 _ rfl)
def rmX3_layFirstEchoes : Room := { frames := 4, cells := 0, slots := 0, locals := 166 }
theorem pkX3_layFirstEchoes : cK yX3_layFirstEchoes wsX3_layFirstEchoes cX3_layFirstEchoes 4 (some .int) 1 RX3 := ⟨⟨_, rfl⟩, by decide +kernel⟩
set_option maxHeartbeats 4000000 in
set_option maxRecDepth 100000 in
theorem kkX3_layFirstEchoes (l : Launch) (D : va_G) (cI cR : ClassId) (h h_numbers : Nat) (f_h_numbers : Nat → Int32) (x0 : Int32) (z : (Int32 × (Nat → Int32))) (hz : MX3_layFirstEchoes f_h_numbers x0 = some z) : cI1 l yX3_layFirstEchoes wsX3_layFirstEchoes rmX3_layFirstEchoes D cI cR [.ref h, .int x0] [(h, .inr (3, [.ref h_numbers])), (h_numbers, .inl (cI, 352, .inl f_h_numbers))] z.1 [(h, .inr (3, [.ref h_numbers])), (h_numbers, .inl (cI, 352, .inl z.2))] := by
  unfold MX3_layFirstEchoes at hz
  refine kI_of (cc := cX3_layFirstEchoes) (maxL := 4) (own := RX3) (by decide +kernel) rfl rfl (Nat.le_of_ble_eq_true rfl) (lv0 := [(0, .ref h), (1, .int x0)]) rfl (fun p e s m args below meth c A Q X rt => ?_)
  refine G_iconst X (v := 0) dX3_layFirstEchoes_0 (by decide) ?_
  refine G_istore_n X (lv' := [(2, .int 0), (0, .ref h), (1, .int x0)]) dX3_layFirstEchoes_1 (by decide) rfl ?_
  obtain ⟨j2, h3, h4⟩ := bnd hz
  have J9 : G p l e rmX3_layFirstEchoes s m args below meth c D A 4 Q 0 0 19 [(0, .ref h), (1, .int x0)] [] [(h, .inr (3, [.ref h_numbers])), (h_numbers, .inl (cI, 352, .inl j2))] := by
    refine G_iconst X (v := 0) dX3_layFirstEchoes_19 (by decide) ?_
    refine G_istore_n X (lv' := [(2, .int 0), (0, .ref h), (1, .int x0)]) dX3_layFirstEchoes_20 (by decide) rfl ?_
    refine G_iconst X (v := 0) dX3_layFirstEchoes_21 (by decide) ?_
    refine G_istore_n X (lv' := [(3, .int 0), (2, .int 0), (0, .ref h), (1, .int x0)]) dX3_layFirstEchoes_22 (by decide) rfl ?_
    obtain ⟨j12, h13, h14⟩ := bnd h4
    have J19 : G p l e rmX3_layFirstEchoes s m args below meth c D A 4 Q 0 0 54 [(2, .int j12.1)] [] [(h, .inr (3, [.ref h_numbers])), (h_numbers, .inl (cI, 352, .inl j12.2))] := by
      refine G_iload_n X dX3_layFirstEchoes_54 0 rfl ?_
      cases h14
      exact rt _ _ _ _ dX3_layFirstEchoes_55 ⟨rfl, rfl⟩
    refine G_lv [2, 3, 1, 0] rfl ?_
    refine itr_ind (P := fun s11 : (Int32 × Int32 × (Nat → Int32)) => G p l e rmX3_layFirstEchoes s m args below meth c D A 4 Q 0 0 23 [(0, .ref h), (1, .int x0), (2, .int s11.1), (3, .int s11.2.1)] [] [(h, .inr (3, [.ref h_numbers])), (h_numbers, .inl (cI, 352, .inl s11.2.2))]) (fun s11 o18 h15 h16 h17 => ?_) FU _ h13
    unfold SX3_layFirstEchoes_23 at h15
    refine G_iload_n X dX3_layFirstEchoes_23 3 rfl ?_
    refine G_iload_n X dX3_layFirstEchoes_24 1 rfl ?_
    refine G_icmp_ge X (tgt := 54) dX3_layFirstEchoes_25 (by decide) (fun h21 => ?_) (fun h21 => ?_)
    · have h22 := ifp h21 h15
      cases h22
      have h23 := h17 _ rfl
      subst h23
      exact G_lv [2] rfl (J19)
    · have h24 := ifn h21 h15
      refine G_aload_n X dX3_layFirstEchoes_28 0 rfl ?_
      refine G_bipush X (v := 46) dX3_layFirstEchoes_29 (by decide) ?_
      refine G_iload_n X dX3_layFirstEchoes_31 3 rfl ?_
      refine G_iadd X dX3_layFirstEchoes_32 ?_
      refine G_iconst X (v := 0) dX3_layFirstEchoes_33 (by decide) ?_
      obtain ⟨v25, h26, h27⟩ := bnd h24
      refine G1_callv X (As := [.int (46 + s11.2.1), .int 0]) (rest := []) (wr := []) (ws' := [(h, .inr (3, [.ref h_numbers])), (h_numbers, .inl (cI, 352, .inl v25))]) dX3_layFirstEchoes_34 pkX3_put gX3_layFirstEchoes_X3_put (kkX3_put l D cI cR h h_numbers s11.2.2 (46 + s11.2.1) 0 v25 h26) ⟨rfl, rfl⟩ ⟨Nat.le_of_ble_eq_true rfl, Nat.le_of_ble_eq_true rfl⟩ rfl rfl (Nat.le_of_ble_eq_true rfl) 0 rfl rfl [0, 1] [] rfl rfl ⟨rfl, rfl, by decide⟩ ⟨Nat.zero_le _, Nat.zero_le _⟩ [0, 1] rfl rfl ?_
      refine G_iload_n X dX3_layFirstEchoes_37 2 rfl ?_
      refine G_aload_n X dX3_layFirstEchoes_38 0 rfl ?_
      refine G_bipush X (v := 55) dX3_layFirstEchoes_39 (by decide) ?_
      refine G_iload_n X dX3_layFirstEchoes_41 3 rfl ?_
      refine G_iadd X dX3_layFirstEchoes_42 ?_
      obtain ⟨v28, h29, h30⟩ := bnd h27
      refine G1_calli X (As := [.int (55 + s11.2.1)]) (rest := [.int s11.1]) (wr := []) (ws' := [(h, .inr (3, [.ref h_numbers])), (h_numbers, .inl (cI, 352, .inl v25))]) dX3_layFirstEchoes_43 pkX3_get gX3_layFirstEchoes_X3_get (kkX3_get l D cI cR h h_numbers v25 (55 + s11.2.1) v28 h29) ⟨rfl, rfl⟩ ⟨Nat.le_of_ble_eq_true rfl, Nat.le_of_ble_eq_true rfl⟩ rfl rfl (Nat.le_of_ble_eq_true rfl) 0 rfl rfl [0, 1] [] rfl rfl ⟨rfl, rfl, by decide⟩ ⟨Nat.zero_le _, Nat.zero_le _⟩ [0, 1] rfl rfl ?_
      refine G_iadd X dX3_layFirstEchoes_46 ?_
      refine G_istore_n X (lv' := [(2, .int (s11.1 + v28)), (0, .ref h), (1, .int x0), (3, .int s11.2.1)]) dX3_layFirstEchoes_47 (by decide) rfl ?_
      refine G_iinc X (v := (s11.2.1 + 1)) (lv' := [(3, .int (s11.2.1 + 1)), (2, .int (s11.1 + v28)), (0, .ref h), (1, .int x0)]) dX3_layFirstEchoes_48 3 rfl rfl (by decide) rfl ?_
      refine G_goto X (tgt := 23) dX3_layFirstEchoes_51 (by decide) ?_
      cases h30
      exact G_lv [2, 3, 1, 0] rfl (h16 _ rfl)
  refine G_lv [1, 2, 0] rfl ?_
  refine itr_ind (P := fun s1 : (Int32 × (Nat → Int32)) => G p l e rmX3_layFirstEchoes s m args below meth c D A 4 Q 0 0 2 [(0, .ref h), (1, .int x0), (2, .int s1.1)] [] [(h, .inr (3, [.ref h_numbers])), (h_numbers, .inl (cI, 352, .inl s1.2))]) (fun s1 o8 h5 h6 h7 => ?_) FU _ h3
  unfold SX3_layFirstEchoes_2 at h5
  refine G_iload_n X dX3_layFirstEchoes_2 2 rfl ?_
  refine G_iload_n X dX3_layFirstEchoes_3 1 rfl ?_
  refine G_icmp_ge X (tgt := 19) dX3_layFirstEchoes_4 (by decide) (fun h31 => ?_) (fun h31 => ?_)
  · have h32 := ifp h31 h5
    cases h32
    have h33 := h7 _ rfl
    subst h33
    exact G_lv [0, 1] rfl (J9)
  · have h34 := ifn h31 h5
    refine G_aload_n X dX3_layFirstEchoes_7 0 rfl ?_
    refine G_iload_n X dX3_layFirstEchoes_8 2 rfl ?_
    obtain ⟨v35, h36, h37⟩ := bnd h34
    refine G1_calli X (As := [.int s1.1]) (rest := []) (wr := []) (ws' := [(h, .inr (3, [.ref h_numbers])), (h_numbers, .inl (cI, 352, .inl v35.2))]) dX3_layFirstEchoes_9 pkX3_layRow gX3_layFirstEchoes_X3_layRow (kkX3_layRow l D cI cR h h_numbers s1.2 s1.1 v35 h36) ⟨rfl, rfl⟩ ⟨Nat.le_of_ble_eq_true rfl, Nat.le_of_ble_eq_true rfl⟩ rfl rfl (Nat.le_of_ble_eq_true rfl) 0 rfl rfl [0, 1] [] rfl rfl ⟨rfl, rfl, by decide⟩ ⟨Nat.zero_le _, Nat.zero_le _⟩ [0, 1] rfl rfl ?_
    refine G_pop X dX3_layFirstEchoes_12 rfl ?_
    refine G_iinc X (v := (s1.1 + 1)) (lv' := [(2, .int (s1.1 + 1)), (0, .ref h), (1, .int x0)]) dX3_layFirstEchoes_13 2 rfl rfl (by decide) rfl ?_
    refine G_goto X (tgt := 2) dX3_layFirstEchoes_16 (by decide) ?_
    cases h37
    exact G_lv [1, 2, 0] rfl (h6 _ rfl)
def rmX3_beginAnew : Room := { frames := 5, cells := 0, slots := 0, locals := 189 }
theorem pkX3_beginAnew : cK yX3_beginAnew wsX3_beginAnew cX3_beginAnew 3 (some .int) 1 RX3 := ⟨⟨_, rfl⟩, by decide +kernel⟩
theorem flX3_beginAnew_52 : Cond.constant RX3 52 (-1000001) ∈ wsX3_beginAnew := by decide +kernel
set_option maxHeartbeats 4000000 in
set_option maxRecDepth 100000 in
theorem kkX3_beginAnew (l : Launch) (D : va_G) (cI cR : ClassId) (h h_numbers : Nat) (f_h_numbers : Nat → Int32) (x0 : Int32) (z : (Int32 × (Nat → Int32))) (hz : MX3_beginAnew f_h_numbers x0 = some z) : cI1 l yX3_beginAnew wsX3_beginAnew rmX3_beginAnew D cI cR [.ref h, .int x0] [(h, .inr (3, [.ref h_numbers])), (h_numbers, .inl (cI, 352, .inl f_h_numbers))] z.1 [(h, .inr (3, [.ref h_numbers])), (h_numbers, .inl (cI, 352, .inl z.2))] := by
  unfold MX3_beginAnew at hz
  refine kI_of (cc := cX3_beginAnew) (maxL := 3) (own := RX3) (by decide +kernel) rfl rfl (Nat.le_of_ble_eq_true rfl) (lv0 := [(0, .ref h), (1, .int x0)]) rfl (fun p e s m args below meth c A Q X rt => ?_)
  refine G_iload_n X dX3_beginAnew_0 1 rfl ?_
  refine G_iconst X (v := 3) dX3_beginAnew_1 (by decide) ?_
  refine G_icmp_lt X (tgt := 11) dX3_beginAnew_2 (by decide) (fun h1 => ?_) (fun h1 => ?_)
  · have h2 := ifp h1 hz
    refine G_ldc X dX3_beginAnew_11 flX3_beginAnew_52 ?_
    cases h2
    exact rt _ _ _ _ dX3_beginAnew_13 ⟨rfl, rfl⟩
  · have h3 := ifn h1 hz
    refine G_iload_n X dX3_beginAnew_5 1 rfl ?_
    refine G_bipush X (v := 9) dX3_beginAnew_6 (by decide) ?_
    refine G_icmp_le X (tgt := 14) dX3_beginAnew_8 (by decide) (fun h4 => ?_) (fun h4 => ?_)
    · have h5 := ifp h4 h3
      refine G_aload_n X dX3_beginAnew_14 0 rfl ?_
      refine G_iconst X (v := 1) dX3_beginAnew_15 (by decide) ?_
      refine G_iload_n X dX3_beginAnew_16 1 rfl ?_
      obtain ⟨v6, h7, h8⟩ := bnd h5
      refine G1_callv X (As := [.int 1, .int x0]) (rest := []) (wr := []) (ws' := [(h, .inr (3, [.ref h_numbers])), (h_numbers, .inl (cI, 352, .inl v6))]) dX3_beginAnew_17 pkX3_put gX3_beginAnew_X3_put (kkX3_put l D cI cR h h_numbers f_h_numbers 1 x0 v6 h7) ⟨rfl, rfl⟩ ⟨Nat.le_of_ble_eq_true rfl, Nat.le_of_ble_eq_true rfl⟩ rfl rfl (Nat.le_of_ble_eq_true rfl) 0 rfl rfl [0, 1] [] rfl rfl ⟨rfl, rfl, by decide⟩ ⟨Nat.zero_le _, Nat.zero_le _⟩ [0, 1] rfl rfl ?_
      refine G_iconst X (v := 4) dX3_beginAnew_20 (by decide) ?_
      refine G_istore_n X (lv' := [(2, .int 4), (0, .ref h), (1, .int x0)]) dX3_beginAnew_21 (by decide) rfl ?_
      obtain ⟨j10, h11, h12⟩ := bnd h8
      have J17 : G p l e rmX3_beginAnew s m args below meth c D A 3 Q 0 0 41 [(0, .ref h), (1, .int x0)] [] [(h, .inr (3, [.ref h_numbers])), (h_numbers, .inl (cI, 352, .inl j10))] := by
        refine G_iconst X (v := 0) dX3_beginAnew_41 (by decide) ?_
        refine G_istore_n X (lv' := [(2, .int 0), (0, .ref h), (1, .int x0)]) dX3_beginAnew_42 (by decide) rfl ?_
        obtain ⟨j20, h21, h22⟩ := bnd h12
        have J27 : G p l e rmX3_beginAnew s m args below meth c D A 3 Q 0 0 81 [(0, .ref h), (1, .int x0)] [] [(h, .inr (3, [.ref h_numbers])), (h_numbers, .inl (cI, 352, .inl j20))] := by
          refine G_aload_n X dX3_beginAnew_81 0 rfl ?_
          refine G_iload_n X dX3_beginAnew_82 1 rfl ?_
          obtain ⟨v29, h30, h31⟩ := bnd h22
          refine G1_calli X (As := [.int x0]) (rest := []) (wr := []) (ws' := [(h, .inr (3, [.ref h_numbers])), (h_numbers, .inl (cI, 352, .inl v29.2))]) dX3_beginAnew_83 pkX3_layFirstEchoes gX3_beginAnew_X3_layFirstEchoes (kkX3_layFirstEchoes l D cI cR h h_numbers j20 x0 v29 h30) ⟨rfl, rfl⟩ ⟨Nat.le_of_ble_eq_true rfl, Nat.le_of_ble_eq_true rfl⟩ rfl rfl (Nat.le_of_ble_eq_true rfl) 0 rfl rfl [0, 1] [] rfl rfl ⟨rfl, rfl, by decide⟩ ⟨Nat.zero_le _, Nat.zero_le _⟩ [0, 1] rfl rfl ?_
          refine G_istore_n X (lv' := [(2, .int v29.1), (0, .ref h), (1, .int x0)]) dX3_beginAnew_86 (by decide) rfl ?_
          refine G_aload_n X dX3_beginAnew_87 1 rfl ?_
          refine G_bipush X (v := 9) dX3_beginAnew_88 (by decide) ?_
          refine G_iconst X (v := 0) dX3_beginAnew_90 (by decide) ?_
          obtain ⟨v32, h33, h34⟩ := bnd h31
          refine G1_callv X (As := [.int 9, .int 0]) (rest := []) (wr := []) (ws' := [(h, .inr (3, [.ref h_numbers])), (h_numbers, .inl (cI, 352, .inl v32))]) dX3_beginAnew_91 pkX3_put gX3_beginAnew_X3_put (kkX3_put l D cI cR h h_numbers v29.2 9 0 v32 h33) ⟨rfl, rfl⟩ ⟨Nat.le_of_ble_eq_true rfl, Nat.le_of_ble_eq_true rfl⟩ rfl rfl (Nat.le_of_ble_eq_true rfl) 0 rfl rfl [0, 1] [] rfl rfl ⟨rfl, rfl, by decide⟩ ⟨Nat.zero_le _, Nat.zero_le _⟩ [0, 1] rfl rfl ?_
          refine G_iload_n X dX3_beginAnew_94 0 rfl ?_
          cases h34
          exact rt _ _ _ _ dX3_beginAnew_95 ⟨rfl, rfl⟩
        refine G_lv [1, 2, 0] rfl ?_
        refine itr_ind (P := fun s19 : (Int32 × (Nat → Int32)) => G p l e rmX3_beginAnew s m args below meth c D A 3 Q 0 0 43 [(0, .ref h), (1, .int x0), (2, .int s19.1)] [] [(h, .inr (3, [.ref h_numbers])), (h_numbers, .inl (cI, 352, .inl s19.2))]) (fun s19 o26 h23 h24 h25 => ?_) FU _ h21
        unfold SX3_beginAnew_43 at h23
        refine G_iload_n X dX3_beginAnew_43 2 rfl ?_
        refine G_iload_n X dX3_beginAnew_44 1 rfl ?_
        refine G_icmp_ge X (tgt := 81) dX3_beginAnew_45 (by decide) (fun h35 => ?_) (fun h35 => ?_)
        · have h36 := ifp h35 h23
          cases h36
          have h37 := h25 _ rfl
          subst h37
          exact G_lv [0, 1] rfl (J27)
        · have h38 := ifn h35 h23
          refine G_aload_n X dX3_beginAnew_48 0 rfl ?_
          refine G_bipush X (v := 10) dX3_beginAnew_49 (by decide) ?_
          refine G_iload_n X dX3_beginAnew_51 2 rfl ?_
          refine G_iadd X dX3_beginAnew_52 ?_
          refine G_iload_n X dX3_beginAnew_53 2 rfl ?_
          obtain ⟨v39, h40, h41⟩ := bnd h38
          refine G1_callv X (As := [.int (10 + s19.1), .int s19.1]) (rest := []) (wr := []) (ws' := [(h, .inr (3, [.ref h_numbers])), (h_numbers, .inl (cI, 352, .inl v39))]) dX3_beginAnew_54 pkX3_put gX3_beginAnew_X3_put (kkX3_put l D cI cR h h_numbers s19.2 (10 + s19.1) s19.1 v39 h40) ⟨rfl, rfl⟩ ⟨Nat.le_of_ble_eq_true rfl, Nat.le_of_ble_eq_true rfl⟩ rfl rfl (Nat.le_of_ble_eq_true rfl) 0 rfl rfl [0, 1] [] rfl rfl ⟨rfl, rfl, by decide⟩ ⟨Nat.zero_le _, Nat.zero_le _⟩ [0, 1] rfl rfl ?_
          refine G_aload_n X dX3_beginAnew_57 0 rfl ?_
          refine G_bipush X (v := 19) dX3_beginAnew_58 (by decide) ?_
          refine G_iload_n X dX3_beginAnew_60 2 rfl ?_
          refine G_iadd X dX3_beginAnew_61 ?_
          refine G_iload_n X dX3_beginAnew_62 2 rfl ?_
          obtain ⟨v42, h43, h44⟩ := bnd h41
          refine G1_callv X (As := [.int (19 + s19.1), .int s19.1]) (rest := []) (wr := []) (ws' := [(h, .inr (3, [.ref h_numbers])), (h_numbers, .inl (cI, 352, .inl v42))]) dX3_beginAnew_63 pkX3_put gX3_beginAnew_X3_put (kkX3_put l D cI cR h h_numbers v39 (19 + s19.1) s19.1 v42 h43) ⟨rfl, rfl⟩ ⟨Nat.le_of_ble_eq_true rfl, Nat.le_of_ble_eq_true rfl⟩ rfl rfl (Nat.le_of_ble_eq_true rfl) 0 rfl rfl [0, 1] [] rfl rfl ⟨rfl, rfl, by decide⟩ ⟨Nat.zero_le _, Nat.zero_le _⟩ [0, 1] rfl rfl ?_
          refine G_aload_n X dX3_beginAnew_66 0 rfl ?_
          refine G_bipush X (v := 28) dX3_beginAnew_67 (by decide) ?_
          refine G_iload_n X dX3_beginAnew_69 2 rfl ?_
          refine G_iadd X dX3_beginAnew_70 ?_
          refine G_iconst X (v := 1) dX3_beginAnew_71 (by decide) ?_
          obtain ⟨v45, h46, h47⟩ := bnd h44
          refine G1_callv X (As := [.int (28 + s19.1), .int 1]) (rest := []) (wr := []) (ws' := [(h, .inr (3, [.ref h_numbers])), (h_numbers, .inl (cI, 352, .inl v45))]) dX3_beginAnew_72 pkX3_put gX3_beginAnew_X3_put (kkX3_put l D cI cR h h_numbers v42 (28 + s19.1) 1 v45 h46) ⟨rfl, rfl⟩ ⟨Nat.le_of_ble_eq_true rfl, Nat.le_of_ble_eq_true rfl⟩ rfl rfl (Nat.le_of_ble_eq_true rfl) 0 rfl rfl [0, 1] [] rfl rfl ⟨rfl, rfl, by decide⟩ ⟨Nat.zero_le _, Nat.zero_le _⟩ [0, 1] rfl rfl ?_
          refine G_iinc X (v := (s19.1 + 1)) (lv' := [(2, .int (s19.1 + 1)), (0, .ref h), (1, .int x0)]) dX3_beginAnew_75 2 rfl rfl (by decide) rfl ?_
          refine G_goto X (tgt := 43) dX3_beginAnew_78 (by decide) ?_
          cases h47
          exact G_lv [1, 2, 0] rfl (h24 _ rfl)
      refine G_lv [1, 2, 0] rfl ?_
      refine itr_ind (P := fun s9 : (Int32 × (Nat → Int32)) => G p l e rmX3_beginAnew s m args below meth c D A 3 Q 0 0 22 [(0, .ref h), (1, .int x0), (2, .int s9.1)] [] [(h, .inr (3, [.ref h_numbers])), (h_numbers, .inl (cI, 352, .inl s9.2))]) (fun s9 o16 h13 h14 h15 => ?_) FU _ h11
      unfold SX3_beginAnew_22 at h13
      refine G_iload_n X dX3_beginAnew_22 2 rfl ?_
      refine G_sipush X (v := 352) dX3_beginAnew_23 (by decide) ?_
      refine G_icmp_ge X (tgt := 41) dX3_beginAnew_26 (by decide) (fun h48 => ?_) (fun h48 => ?_)
      · have h49 := ifp h48 h13
        cases h49
        have h50 := h15 _ rfl
        subst h50
        exact G_lv [0, 1] rfl (J17)
      · have h51 := ifn h48 h13
        refine G_aload_n X dX3_beginAnew_29 0 rfl ?_
        refine G_iload_n X dX3_beginAnew_30 2 rfl ?_
        refine G_iconst X (v := 0) dX3_beginAnew_31 (by decide) ?_
        obtain ⟨v52, h53, h54⟩ := bnd h51
        refine G1_callv X (As := [.int s9.1, .int 0]) (rest := []) (wr := []) (ws' := [(h, .inr (3, [.ref h_numbers])), (h_numbers, .inl (cI, 352, .inl v52))]) dX3_beginAnew_32 pkX3_put gX3_beginAnew_X3_put (kkX3_put l D cI cR h h_numbers s9.2 s9.1 0 v52 h53) ⟨rfl, rfl⟩ ⟨Nat.le_of_ble_eq_true rfl, Nat.le_of_ble_eq_true rfl⟩ rfl rfl (Nat.le_of_ble_eq_true rfl) 0 rfl rfl [0, 1] [] rfl rfl ⟨rfl, rfl, by decide⟩ ⟨Nat.zero_le _, Nat.zero_le _⟩ [0, 1] rfl rfl ?_
        refine G_iinc X (v := (s9.1 + 1)) (lv' := [(2, .int (s9.1 + 1)), (0, .ref h), (1, .int x0)]) dX3_beginAnew_35 2 rfl rfl (by decide) rfl ?_
        refine G_goto X (tgt := 22) dX3_beginAnew_38 (by decide) ?_
        cases h54
        exact G_lv [1, 2, 0] rfl (h14 _ rfl)
    · have h55 := ifn h4 h3
      refine G_ldc X dX3_beginAnew_11 flX3_beginAnew_52 ?_
      cases h55
      exact rt _ _ _ _ dX3_beginAnew_13 ⟨rfl, rfl⟩
def rmX3_writeCell : Room := { frames := 3, cells := 0, slots := 0, locals := 141 }
theorem pkX3_writeCell : cK yX3_writeCell wsX3_writeCell cX3_writeCell 4 (some .int) 3 RX3 := ⟨⟨_, rfl⟩, by decide +kernel⟩
theorem flX3_writeCell_52 : Cond.constant RX3 52 (-1000001) ∈ wsX3_writeCell := by decide +kernel
theorem flX3_writeCell_68 : Cond.constant RX3 68 (-1000002) ∈ wsX3_writeCell := by decide +kernel
set_option maxHeartbeats 4000000 in
set_option maxRecDepth 100000 in
theorem kkX3_writeCell (l : Launch) (D : va_G) (cI cR : ClassId) (h h_numbers : Nat) (f_h_numbers : Nat → Int32) (x0 : Int32) (x1 : Int32) (x2 : Int32) (z : (Int32 × (Nat → Int32))) (hz : MX3_writeCell f_h_numbers x0 x1 x2 = some z) : cI1 l yX3_writeCell wsX3_writeCell rmX3_writeCell D cI cR [.ref h, .int x0, .int x1, .int x2] [(h, .inr (3, [.ref h_numbers])), (h_numbers, .inl (cI, 352, .inl f_h_numbers))] z.1 [(h, .inr (3, [.ref h_numbers])), (h_numbers, .inl (cI, 352, .inl z.2))] := by
  unfold MX3_writeCell at hz
  refine kI_of (cc := cX3_writeCell) (maxL := 4) (own := RX3) (by decide +kernel) rfl rfl (Nat.le_of_ble_eq_true rfl) (lv0 := [(0, .ref h), (1, .int x0), (2, .int x1), (3, .int x2)]) rfl (fun p e s m args below meth c A Q X rt => ?_)
  refine G_aload_n X dX3_writeCell_0 0 rfl ?_
  refine G_iload_n X dX3_writeCell_1 1 rfl ?_
  obtain ⟨v1, h2, h3⟩ := bnd hz
  refine G1_calli X (As := [.int x0]) (rest := []) (wr := []) (ws' := [(h, .inr (3, [.ref h_numbers])), (h_numbers, .inl (cI, 352, .inl f_h_numbers))]) dX3_writeCell_2 pkX3_hasRow gX3_writeCell_X3_hasRow (kkX3_hasRow l D cI cR h h_numbers f_h_numbers x0 v1 h2) ⟨rfl, rfl⟩ ⟨Nat.le_of_ble_eq_true rfl, Nat.le_of_ble_eq_true rfl⟩ rfl rfl (Nat.le_of_ble_eq_true rfl) 0 rfl rfl [0, 1] [] rfl rfl ⟨rfl, rfl, by decide⟩ ⟨Nat.zero_le _, Nat.zero_le _⟩ [0, 1] rfl rfl ?_
  refine G_if_eq X (tgt := 26) dX3_writeCell_5 (by decide) (fun h4 => ?_) (fun h4 => ?_)
  · have h5 := ifp h4 h3
    refine G_ldc X dX3_writeCell_26 flX3_writeCell_52 ?_
    cases h5
    exact rt _ _ _ _ dX3_writeCell_28 ⟨rfl, rfl⟩
  · have h6 := ifn h4 h3
    refine G_iload_n X dX3_writeCell_8 2 rfl ?_
    obtain ⟨v7, h8, h9⟩ := bnd h6
    refine G1_callsi X (As := [.int x1]) (rest := []) (wr := [(h, .inr (3, [.ref h_numbers])), (h_numbers, .inl (cI, 352, .inl f_h_numbers))]) (ws' := [(h, .inr (3, [.ref h_numbers])), (h_numbers, .inl (cI, 352, .inl f_h_numbers))]) dX3_writeCell_9 pkX3_isCell gX3_writeCell_X3_isCell (kkX3_isCell l D cI cR x1 v7 h8) ⟨rfl, rfl⟩ ⟨Nat.le_of_ble_eq_true rfl, Nat.le_of_ble_eq_true rfl⟩ rfl rfl (Nat.le_of_ble_eq_true rfl) [] [0, 1] rfl rfl ⟨rfl, rfl, by decide⟩ ⟨Nat.zero_le _, Nat.zero_le _⟩ [0, 1] rfl rfl ?_
    refine G_if_eq X (tgt := 26) dX3_writeCell_12 (by decide) (fun h10 => ?_) (fun h10 => ?_)
    · have h11 := ifp h10 h9
      refine G_ldc X dX3_writeCell_26 flX3_writeCell_52 ?_
      cases h11
      exact rt _ _ _ _ dX3_writeCell_28 ⟨rfl, rfl⟩
    · have h12 := ifn h10 h9
      refine G_iload_n X dX3_writeCell_15 3 rfl ?_
      refine G_if_lt X (tgt := 26) dX3_writeCell_16 (by decide) (fun h13 => ?_) (fun h13 => ?_)
      · have h14 := ifp h13 h12
        refine G_ldc X dX3_writeCell_26 flX3_writeCell_52 ?_
        cases h14
        exact rt _ _ _ _ dX3_writeCell_28 ⟨rfl, rfl⟩
      · have h15 := ifn h13 h12
        refine G_iload_n X dX3_writeCell_19 3 rfl ?_
        refine G_sipush X (v := 999) dX3_writeCell_20 (by decide) ?_
        refine G_icmp_le X (tgt := 29) dX3_writeCell_23 (by decide) (fun h16 => ?_) (fun h16 => ?_)
        · have h17 := ifp h16 h15
          refine G_aload_n X dX3_writeCell_29 0 rfl ?_
          refine G_iload_n X dX3_writeCell_30 1 rfl ?_
          obtain ⟨v18, h19, h20⟩ := bnd h17
          refine G1_calli X (As := [.int x0]) (rest := []) (wr := []) (ws' := [(h, .inr (3, [.ref h_numbers])), (h_numbers, .inl (cI, 352, .inl f_h_numbers))]) dX3_writeCell_31 pkX3_lives gX3_writeCell_X3_lives (kkX3_lives l D cI cR h h_numbers f_h_numbers x0 v18 h19) ⟨rfl, rfl⟩ ⟨Nat.le_of_ble_eq_true rfl, Nat.le_of_ble_eq_true rfl⟩ rfl rfl (Nat.le_of_ble_eq_true rfl) 0 rfl rfl [0, 1] [] rfl rfl ⟨rfl, rfl, by decide⟩ ⟨Nat.zero_le _, Nat.zero_le _⟩ [0, 1] rfl rfl ?_
          refine G_if_ne X (tgt := 40) dX3_writeCell_34 (by decide) (fun h21 => ?_) (fun h21 => ?_)
          · have h22 := ifp h21 h20
            refine G_ldc X dX3_writeCell_37 flX3_writeCell_68 ?_
            cases h22
            exact rt _ _ _ _ dX3_writeCell_39 ⟨rfl, rfl⟩
          · have h23 := ifn h21 h20
            refine G_aload_n X dX3_writeCell_40 0 rfl ?_
            refine G_bipush X (v := 64) dX3_writeCell_41 (by decide) ?_
            refine G_iload_n X dX3_writeCell_43 1 rfl ?_
            refine G_bipush X (v := 8) dX3_writeCell_44 (by decide) ?_
            refine G_imul X dX3_writeCell_46 ?_
            refine G_iadd X dX3_writeCell_47 ?_
            refine G_iload_n X dX3_writeCell_48 2 rfl ?_
            refine G_iadd X dX3_writeCell_49 ?_
            refine G_iload_n X dX3_writeCell_50 3 rfl ?_
            obtain ⟨v24, h25, h26⟩ := bnd h23
            refine G1_callv X (As := [.int ((64 + (x0 * 8)) + x1), .int x2]) (rest := []) (wr := []) (ws' := [(h, .inr (3, [.ref h_numbers])), (h_numbers, .inl (cI, 352, .inl v24))]) dX3_writeCell_51 pkX3_put gX3_writeCell_X3_put (kkX3_put l D cI cR h h_numbers f_h_numbers ((64 + (x0 * 8)) + x1) x2 v24 h25) ⟨rfl, rfl⟩ ⟨Nat.le_of_ble_eq_true rfl, Nat.le_of_ble_eq_true rfl⟩ rfl rfl (Nat.le_of_ble_eq_true rfl) 0 rfl rfl [0, 1] [] rfl rfl ⟨rfl, rfl, by decide⟩ ⟨Nat.zero_le _, Nat.zero_le _⟩ [0, 1] rfl rfl ?_
            refine G_aload_n X dX3_writeCell_54 0 rfl ?_
            refine G_sipush X (v := 136) dX3_writeCell_55 (by decide) ?_
            refine G_iload_n X dX3_writeCell_58 1 rfl ?_
            refine G_bipush X (v := 8) dX3_writeCell_59 (by decide) ?_
            refine G_imul X dX3_writeCell_61 ?_
            refine G_iadd X dX3_writeCell_62 ?_
            refine G_iload_n X dX3_writeCell_63 2 rfl ?_
            refine G_iadd X dX3_writeCell_64 ?_
            refine G_iconst X (v := 0) dX3_writeCell_65 (by decide) ?_
            obtain ⟨v27, h28, h29⟩ := bnd h26
            refine G1_callv X (As := [.int ((136 + (x0 * 8)) + x1), .int 0]) (rest := []) (wr := []) (ws' := [(h, .inr (3, [.ref h_numbers])), (h_numbers, .inl (cI, 352, .inl v27))]) dX3_writeCell_66 pkX3_put gX3_writeCell_X3_put (kkX3_put l D cI cR h h_numbers v24 ((136 + (x0 * 8)) + x1) 0 v27 h28) ⟨rfl, rfl⟩ ⟨Nat.le_of_ble_eq_true rfl, Nat.le_of_ble_eq_true rfl⟩ rfl rfl (Nat.le_of_ble_eq_true rfl) 0 rfl rfl [0, 1] [] rfl rfl ⟨rfl, rfl, by decide⟩ ⟨Nat.zero_le _, Nat.zero_le _⟩ [0, 1] rfl rfl ?_
            refine G_aload_n X dX3_writeCell_69 0 rfl ?_
            refine G_iconst X (v := 4) dX3_writeCell_70 (by decide) ?_
            refine G_iconst X (v := 1) dX3_writeCell_71 (by decide) ?_
            obtain ⟨v30, h31, h32⟩ := bnd h29
            refine G1_callv X (As := [.int 4, .int 1]) (rest := []) (wr := []) (ws' := [(h, .inr (3, [.ref h_numbers])), (h_numbers, .inl (cI, 352, .inl v30))]) dX3_writeCell_72 pkX3_add gX3_writeCell_X3_add (kkX3_add l D cI cR h h_numbers v27 4 1 v30 h31) ⟨rfl, rfl⟩ ⟨Nat.le_of_ble_eq_true rfl, Nat.le_of_ble_eq_true rfl⟩ rfl rfl (Nat.le_of_ble_eq_true rfl) 0 rfl rfl [0, 1] [] rfl rfl ⟨rfl, rfl, by decide⟩ ⟨Nat.zero_le _, Nat.zero_le _⟩ [0, 1] rfl rfl ?_
            refine G_aload_n X dX3_writeCell_75 0 rfl ?_
            refine G_iload_n X dX3_writeCell_76 1 rfl ?_
            refine G_iload_n X dX3_writeCell_77 2 rfl ?_
            refine G_aload_n X dX3_writeCell_78 0 rfl ?_
            refine G_iload_n X dX3_writeCell_79 1 rfl ?_
            refine G_iload_n X dX3_writeCell_80 2 rfl ?_
            obtain ⟨v33, h34, h35⟩ := bnd h32
            refine G1_callsi X (As := [.int x1]) (rest := [.int x0, .ref h, .int x1, .int x0, .ref h]) (wr := [(h, .inr (3, [.ref h_numbers])), (h_numbers, .inl (cI, 352, .inl v30))]) (ws' := [(h, .inr (3, [.ref h_numbers])), (h_numbers, .inl (cI, 352, .inl v30))]) dX3_writeCell_81 pkX3_stepToHolder gX3_writeCell_X3_stepToHolder (kkX3_stepToHolder l D cI cR x1 v33 h34) ⟨rfl, rfl⟩ ⟨Nat.le_of_ble_eq_true rfl, Nat.le_of_ble_eq_true rfl⟩ rfl rfl (Nat.le_of_ble_eq_true rfl) [] [0, 1] rfl rfl ⟨rfl, rfl, by decide⟩ ⟨Nat.zero_le _, Nat.zero_le _⟩ [0, 1] rfl rfl ?_
            obtain ⟨v36, h37, h38⟩ := bnd h35
            refine G1_calli X (As := [.int x0, .int v33]) (rest := [.int x1, .int x0, .ref h]) (wr := []) (ws' := [(h, .inr (3, [.ref h_numbers])), (h_numbers, .inl (cI, 352, .inl v30))]) dX3_writeCell_84 pkX3_neighbour gX3_writeCell_X3_neighbour (kkX3_neighbour l D cI cR h h_numbers v30 x0 v33 v36 h37) ⟨rfl, rfl⟩ ⟨Nat.le_of_ble_eq_true rfl, Nat.le_of_ble_eq_true rfl⟩ rfl rfl (Nat.le_of_ble_eq_true rfl) 0 rfl rfl [0, 1] [] rfl rfl ⟨rfl, rfl, by decide⟩ ⟨Nat.zero_le _, Nat.zero_le _⟩ [0, 1] rfl rfl ?_
            obtain ⟨v39, h40, h41⟩ := bnd h38
            refine G1_calli X (As := [.int x0, .int x1, .int v36]) (rest := []) (wr := []) (ws' := [(h, .inr (3, [.ref h_numbers])), (h_numbers, .inl (cI, 352, .inl v39.2))]) dX3_writeCell_87 pkX3_layEcho gX3_writeCell_X3_layEcho (kkX3_layEcho l D cI cR h h_numbers v30 x0 x1 v36 v39 h40) ⟨rfl, rfl⟩ ⟨Nat.le_of_ble_eq_true rfl, Nat.le_of_ble_eq_true rfl⟩ rfl rfl (Nat.le_of_ble_eq_true rfl) 0 rfl rfl [0, 1] [] rfl rfl ⟨rfl, rfl, by decide⟩ ⟨Nat.zero_le _, Nat.zero_le _⟩ [0, 1] rfl rfl ?_
            cases h41
            exact rt _ _ _ _ dX3_writeCell_90 ⟨rfl, rfl⟩
        · have h42 := ifn h16 h15
          refine G_ldc X dX3_writeCell_26 flX3_writeCell_52 ?_
          cases h42
          exact rt _ _ _ _ dX3_writeCell_28 ⟨rfl, rfl⟩
def rmX3_loseRow : Room := { frames := 4, cells := 0, slots := 0, locals := 96 }
theorem pkX3_loseRow : cK yX3_loseRow wsX3_loseRow cX3_loseRow 4 (some .int) 1 RX3 := ⟨⟨_, rfl⟩, by decide +kernel⟩
theorem flX3_loseRow_52 : Cond.constant RX3 52 (-1000001) ∈ wsX3_loseRow := by decide +kernel
theorem flX3_loseRow_68 : Cond.constant RX3 68 (-1000002) ∈ wsX3_loseRow := by decide +kernel
set_option maxHeartbeats 4000000 in
set_option maxRecDepth 100000 in
theorem kkX3_loseRow (l : Launch) (D : va_G) (cI cR : ClassId) (h h_numbers : Nat) (f_h_numbers : Nat → Int32) (x0 : Int32) (z : (Int32 × (Nat → Int32))) (hz : MX3_loseRow f_h_numbers x0 = some z) : cI1 l yX3_loseRow wsX3_loseRow rmX3_loseRow D cI cR [.ref h, .int x0] [(h, .inr (3, [.ref h_numbers])), (h_numbers, .inl (cI, 352, .inl f_h_numbers))] z.1 [(h, .inr (3, [.ref h_numbers])), (h_numbers, .inl (cI, 352, .inl z.2))] := by
  unfold MX3_loseRow at hz
  refine kI_of (cc := cX3_loseRow) (maxL := 4) (own := RX3) (by decide +kernel) rfl rfl (Nat.le_of_ble_eq_true rfl) (lv0 := [(0, .ref h), (1, .int x0)]) rfl (fun p e s m args below meth c A Q X rt => ?_)
  refine G_aload_n X dX3_loseRow_0 0 rfl ?_
  refine G_iload_n X dX3_loseRow_1 1 rfl ?_
  obtain ⟨v1, h2, h3⟩ := bnd hz
  refine G1_calli X (As := [.int x0]) (rest := []) (wr := []) (ws' := [(h, .inr (3, [.ref h_numbers])), (h_numbers, .inl (cI, 352, .inl f_h_numbers))]) dX3_loseRow_2 pkX3_hasRow gX3_loseRow_X3_hasRow (kkX3_hasRow l D cI cR h h_numbers f_h_numbers x0 v1 h2) ⟨rfl, rfl⟩ ⟨Nat.le_of_ble_eq_true rfl, Nat.le_of_ble_eq_true rfl⟩ rfl rfl (Nat.le_of_ble_eq_true rfl) 0 rfl rfl [0, 1] [] rfl rfl ⟨rfl, rfl, by decide⟩ ⟨Nat.zero_le _, Nat.zero_le _⟩ [0, 1] rfl rfl ?_
  refine G_if_ne X (tgt := 11) dX3_loseRow_5 (by decide) (fun h4 => ?_) (fun h4 => ?_)
  · have h5 := ifp h4 h3
    refine G_ldc X dX3_loseRow_8 flX3_loseRow_52 ?_
    cases h5
    exact rt _ _ _ _ dX3_loseRow_10 ⟨rfl, rfl⟩
  · have h6 := ifn h4 h3
    refine G_aload_n X dX3_loseRow_11 0 rfl ?_
    refine G_iload_n X dX3_loseRow_12 1 rfl ?_
    obtain ⟨v7, h8, h9⟩ := bnd h6
    refine G1_calli X (As := [.int x0]) (rest := []) (wr := []) (ws' := [(h, .inr (3, [.ref h_numbers])), (h_numbers, .inl (cI, 352, .inl f_h_numbers))]) dX3_loseRow_13 pkX3_lives gX3_loseRow_X3_lives (kkX3_lives l D cI cR h h_numbers f_h_numbers x0 v7 h8) ⟨rfl, rfl⟩ ⟨Nat.le_of_ble_eq_true rfl, Nat.le_of_ble_eq_true rfl⟩ rfl rfl (Nat.le_of_ble_eq_true rfl) 0 rfl rfl [0, 1] [] rfl rfl ⟨rfl, rfl, by decide⟩ ⟨Nat.zero_le _, Nat.zero_le _⟩ [0, 1] rfl rfl ?_
    refine G_if_ne X (tgt := 22) dX3_loseRow_16 (by decide) (fun h10 => ?_) (fun h10 => ?_)
    · have h11 := ifp h10 h9
      refine G_ldc X dX3_loseRow_19 flX3_loseRow_68 ?_
      cases h11
      exact rt _ _ _ _ dX3_loseRow_21 ⟨rfl, rfl⟩
    · have h12 := ifn h10 h9
      refine G_aload_n X dX3_loseRow_22 0 rfl ?_
      refine G_iload_n X dX3_loseRow_23 1 rfl ?_
      obtain ⟨v13, h14, h15⟩ := bnd h12
      refine G1_calli X (As := [.int x0]) (rest := []) (wr := []) (ws' := [(h, .inr (3, [.ref h_numbers])), (h_numbers, .inl (cI, 352, .inl f_h_numbers))]) dX3_loseRow_24 pkX3_comingBack gX3_loseRow_X3_comingBack (kkX3_comingBack l D cI cR h h_numbers f_h_numbers x0 v13 h14) ⟨rfl, rfl⟩ ⟨Nat.le_of_ble_eq_true rfl, Nat.le_of_ble_eq_true rfl⟩ rfl rfl (Nat.le_of_ble_eq_true rfl) 0 rfl rfl [0, 1] [] rfl rfl ⟨rfl, rfl, by decide⟩ ⟨Nat.zero_le _, Nat.zero_le _⟩ [0, 1] rfl rfl ?_
      refine G_istore_n X (lv' := [(2, .int v13), (0, .ref h), (1, .int x0)]) dX3_loseRow_27 (by decide) rfl ?_
      refine G_iconst X (v := 0) dX3_loseRow_28 (by decide) ?_
      refine G_istore_n X (lv' := [(3, .int 0), (2, .int v13), (0, .ref h), (1, .int x0)]) dX3_loseRow_29 (by decide) rfl ?_
      obtain ⟨j17, h18, h19⟩ := bnd h15
      have J24 : G p l e rmX3_loseRow s m args below meth c D A 4 Q 0 0 57 [(0, .ref h), (1, .int x0), (2, .int v13)] [] [(h, .inr (3, [.ref h_numbers])), (h_numbers, .inl (cI, 352, .inl j17))] := by
        refine G_aload_n X dX3_loseRow_57 0 rfl ?_
        refine G_bipush X (v := 28) dX3_loseRow_58 (by decide) ?_
        refine G_iload_n X dX3_loseRow_60 1 rfl ?_
        refine G_iadd X dX3_loseRow_61 ?_
        refine G_iconst X (v := 0) dX3_loseRow_62 (by decide) ?_
        obtain ⟨v26, h27, h28⟩ := bnd h19
        refine G1_callv X (As := [.int (28 + x0), .int 0]) (rest := []) (wr := []) (ws' := [(h, .inr (3, [.ref h_numbers])), (h_numbers, .inl (cI, 352, .inl v26))]) dX3_loseRow_63 pkX3_put gX3_loseRow_X3_put (kkX3_put l D cI cR h h_numbers j17 (28 + x0) 0 v26 h27) ⟨rfl, rfl⟩ ⟨Nat.le_of_ble_eq_true rfl, Nat.le_of_ble_eq_true rfl⟩ rfl rfl (Nat.le_of_ble_eq_true rfl) 0 rfl rfl [0, 1] [] rfl rfl ⟨rfl, rfl, by decide⟩ ⟨Nat.zero_le _, Nat.zero_le _⟩ [0, 1] rfl rfl ?_
        refine G_aload_n X dX3_loseRow_66 0 rfl ?_
        refine G_bipush X (v := 55) dX3_loseRow_67 (by decide) ?_
        refine G_iload_n X dX3_loseRow_69 1 rfl ?_
        refine G_iadd X dX3_loseRow_70 ?_
        refine G_iconst X (v := 0) dX3_loseRow_71 (by decide) ?_
        obtain ⟨v29, h30, h31⟩ := bnd h28
        refine G1_callv X (As := [.int (55 + x0), .int 0]) (rest := []) (wr := []) (ws' := [(h, .inr (3, [.ref h_numbers])), (h_numbers, .inl (cI, 352, .inl v29))]) dX3_loseRow_72 pkX3_put gX3_loseRow_X3_put (kkX3_put l D cI cR h h_numbers v26 (55 + x0) 0 v29 h30) ⟨rfl, rfl⟩ ⟨Nat.le_of_ble_eq_true rfl, Nat.le_of_ble_eq_true rfl⟩ rfl rfl (Nat.le_of_ble_eq_true rfl) 0 rfl rfl [0, 1] [] rfl rfl ⟨rfl, rfl, by decide⟩ ⟨Nat.zero_le _, Nat.zero_le _⟩ [0, 1] rfl rfl ?_
        refine G_aload_n X dX3_loseRow_75 0 rfl ?_
        refine G_bipush X (v := 37) dX3_loseRow_76 (by decide) ?_
        refine G_iload_n X dX3_loseRow_78 1 rfl ?_
        refine G_iadd X dX3_loseRow_79 ?_
        refine G_iconst X (v := 1) dX3_loseRow_80 (by decide) ?_
        obtain ⟨v32, h33, h34⟩ := bnd h31
        refine G1_callv X (As := [.int (37 + x0), .int 1]) (rest := []) (wr := []) (ws' := [(h, .inr (3, [.ref h_numbers])), (h_numbers, .inl (cI, 352, .inl v32))]) dX3_loseRow_81 pkX3_add gX3_loseRow_X3_add (kkX3_add l D cI cR h h_numbers v29 (37 + x0) 1 v32 h33) ⟨rfl, rfl⟩ ⟨Nat.le_of_ble_eq_true rfl, Nat.le_of_ble_eq_true rfl⟩ rfl rfl (Nat.le_of_ble_eq_true rfl) 0 rfl rfl [0, 1] [] rfl rfl ⟨rfl, rfl, by decide⟩ ⟨Nat.zero_le _, Nat.zero_le _⟩ [0, 1] rfl rfl ?_
        refine G_aload_n X dX3_loseRow_84 0 rfl ?_
        refine G_iconst X (v := 5) dX3_loseRow_85 (by decide) ?_
        refine G_iconst X (v := 1) dX3_loseRow_86 (by decide) ?_
        obtain ⟨v35, h36, h37⟩ := bnd h34
        refine G1_callv X (As := [.int 5, .int 1]) (rest := []) (wr := []) (ws' := [(h, .inr (3, [.ref h_numbers])), (h_numbers, .inl (cI, 352, .inl v35))]) dX3_loseRow_87 pkX3_add gX3_loseRow_X3_add (kkX3_add l D cI cR h h_numbers v32 5 1 v35 h36) ⟨rfl, rfl⟩ ⟨Nat.le_of_ble_eq_true rfl, Nat.le_of_ble_eq_true rfl⟩ rfl rfl (Nat.le_of_ble_eq_true rfl) 0 rfl rfl [0, 1] [] rfl rfl ⟨rfl, rfl, by decide⟩ ⟨Nat.zero_le _, Nat.zero_le _⟩ [0, 1] rfl rfl ?_
        refine G_iload_n X dX3_loseRow_90 2 rfl ?_
        cases h37
        exact rt _ _ _ _ dX3_loseRow_91 ⟨rfl, rfl⟩
      refine G_lv [2, 3, 1, 0] rfl ?_
      refine itr_ind (P := fun s16 : (Int32 × (Nat → Int32)) => G p l e rmX3_loseRow s m args below meth c D A 4 Q 0 0 30 [(0, .ref h), (1, .int x0), (2, .int v13), (3, .int s16.1)] [] [(h, .inr (3, [.ref h_numbers])), (h_numbers, .inl (cI, 352, .inl s16.2))]) (fun s16 o23 h20 h21 h22 => ?_) FU _ h18
      unfold SX3_loseRow_30 at h20
      refine G_iload_n X dX3_loseRow_30 3 rfl ?_
      refine G_bipush X (v := 8) dX3_loseRow_31 (by decide) ?_
      refine G_icmp_ge X (tgt := 57) dX3_loseRow_33 (by decide) (fun h38 => ?_) (fun h38 => ?_)
      · have h39 := ifp h38 h20
        cases h39
        have h40 := h22 _ rfl
        subst h40
        exact G_lv [0, 1, 2] rfl (J24)
      · have h41 := ifn h38 h20
        refine G_aload_n X dX3_loseRow_36 0 rfl ?_
        refine G_sipush X (v := 136) dX3_loseRow_37 (by decide) ?_
        refine G_iload_n X dX3_loseRow_40 1 rfl ?_
        refine G_bipush X (v := 8) dX3_loseRow_41 (by decide) ?_
        refine G_imul X dX3_loseRow_43 ?_
        refine G_iadd X dX3_loseRow_44 ?_
        refine G_iload_n X dX3_loseRow_45 3 rfl ?_
        refine G_iadd X dX3_loseRow_46 ?_
        refine G_iconst X (v := 0) dX3_loseRow_47 (by decide) ?_
        obtain ⟨v42, h43, h44⟩ := bnd h41
        refine G1_callv X (As := [.int ((136 + (x0 * 8)) + s16.1), .int 0]) (rest := []) (wr := []) (ws' := [(h, .inr (3, [.ref h_numbers])), (h_numbers, .inl (cI, 352, .inl v42))]) dX3_loseRow_48 pkX3_put gX3_loseRow_X3_put (kkX3_put l D cI cR h h_numbers s16.2 ((136 + (x0 * 8)) + s16.1) 0 v42 h43) ⟨rfl, rfl⟩ ⟨Nat.le_of_ble_eq_true rfl, Nat.le_of_ble_eq_true rfl⟩ rfl rfl (Nat.le_of_ble_eq_true rfl) 0 rfl rfl [0, 1] [] rfl rfl ⟨rfl, rfl, by decide⟩ ⟨Nat.zero_le _, Nat.zero_le _⟩ [0, 1] rfl rfl ?_
        refine G_iinc X (v := (s16.1 + 1)) (lv' := [(3, .int (s16.1 + 1)), (0, .ref h), (1, .int x0), (2, .int v13)]) dX3_loseRow_51 3 rfl rfl (by decide) rfl ?_
        refine G_goto X (tgt := 30) dX3_loseRow_54 (by decide) ?_
        cases h44
        exact G_lv [1, 2, 3, 0] rfl (h21 _ rfl)
def rmX3_mendCell : Room := { frames := 2, cells := 0, slots := 0, locals := 44 }
theorem pkX3_mendCell : cK yX3_mendCell wsX3_mendCell cX3_mendCell 4 none 2 RX3 := ⟨⟨_, rfl⟩, by decide +kernel⟩
set_option maxHeartbeats 4000000 in
set_option maxRecDepth 100000 in
theorem kkX3_mendCell (l : Launch) (D : va_G) (cI cR : ClassId) (h h_numbers : Nat) (f_h_numbers : Nat → Int32) (x0 : Int32) (x1 : Int32) (z : (Nat → Int32)) (hz : MX3_mendCell f_h_numbers x0 x1 = some z) : cV1 l yX3_mendCell wsX3_mendCell rmX3_mendCell D cI cR [.ref h, .int x0, .int x1] [(h, .inr (3, [.ref h_numbers])), (h_numbers, .inl (cI, 352, .inl f_h_numbers))] [(h, .inr (3, [.ref h_numbers])), (h_numbers, .inl (cI, 352, .inl z))] := by
  unfold MX3_mendCell at hz
  refine kV_of (cc := cX3_mendCell) (maxL := 4) (own := RX3) (by decide +kernel) rfl rfl (Nat.le_of_ble_eq_true rfl) (lv0 := [(0, .ref h), (1, .int x0), (2, .int x1)]) rfl (fun p e s m args below meth c A Q X rt => ?_)
  refine G_iload_n X dX3_mendCell_0 2 rfl ?_
  refine G_iconst X (v := (-1)) dX3_mendCell_1 (by decide) ?_
  obtain ⟨w2, h3, h4⟩ := bnd hz
  have J5 : ∀ j1, w2 = .inl j1 → G p l e rmX3_mendCell s m args below meth c D A 4 Q 0 0 21 [(0, .ref h), (1, .int x0), (2, .int x1)] [] [(h, .inr (3, [.ref h_numbers])), (h_numbers, .inl (cI, 352, .inl f_h_numbers))] := by
    intro j1 q
    subst q
    have h6 := cnt_l h4
    refine G_iconst X (v := 0) dX3_mendCell_21 (by decide) ?_
    refine G_istore_n X (lv' := [(3, .int 0), (0, .ref h), (1, .int x0), (2, .int x1)]) dX3_mendCell_22 (by decide) rfl ?_
    refine G_aload_n X dX3_mendCell_23 1 rfl ?_
    refine G_bipush X (v := 64) dX3_mendCell_24 (by decide) ?_
    refine G_iload_n X dX3_mendCell_26 2 rfl ?_
    refine G_iadd X dX3_mendCell_27 ?_
    refine G_iload_n X dX3_mendCell_28 3 rfl ?_
    obtain ⟨v7, h8, h9⟩ := bnd h6
    refine G1_callv X (As := [.int (64 + x0), .int x1]) (rest := []) (wr := []) (ws' := [(h, .inr (3, [.ref h_numbers])), (h_numbers, .inl (cI, 352, .inl v7))]) dX3_mendCell_29 pkX3_put gX3_mendCell_X3_put (kkX3_put l D cI cR h h_numbers f_h_numbers (64 + x0) x1 v7 h8) ⟨rfl, rfl⟩ ⟨Nat.le_of_ble_eq_true rfl, Nat.le_of_ble_eq_true rfl⟩ rfl rfl (Nat.le_of_ble_eq_true rfl) 0 rfl rfl [0, 1] [] rfl rfl ⟨rfl, rfl, by decide⟩ ⟨Nat.zero_le _, Nat.zero_le _⟩ [0, 1] rfl rfl ?_
    refine G_aload_n X dX3_mendCell_32 1 rfl ?_
    refine G_sipush X (v := 136) dX3_mendCell_33 (by decide) ?_
    refine G_iload_n X dX3_mendCell_36 2 rfl ?_
    refine G_iadd X dX3_mendCell_37 ?_
    refine G_iload_n X dX3_mendCell_38 0 rfl ?_
    obtain ⟨v10, h11, h12⟩ := bnd h9
    refine G1_callv X (As := [.int (136 + x0), .int 0]) (rest := []) (wr := []) (ws' := [(h, .inr (3, [.ref h_numbers])), (h_numbers, .inl (cI, 352, .inl v10))]) dX3_mendCell_39 pkX3_put gX3_mendCell_X3_put (kkX3_put l D cI cR h h_numbers v7 (136 + x0) 0 v10 h11) ⟨rfl, rfl⟩ ⟨Nat.le_of_ble_eq_true rfl, Nat.le_of_ble_eq_true rfl⟩ rfl rfl (Nat.le_of_ble_eq_true rfl) 0 rfl rfl [0, 1] [] rfl rfl ⟨rfl, rfl, by decide⟩ ⟨Nat.zero_le _, Nat.zero_le _⟩ [0, 1] rfl rfl ?_
    refine G_aload_n X dX3_mendCell_42 1 rfl ?_
    refine G_bipush X (v := 8) dX3_mendCell_43 (by decide) ?_
    refine G_iload_n X dX3_mendCell_45 0 rfl ?_
    obtain ⟨v13, h14, h15⟩ := bnd h12
    refine G1_callv X (As := [.int 8, .int 0]) (rest := []) (wr := []) (ws' := [(h, .inr (3, [.ref h_numbers])), (h_numbers, .inl (cI, 352, .inl v13))]) dX3_mendCell_46 pkX3_add gX3_mendCell_X3_add (kkX3_add l D cI cR h h_numbers v10 8 0 v13 h14) ⟨rfl, rfl⟩ ⟨Nat.le_of_ble_eq_true rfl, Nat.le_of_ble_eq_true rfl⟩ rfl rfl (Nat.le_of_ble_eq_true rfl) 0 rfl rfl [0, 1] [] rfl rfl ⟨rfl, rfl, by decide⟩ ⟨Nat.zero_le _, Nat.zero_le _⟩ [0, 1] rfl rfl ?_
    cases h15
    exact rt _ _ _ dX3_mendCell_49 rfl
  refine G_icmp_eq X (tgt := 21) dX3_mendCell_2 (by decide) (fun h16 => ?_) (fun h16 => ?_)
  · have h17 := ifp h16 h3
    cases h17
    exact J5 _ rfl
  · have h18 := ifn h16 h3
    refine G_iload_n X dX3_mendCell_5 2 rfl ?_
    refine G_aload_n X dX3_mendCell_6 0 rfl ?_
    refine G_bipush X (v := 64) dX3_mendCell_7 (by decide) ?_
    refine G_iload_n X dX3_mendCell_9 1 rfl ?_
    refine G_iadd X dX3_mendCell_10 ?_
    obtain ⟨v19, h20, h21⟩ := bnd h18
    refine G1_calli X (As := [.int (64 + x0)]) (rest := [.int x1]) (wr := []) (ws' := [(h, .inr (3, [.ref h_numbers])), (h_numbers, .inl (cI, 352, .inl f_h_numbers))]) dX3_mendCell_11 pkX3_get gX3_mendCell_X3_get (kkX3_get l D cI cR h h_numbers f_h_numbers (64 + x0) v19 h20) ⟨rfl, rfl⟩ ⟨Nat.le_of_ble_eq_true rfl, Nat.le_of_ble_eq_true rfl⟩ rfl rfl (Nat.le_of_ble_eq_true rfl) 0 rfl rfl [0, 1] [] rfl rfl ⟨rfl, rfl, by decide⟩ ⟨Nat.zero_le _, Nat.zero_le _⟩ [0, 1] rfl rfl ?_
    refine G_icmp_eq X (tgt := 21) dX3_mendCell_14 (by decide) (fun h22 => ?_) (fun h22 => ?_)
    · have h23 := ifp h22 h21
      cases h23
      exact J5 _ rfl
    · have h24 := ifn h22 h21
      refine G_iconst X (v := 1) dX3_mendCell_17 (by decide) ?_
      refine G_goto X (tgt := 22) dX3_mendCell_18 (by decide) ?_
      refine G_istore_n X (lv' := [(3, .int 1), (0, .ref h), (1, .int x0), (2, .int x1)]) dX3_mendCell_22 (by decide) rfl ?_
      refine G_aload_n X dX3_mendCell_23 1 rfl ?_
      refine G_bipush X (v := 64) dX3_mendCell_24 (by decide) ?_
      refine G_iload_n X dX3_mendCell_26 2 rfl ?_
      refine G_iadd X dX3_mendCell_27 ?_
      refine G_iload_n X dX3_mendCell_28 3 rfl ?_
      obtain ⟨v25, h26, h27⟩ := bnd h24
      refine G1_callv X (As := [.int (64 + x0), .int x1]) (rest := []) (wr := []) (ws' := [(h, .inr (3, [.ref h_numbers])), (h_numbers, .inl (cI, 352, .inl v25))]) dX3_mendCell_29 pkX3_put gX3_mendCell_X3_put (kkX3_put l D cI cR h h_numbers f_h_numbers (64 + x0) x1 v25 h26) ⟨rfl, rfl⟩ ⟨Nat.le_of_ble_eq_true rfl, Nat.le_of_ble_eq_true rfl⟩ rfl rfl (Nat.le_of_ble_eq_true rfl) 0 rfl rfl [0, 1] [] rfl rfl ⟨rfl, rfl, by decide⟩ ⟨Nat.zero_le _, Nat.zero_le _⟩ [0, 1] rfl rfl ?_
      refine G_aload_n X dX3_mendCell_32 1 rfl ?_
      refine G_sipush X (v := 136) dX3_mendCell_33 (by decide) ?_
      refine G_iload_n X dX3_mendCell_36 2 rfl ?_
      refine G_iadd X dX3_mendCell_37 ?_
      refine G_iload_n X dX3_mendCell_38 0 rfl ?_
      obtain ⟨v28, h29, h30⟩ := bnd h27
      refine G1_callv X (As := [.int (136 + x0), .int 1]) (rest := []) (wr := []) (ws' := [(h, .inr (3, [.ref h_numbers])), (h_numbers, .inl (cI, 352, .inl v28))]) dX3_mendCell_39 pkX3_put gX3_mendCell_X3_put (kkX3_put l D cI cR h h_numbers v25 (136 + x0) 1 v28 h29) ⟨rfl, rfl⟩ ⟨Nat.le_of_ble_eq_true rfl, Nat.le_of_ble_eq_true rfl⟩ rfl rfl (Nat.le_of_ble_eq_true rfl) 0 rfl rfl [0, 1] [] rfl rfl ⟨rfl, rfl, by decide⟩ ⟨Nat.zero_le _, Nat.zero_le _⟩ [0, 1] rfl rfl ?_
      refine G_aload_n X dX3_mendCell_42 1 rfl ?_
      refine G_bipush X (v := 8) dX3_mendCell_43 (by decide) ?_
      refine G_iload_n X dX3_mendCell_45 0 rfl ?_
      obtain ⟨v31, h32, h33⟩ := bnd h30
      refine G1_callv X (As := [.int 8, .int 1]) (rest := []) (wr := []) (ws' := [(h, .inr (3, [.ref h_numbers])), (h_numbers, .inl (cI, 352, .inl v31))]) dX3_mendCell_46 pkX3_add gX3_mendCell_X3_add (kkX3_add l D cI cR h h_numbers v28 8 1 v31 h32) ⟨rfl, rfl⟩ ⟨Nat.le_of_ble_eq_true rfl, Nat.le_of_ble_eq_true rfl⟩ rfl rfl (Nat.le_of_ble_eq_true rfl) 0 rfl rfl [0, 1] [] rfl rfl ⟨rfl, rfl, by decide⟩ ⟨Nat.zero_le _, Nat.zero_le _⟩ [0, 1] rfl rfl ?_
      cases h33
      have h34 := congrArg some (cnt_r h4)
      cases h34
      exact rt _ _ _ dX3_mendCell_49 rfl
def rmX3_mendRow : Room := { frames := 4, cells := 0, slots := 0, locals := 166 }
theorem pkX3_mendRow : cK yX3_mendRow wsX3_mendRow cX3_mendRow 5 (some .int) 1 RX3 := ⟨⟨_, rfl⟩, by decide +kernel⟩
theorem flX3_mendRow_52 : Cond.constant RX3 52 (-1000001) ∈ wsX3_mendRow := by decide +kernel
theorem flX3_mendRow_68 : Cond.constant RX3 68 (-1000002) ∈ wsX3_mendRow := by decide +kernel
set_option maxHeartbeats 4000000 in
set_option maxRecDepth 100000 in
theorem kkX3_mendRow (l : Launch) (D : va_G) (cI cR : ClassId) (h h_numbers : Nat) (f_h_numbers : Nat → Int32) (x0 : Int32) (z : (Int32 × (Nat → Int32))) (hz : MX3_mendRow f_h_numbers x0 = some z) : cI1 l yX3_mendRow wsX3_mendRow rmX3_mendRow D cI cR [.ref h, .int x0] [(h, .inr (3, [.ref h_numbers])), (h_numbers, .inl (cI, 352, .inl f_h_numbers))] z.1 [(h, .inr (3, [.ref h_numbers])), (h_numbers, .inl (cI, 352, .inl z.2))] := by
  unfold MX3_mendRow at hz
  refine kI_of (cc := cX3_mendRow) (maxL := 5) (own := RX3) (by decide +kernel) rfl rfl (Nat.le_of_ble_eq_true rfl) (lv0 := [(0, .ref h), (1, .int x0)]) rfl (fun p e s m args below meth c A Q X rt => ?_)
  refine G_aload_n X dX3_mendRow_0 0 rfl ?_
  refine G_iload_n X dX3_mendRow_1 1 rfl ?_
  obtain ⟨v1, h2, h3⟩ := bnd hz
  refine G1_calli X (As := [.int x0]) (rest := []) (wr := []) (ws' := [(h, .inr (3, [.ref h_numbers])), (h_numbers, .inl (cI, 352, .inl f_h_numbers))]) dX3_mendRow_2 pkX3_hasRow gX3_mendRow_X3_hasRow (kkX3_hasRow l D cI cR h h_numbers f_h_numbers x0 v1 h2) ⟨rfl, rfl⟩ ⟨Nat.le_of_ble_eq_true rfl, Nat.le_of_ble_eq_true rfl⟩ rfl rfl (Nat.le_of_ble_eq_true rfl) 0 rfl rfl [0, 1] [] rfl rfl ⟨rfl, rfl, by decide⟩ ⟨Nat.zero_le _, Nat.zero_le _⟩ [0, 1] rfl rfl ?_
  refine G_if_ne X (tgt := 11) dX3_mendRow_5 (by decide) (fun h4 => ?_) (fun h4 => ?_)
  · have h5 := ifp h4 h3
    refine G_ldc X dX3_mendRow_8 flX3_mendRow_52 ?_
    cases h5
    exact rt _ _ _ _ dX3_mendRow_10 ⟨rfl, rfl⟩
  · have h6 := ifn h4 h3
    refine G_aload_n X dX3_mendRow_11 0 rfl ?_
    refine G_iload_n X dX3_mendRow_12 1 rfl ?_
    obtain ⟨v7, h8, h9⟩ := bnd h6
    refine G1_calli X (As := [.int x0]) (rest := []) (wr := []) (ws' := [(h, .inr (3, [.ref h_numbers])), (h_numbers, .inl (cI, 352, .inl f_h_numbers))]) dX3_mendRow_13 pkX3_lives gX3_mendRow_X3_lives (kkX3_lives l D cI cR h h_numbers f_h_numbers x0 v7 h8) ⟨rfl, rfl⟩ ⟨Nat.le_of_ble_eq_true rfl, Nat.le_of_ble_eq_true rfl⟩ rfl rfl (Nat.le_of_ble_eq_true rfl) 0 rfl rfl [0, 1] [] rfl rfl ⟨rfl, rfl, by decide⟩ ⟨Nat.zero_le _, Nat.zero_le _⟩ [0, 1] rfl rfl ?_
    refine G_if_eq X (tgt := 22) dX3_mendRow_16 (by decide) (fun h10 => ?_) (fun h10 => ?_)
    · have h11 := ifp h10 h9
      refine G_aload_n X dX3_mendRow_22 0 rfl ?_
      refine G_iload_n X dX3_mendRow_23 1 rfl ?_
      obtain ⟨v12, h13, h14⟩ := bnd h11
      refine G1_calli X (As := [.int x0]) (rest := []) (wr := []) (ws' := [(h, .inr (3, [.ref h_numbers])), (h_numbers, .inl (cI, 352, .inl f_h_numbers))]) dX3_mendRow_24 pkX3_comingBack gX3_mendRow_X3_comingBack (kkX3_comingBack l D cI cR h h_numbers f_h_numbers x0 v12 h13) ⟨rfl, rfl⟩ ⟨Nat.le_of_ble_eq_true rfl, Nat.le_of_ble_eq_true rfl⟩ rfl rfl (Nat.le_of_ble_eq_true rfl) 0 rfl rfl [0, 1] [] rfl rfl ⟨rfl, rfl, by decide⟩ ⟨Nat.zero_le _, Nat.zero_le _⟩ [0, 1] rfl rfl ?_
      refine G_istore_n X (lv' := [(2, .int v12), (0, .ref h), (1, .int x0)]) dX3_mendRow_27 (by decide) rfl ?_
      refine G_iconst X (v := 0) dX3_mendRow_28 (by decide) ?_
      refine G_istore_n X (lv' := [(3, .int 0), (2, .int v12), (0, .ref h), (1, .int x0)]) dX3_mendRow_29 (by decide) rfl ?_
      obtain ⟨j16, h17, h18⟩ := bnd h14
      have J23 : G p l e rmX3_mendRow s m args below meth c D A 5 Q 0 0 75 [(0, .ref h), (1, .int x0), (2, .int v12)] [] [(h, .inr (3, [.ref h_numbers])), (h_numbers, .inl (cI, 352, .inl j16))] := by
        refine G_aload_n X dX3_mendRow_75 0 rfl ?_
        refine G_bipush X (v := 28) dX3_mendRow_76 (by decide) ?_
        refine G_iload_n X dX3_mendRow_78 1 rfl ?_
        refine G_iadd X dX3_mendRow_79 ?_
        refine G_iconst X (v := 1) dX3_mendRow_80 (by decide) ?_
        obtain ⟨v25, h26, h27⟩ := bnd h18
        refine G1_callv X (As := [.int (28 + x0), .int 1]) (rest := []) (wr := []) (ws' := [(h, .inr (3, [.ref h_numbers])), (h_numbers, .inl (cI, 352, .inl v25))]) dX3_mendRow_81 pkX3_put gX3_mendRow_X3_put (kkX3_put l D cI cR h h_numbers j16 (28 + x0) 1 v25 h26) ⟨rfl, rfl⟩ ⟨Nat.le_of_ble_eq_true rfl, Nat.le_of_ble_eq_true rfl⟩ rfl rfl (Nat.le_of_ble_eq_true rfl) 0 rfl rfl [0, 1] [] rfl rfl ⟨rfl, rfl, by decide⟩ ⟨Nat.zero_le _, Nat.zero_le _⟩ [0, 1] rfl rfl ?_
        refine G_aload_n X dX3_mendRow_84 0 rfl ?_
        refine G_aload_n X dX3_mendRow_85 0 rfl ?_
        refine G_iload_n X dX3_mendRow_86 1 rfl ?_
        refine G_iconst X (v := (-1)) dX3_mendRow_87 (by decide) ?_
        obtain ⟨v28, h29, h30⟩ := bnd h27
        refine G1_calli X (As := [.int x0, .int (-1)]) (rest := [.ref h]) (wr := []) (ws' := [(h, .inr (3, [.ref h_numbers])), (h_numbers, .inl (cI, 352, .inl v25))]) dX3_mendRow_88 pkX3_neighbour gX3_mendRow_X3_neighbour (kkX3_neighbour l D cI cR h h_numbers v25 x0 (-1) v28 h29) ⟨rfl, rfl⟩ ⟨Nat.le_of_ble_eq_true rfl, Nat.le_of_ble_eq_true rfl⟩ rfl rfl (Nat.le_of_ble_eq_true rfl) 0 rfl rfl [0, 1] [] rfl rfl ⟨rfl, rfl, by decide⟩ ⟨Nat.zero_le _, Nat.zero_le _⟩ [0, 1] rfl rfl ?_
        obtain ⟨v31, h32, h33⟩ := bnd h30
        refine G1_calli X (As := [.int v28]) (rest := []) (wr := []) (ws' := [(h, .inr (3, [.ref h_numbers])), (h_numbers, .inl (cI, 352, .inl v31.2))]) dX3_mendRow_91 pkX3_layRow gX3_mendRow_X3_layRow (kkX3_layRow l D cI cR h h_numbers v25 v28 v31 h32) ⟨rfl, rfl⟩ ⟨Nat.le_of_ble_eq_true rfl, Nat.le_of_ble_eq_true rfl⟩ rfl rfl (Nat.le_of_ble_eq_true rfl) 0 rfl rfl [0, 1] [] rfl rfl ⟨rfl, rfl, by decide⟩ ⟨Nat.zero_le _, Nat.zero_le _⟩ [0, 1] rfl rfl ?_
        refine G_pop X dX3_mendRow_94 rfl ?_
        refine G_aload_n X dX3_mendRow_95 0 rfl ?_
        refine G_aload_n X dX3_mendRow_96 0 rfl ?_
        refine G_iload_n X dX3_mendRow_97 1 rfl ?_
        refine G_iconst X (v := 1) dX3_mendRow_98 (by decide) ?_
        obtain ⟨v34, h35, h36⟩ := bnd h33
        refine G1_calli X (As := [.int x0, .int 1]) (rest := [.ref h]) (wr := []) (ws' := [(h, .inr (3, [.ref h_numbers])), (h_numbers, .inl (cI, 352, .inl v31.2))]) dX3_mendRow_99 pkX3_neighbour gX3_mendRow_X3_neighbour (kkX3_neighbour l D cI cR h h_numbers v31.2 x0 1 v34 h35) ⟨rfl, rfl⟩ ⟨Nat.le_of_ble_eq_true rfl, Nat.le_of_ble_eq_true rfl⟩ rfl rfl (Nat.le_of_ble_eq_true rfl) 0 rfl rfl [0, 1] [] rfl rfl ⟨rfl, rfl, by decide⟩ ⟨Nat.zero_le _, Nat.zero_le _⟩ [0, 1] rfl rfl ?_
        obtain ⟨v37, h38, h39⟩ := bnd h36
        refine G1_calli X (As := [.int v34]) (rest := []) (wr := []) (ws' := [(h, .inr (3, [.ref h_numbers])), (h_numbers, .inl (cI, 352, .inl v37.2))]) dX3_mendRow_102 pkX3_layRow gX3_mendRow_X3_layRow (kkX3_layRow l D cI cR h h_numbers v31.2 v34 v37 h38) ⟨rfl, rfl⟩ ⟨Nat.le_of_ble_eq_true rfl, Nat.le_of_ble_eq_true rfl⟩ rfl rfl (Nat.le_of_ble_eq_true rfl) 0 rfl rfl [0, 1] [] rfl rfl ⟨rfl, rfl, by decide⟩ ⟨Nat.zero_le _, Nat.zero_le _⟩ [0, 1] rfl rfl ?_
        refine G_pop X dX3_mendRow_105 rfl ?_
        refine G_aload_n X dX3_mendRow_106 0 rfl ?_
        refine G_iload_n X dX3_mendRow_107 1 rfl ?_
        obtain ⟨v40, h41, h42⟩ := bnd h39
        refine G1_calli X (As := [.int x0]) (rest := []) (wr := []) (ws' := [(h, .inr (3, [.ref h_numbers])), (h_numbers, .inl (cI, 352, .inl v40.2))]) dX3_mendRow_108 pkX3_layRow gX3_mendRow_X3_layRow (kkX3_layRow l D cI cR h h_numbers v37.2 x0 v40 h41) ⟨rfl, rfl⟩ ⟨Nat.le_of_ble_eq_true rfl, Nat.le_of_ble_eq_true rfl⟩ rfl rfl (Nat.le_of_ble_eq_true rfl) 0 rfl rfl [0, 1] [] rfl rfl ⟨rfl, rfl, by decide⟩ ⟨Nat.zero_le _, Nat.zero_le _⟩ [0, 1] rfl rfl ?_
        refine G_pop X dX3_mendRow_111 rfl ?_
        refine G_aload_n X dX3_mendRow_112 0 rfl ?_
        refine G_bipush X (v := 6) dX3_mendRow_113 (by decide) ?_
        refine G_iconst X (v := 1) dX3_mendRow_115 (by decide) ?_
        obtain ⟨v43, h44, h45⟩ := bnd h42
        refine G1_callv X (As := [.int 6, .int 1]) (rest := []) (wr := []) (ws' := [(h, .inr (3, [.ref h_numbers])), (h_numbers, .inl (cI, 352, .inl v43))]) dX3_mendRow_116 pkX3_add gX3_mendRow_X3_add (kkX3_add l D cI cR h h_numbers v40.2 6 1 v43 h44) ⟨rfl, rfl⟩ ⟨Nat.le_of_ble_eq_true rfl, Nat.le_of_ble_eq_true rfl⟩ rfl rfl (Nat.le_of_ble_eq_true rfl) 0 rfl rfl [0, 1] [] rfl rfl ⟨rfl, rfl, by decide⟩ ⟨Nat.zero_le _, Nat.zero_le _⟩ [0, 1] rfl rfl ?_
        refine G_aload_n X dX3_mendRow_119 0 rfl ?_
        refine G_bipush X (v := 7) dX3_mendRow_120 (by decide) ?_
        refine G_iload_n X dX3_mendRow_122 2 rfl ?_
        obtain ⟨v46, h47, h48⟩ := bnd h45
        refine G1_callv X (As := [.int 7, .int v12]) (rest := []) (wr := []) (ws' := [(h, .inr (3, [.ref h_numbers])), (h_numbers, .inl (cI, 352, .inl v46))]) dX3_mendRow_123 pkX3_add gX3_mendRow_X3_add (kkX3_add l D cI cR h h_numbers v43 7 v12 v46 h47) ⟨rfl, rfl⟩ ⟨Nat.le_of_ble_eq_true rfl, Nat.le_of_ble_eq_true rfl⟩ rfl rfl (Nat.le_of_ble_eq_true rfl) 0 rfl rfl [0, 1] [] rfl rfl ⟨rfl, rfl, by decide⟩ ⟨Nat.zero_le _, Nat.zero_le _⟩ [0, 1] rfl rfl ?_
        refine G_iload_n X dX3_mendRow_126 2 rfl ?_
        cases h48
        exact rt _ _ _ _ dX3_mendRow_127 ⟨rfl, rfl⟩
      refine G_lv [2, 3, 1, 0] rfl ?_
      refine itr_ind (P := fun s15 : (Int32 × (Nat → Int32)) => G p l e rmX3_mendRow s m args below meth c D A 5 Q 0 0 30 [(0, .ref h), (1, .int x0), (2, .int v12), (3, .int s15.1)] [] [(h, .inr (3, [.ref h_numbers])), (h_numbers, .inl (cI, 352, .inl s15.2))]) (fun s15 o22 h19 h20 h21 => ?_) FU _ h17
      unfold SX3_mendRow_30 at h19
      refine G_iload_n X dX3_mendRow_30 3 rfl ?_
      refine G_bipush X (v := 8) dX3_mendRow_31 (by decide) ?_
      refine G_icmp_ge X (tgt := 75) dX3_mendRow_33 (by decide) (fun h49 => ?_) (fun h49 => ?_)
      · have h50 := ifp h49 h19
        cases h50
        have h51 := h21 _ rfl
        subst h51
        exact G_lv [0, 1, 2] rfl (J23)
      · have h52 := ifn h49 h19
        refine G_aload_n X dX3_mendRow_36 0 rfl ?_
        refine G_iload_n X dX3_mendRow_37 1 rfl ?_
        refine G_iload_n X dX3_mendRow_38 3 rfl ?_
        obtain ⟨v53, h54, h55⟩ := bnd h52
        refine G1_calli X (As := [.int x0, .int s15.1]) (rest := []) (wr := []) (ws' := [(h, .inr (3, [.ref h_numbers])), (h_numbers, .inl (cI, 352, .inl s15.2))]) dX3_mendRow_39 pkX3_freshEcho gX3_mendRow_X3_freshEcho (kkX3_freshEcho l D cI cR h h_numbers s15.2 x0 s15.1 v53 h54) ⟨rfl, rfl⟩ ⟨Nat.le_of_ble_eq_true rfl, Nat.le_of_ble_eq_true rfl⟩ rfl rfl (Nat.le_of_ble_eq_true rfl) 0 rfl rfl [0, 1] [] rfl rfl ⟨rfl, rfl, by decide⟩ ⟨Nat.zero_le _, Nat.zero_le _⟩ [0, 1] rfl rfl ?_
        refine G_istore X (lv' := [(4, .int v53), (0, .ref h), (1, .int x0), (2, .int v12), (3, .int s15.1)]) dX3_mendRow_42 (by decide) rfl ?_
        refine G_aload_n X dX3_mendRow_44 1 rfl ?_
        refine G_iload_n X dX3_mendRow_45 2 rfl ?_
        refine G_bipush X (v := 8) dX3_mendRow_46 (by decide) ?_
        refine G_imul X dX3_mendRow_48 ?_
        refine G_iload_n X dX3_mendRow_49 4 rfl ?_
        refine G_iadd X dX3_mendRow_50 ?_
        refine G_iload X dX3_mendRow_51 0 rfl ?_
        refine G_iconst X (v := (-1)) dX3_mendRow_53 (by decide) ?_
        refine G_icmp_ne X (tgt := 61) dX3_mendRow_54 (by decide) (fun h56 => ?_) (fun h56 => ?_)
        · have h57 := ifp h56 h55
          refine G_iconst X (v := (-1)) dX3_mendRow_57 (by decide) ?_
          refine G_goto X (tgt := 66) dX3_mendRow_58 (by decide) ?_
          obtain ⟨v58, h59, h60⟩ := bnd h57
          refine G1_callv X (As := [.int ((x0 * 8) + s15.1), .int (-1)]) (rest := []) (wr := []) (ws' := [(h, .inr (3, [.ref h_numbers])), (h_numbers, .inl (cI, 352, .inl v58))]) dX3_mendRow_66 pkX3_mendCell gX3_mendRow_X3_mendCell (kkX3_mendCell l D cI cR h h_numbers s15.2 ((x0 * 8) + s15.1) (-1) v58 h59) ⟨rfl, rfl⟩ ⟨Nat.le_of_ble_eq_true rfl, Nat.le_of_ble_eq_true rfl⟩ rfl rfl (Nat.le_of_ble_eq_true rfl) 0 rfl rfl [0, 1] [] rfl rfl ⟨rfl, rfl, by decide⟩ ⟨Nat.zero_le _, Nat.zero_le _⟩ [0, 1] rfl rfl ?_
          refine G_iinc X (v := (s15.1 + 1)) (lv' := [(3, .int (s15.1 + 1)), (4, .int v53), (0, .ref h), (1, .int x0), (2, .int v12)]) dX3_mendRow_69 4 rfl rfl (by decide) rfl ?_
          refine G_goto X (tgt := 30) dX3_mendRow_72 (by decide) ?_
          cases h60
          exact G_lv [2, 3, 4, 0] rfl (h20 _ rfl)
        · have h61 := ifn h56 h55
          refine G_iload X dX3_mendRow_61 0 rfl ?_
          obtain ⟨v62, h63, h64⟩ := bnd h61
          refine G1_callsi X (As := [.int v53]) (rest := [.int ((x0 * 8) + s15.1), .ref h]) (wr := [(h, .inr (3, [.ref h_numbers])), (h_numbers, .inl (cI, 352, .inl s15.2))]) (ws' := [(h, .inr (3, [.ref h_numbers])), (h_numbers, .inl (cI, 352, .inl s15.2))]) dX3_mendRow_63 pkX3_valueOf gX3_mendRow_X3_valueOf (kkX3_valueOf l D cI cR v53 v62 h63) ⟨rfl, rfl⟩ ⟨Nat.le_of_ble_eq_true rfl, Nat.le_of_ble_eq_true rfl⟩ rfl rfl (Nat.le_of_ble_eq_true rfl) [] [0, 1] rfl rfl ⟨rfl, rfl, by decide⟩ ⟨Nat.zero_le _, Nat.zero_le _⟩ [0, 1] rfl rfl ?_
          obtain ⟨v65, h66, h67⟩ := bnd h64
          refine G1_callv X (As := [.int ((x0 * 8) + s15.1), .int v62]) (rest := []) (wr := []) (ws' := [(h, .inr (3, [.ref h_numbers])), (h_numbers, .inl (cI, 352, .inl v65))]) dX3_mendRow_66 pkX3_mendCell gX3_mendRow_X3_mendCell (kkX3_mendCell l D cI cR h h_numbers s15.2 ((x0 * 8) + s15.1) v62 v65 h66) ⟨rfl, rfl⟩ ⟨Nat.le_of_ble_eq_true rfl, Nat.le_of_ble_eq_true rfl⟩ rfl rfl (Nat.le_of_ble_eq_true rfl) 0 rfl rfl [0, 1] [] rfl rfl ⟨rfl, rfl, by decide⟩ ⟨Nat.zero_le _, Nat.zero_le _⟩ [0, 1] rfl rfl ?_
          refine G_iinc X (v := (s15.1 + 1)) (lv' := [(3, .int (s15.1 + 1)), (4, .int v53), (0, .ref h), (1, .int x0), (2, .int v12)]) dX3_mendRow_69 4 rfl rfl (by decide) rfl ?_
          refine G_goto X (tgt := 30) dX3_mendRow_72 (by decide) ?_
          cases h67
          exact G_lv [2, 3, 4, 0] rfl (h20 _ rfl)
    · have h68 := ifn h10 h9
      refine G_ldc X dX3_mendRow_19 flX3_mendRow_68 ?_
      cases h68
      exact rt _ _ _ _ dX3_mendRow_21 ⟨rfl, rfl⟩
def rmX3_swapRows : Room := { frames := 2, cells := 0, slots := 0, locals := 90 }
theorem pkX3_swapRows : cK yX3_swapRows wsX3_swapRows cX3_swapRows 6 (some .int) 2 RX3 := ⟨⟨_, rfl⟩, by decide +kernel⟩
theorem flX3_swapRows_52 : Cond.constant RX3 52 (-1000001) ∈ wsX3_swapRows := by decide +kernel
theorem flX3_swapRows_68 : Cond.constant RX3 68 (-1000002) ∈ wsX3_swapRows := by decide +kernel
theorem flX3_swapRows_m_abs : Cond.methodLink RX3 82 Lib.Math.abs.name ∈ wsX3_swapRows := by decide +kernel
theorem flX3_swapRows_s_abs : Cond.static Lib.Math.abs.name ∈ wsX3_swapRows := by decide +kernel
theorem flX3_swapRows_im : Cond.initialized "java/lang/Math" ∈ wsX3_swapRows := by decide +kernel
theorem flX3_swapRows_c_abs : Cond.code Lib.Math.abs.name Lib.Math.abs.code 1 (some .int) ∈ wsX3_swapRows := by decide +kernel
theorem flX3_swapRows_m_min : Cond.methodLink RX3 87 Lib.Math.min.name ∈ wsX3_swapRows := by decide +kernel
theorem flX3_swapRows_s_min : Cond.static Lib.Math.min.name ∈ wsX3_swapRows := by decide +kernel
theorem flX3_swapRows_c_min : Cond.code Lib.Math.min.name Lib.Math.min.code 2 (some .int) ∈ wsX3_swapRows := by decide +kernel
set_option maxHeartbeats 4000000 in
set_option maxRecDepth 100000 in
theorem kkX3_swapRows (l : Launch) (D : va_G) (cI cR : ClassId) (h h_numbers : Nat) (f_h_numbers : Nat → Int32) (x0 : Int32) (x1 : Int32) (z : (Int32 × (Nat → Int32))) (hz : MX3_swapRows f_h_numbers x0 x1 = some z) : cI1 l yX3_swapRows wsX3_swapRows rmX3_swapRows D cI cR [.ref h, .int x0, .int x1] [(h, .inr (3, [.ref h_numbers])), (h_numbers, .inl (cI, 352, .inl f_h_numbers))] z.1 [(h, .inr (3, [.ref h_numbers])), (h_numbers, .inl (cI, 352, .inl z.2))] := by
  unfold MX3_swapRows at hz
  refine kI_of (cc := cX3_swapRows) (maxL := 6) (own := RX3) (by decide +kernel) rfl rfl (Nat.le_of_ble_eq_true rfl) (lv0 := [(0, .ref h), (1, .int x0), (2, .int x1)]) rfl (fun p e s m args below meth c A Q X rt => ?_)
  refine G_aload_n X dX3_swapRows_0 0 rfl ?_
  refine G_iload_n X dX3_swapRows_1 1 rfl ?_
  obtain ⟨v1, h2, h3⟩ := bnd hz
  refine G1_calli X (As := [.int x0]) (rest := []) (wr := []) (ws' := [(h, .inr (3, [.ref h_numbers])), (h_numbers, .inl (cI, 352, .inl f_h_numbers))]) dX3_swapRows_2 pkX3_hasRow gX3_swapRows_X3_hasRow (kkX3_hasRow l D cI cR h h_numbers f_h_numbers x0 v1 h2) ⟨rfl, rfl⟩ ⟨Nat.le_of_ble_eq_true rfl, Nat.le_of_ble_eq_true rfl⟩ rfl rfl (Nat.le_of_ble_eq_true rfl) 0 rfl rfl [0, 1] [] rfl rfl ⟨rfl, rfl, by decide⟩ ⟨Nat.zero_le _, Nat.zero_le _⟩ [0, 1] rfl rfl ?_
  refine G_if_eq X (tgt := 21) dX3_swapRows_5 (by decide) (fun h4 => ?_) (fun h4 => ?_)
  · have h5 := ifp h4 h3
    refine G_ldc X dX3_swapRows_21 flX3_swapRows_52 ?_
    cases h5
    exact rt _ _ _ _ dX3_swapRows_23 ⟨rfl, rfl⟩
  · have h6 := ifn h4 h3
    refine G_aload_n X dX3_swapRows_8 0 rfl ?_
    refine G_iload_n X dX3_swapRows_9 2 rfl ?_
    obtain ⟨v7, h8, h9⟩ := bnd h6
    refine G1_calli X (As := [.int x1]) (rest := []) (wr := []) (ws' := [(h, .inr (3, [.ref h_numbers])), (h_numbers, .inl (cI, 352, .inl f_h_numbers))]) dX3_swapRows_10 pkX3_hasRow gX3_swapRows_X3_hasRow (kkX3_hasRow l D cI cR h h_numbers f_h_numbers x1 v7 h8) ⟨rfl, rfl⟩ ⟨Nat.le_of_ble_eq_true rfl, Nat.le_of_ble_eq_true rfl⟩ rfl rfl (Nat.le_of_ble_eq_true rfl) 0 rfl rfl [0, 1] [] rfl rfl ⟨rfl, rfl, by decide⟩ ⟨Nat.zero_le _, Nat.zero_le _⟩ [0, 1] rfl rfl ?_
    refine G_if_eq X (tgt := 21) dX3_swapRows_13 (by decide) (fun h10 => ?_) (fun h10 => ?_)
    · have h11 := ifp h10 h9
      refine G_ldc X dX3_swapRows_21 flX3_swapRows_52 ?_
      cases h11
      exact rt _ _ _ _ dX3_swapRows_23 ⟨rfl, rfl⟩
    · have h12 := ifn h10 h9
      refine G_iload_n X dX3_swapRows_16 1 rfl ?_
      refine G_iload_n X dX3_swapRows_17 2 rfl ?_
      refine G_icmp_ne X (tgt := 24) dX3_swapRows_18 (by decide) (fun h13 => ?_) (fun h13 => ?_)
      · have h14 := ifp h13 h12
        refine G_ldc X dX3_swapRows_21 flX3_swapRows_52 ?_
        cases h14
        exact rt _ _ _ _ dX3_swapRows_23 ⟨rfl, rfl⟩
      · have h15 := ifn h13 h12
        refine G_aload_n X dX3_swapRows_24 0 rfl ?_
        refine G_iload_n X dX3_swapRows_25 1 rfl ?_
        obtain ⟨v16, h17, h18⟩ := bnd h15
        refine G1_calli X (As := [.int x0]) (rest := []) (wr := []) (ws' := [(h, .inr (3, [.ref h_numbers])), (h_numbers, .inl (cI, 352, .inl f_h_numbers))]) dX3_swapRows_26 pkX3_lives gX3_swapRows_X3_lives (kkX3_lives l D cI cR h h_numbers f_h_numbers x0 v16 h17) ⟨rfl, rfl⟩ ⟨Nat.le_of_ble_eq_true rfl, Nat.le_of_ble_eq_true rfl⟩ rfl rfl (Nat.le_of_ble_eq_true rfl) 0 rfl rfl [0, 1] [] rfl rfl ⟨rfl, rfl, by decide⟩ ⟨Nat.zero_le _, Nat.zero_le _⟩ [0, 1] rfl rfl ?_
        refine G_if_eq X (tgt := 40) dX3_swapRows_29 (by decide) (fun h19 => ?_) (fun h19 => ?_)
        · have h20 := ifp h19 h18
          refine G_ldc X dX3_swapRows_40 flX3_swapRows_68 ?_
          cases h20
          exact rt _ _ _ _ dX3_swapRows_42 ⟨rfl, rfl⟩
        · have h21 := ifn h19 h18
          refine G_aload_n X dX3_swapRows_32 0 rfl ?_
          refine G_iload_n X dX3_swapRows_33 2 rfl ?_
          obtain ⟨v22, h23, h24⟩ := bnd h21
          refine G1_calli X (As := [.int x1]) (rest := []) (wr := []) (ws' := [(h, .inr (3, [.ref h_numbers])), (h_numbers, .inl (cI, 352, .inl f_h_numbers))]) dX3_swapRows_34 pkX3_lives gX3_swapRows_X3_lives (kkX3_lives l D cI cR h h_numbers f_h_numbers x1 v22 h23) ⟨rfl, rfl⟩ ⟨Nat.le_of_ble_eq_true rfl, Nat.le_of_ble_eq_true rfl⟩ rfl rfl (Nat.le_of_ble_eq_true rfl) 0 rfl rfl [0, 1] [] rfl rfl ⟨rfl, rfl, by decide⟩ ⟨Nat.zero_le _, Nat.zero_le _⟩ [0, 1] rfl rfl ?_
          refine G_if_ne X (tgt := 43) dX3_swapRows_37 (by decide) (fun h25 => ?_) (fun h25 => ?_)
          · have h26 := ifp h25 h24
            refine G_ldc X dX3_swapRows_40 flX3_swapRows_68 ?_
            cases h26
            exact rt _ _ _ _ dX3_swapRows_42 ⟨rfl, rfl⟩
          · have h27 := ifn h25 h24
            refine G_aload_n X dX3_swapRows_43 0 rfl ?_
            refine G_bipush X (v := 10) dX3_swapRows_44 (by decide) ?_
            refine G_iload_n X dX3_swapRows_46 1 rfl ?_
            refine G_iadd X dX3_swapRows_47 ?_
            obtain ⟨v28, h29, h30⟩ := bnd h27
            refine G1_calli X (As := [.int (10 + x0)]) (rest := []) (wr := []) (ws' := [(h, .inr (3, [.ref h_numbers])), (h_numbers, .inl (cI, 352, .inl f_h_numbers))]) dX3_swapRows_48 pkX3_get gX3_swapRows_X3_get (kkX3_get l D cI cR h h_numbers f_h_numbers (10 + x0) v28 h29) ⟨rfl, rfl⟩ ⟨Nat.le_of_ble_eq_true rfl, Nat.le_of_ble_eq_true rfl⟩ rfl rfl (Nat.le_of_ble_eq_true rfl) 0 rfl rfl [0, 1] [] rfl rfl ⟨rfl, rfl, by decide⟩ ⟨Nat.zero_le _, Nat.zero_le _⟩ [0, 1] rfl rfl ?_
            refine G_istore_n X (lv' := [(3, .int v28), (0, .ref h), (1, .int x0), (2, .int x1)]) dX3_swapRows_51 (by decide) rfl ?_
            refine G_aload_n X dX3_swapRows_52 1 rfl ?_
            refine G_bipush X (v := 10) dX3_swapRows_53 (by decide) ?_
            refine G_iload_n X dX3_swapRows_55 3 rfl ?_
            refine G_iadd X dX3_swapRows_56 ?_
            obtain ⟨v31, h32, h33⟩ := bnd h30
            refine G1_calli X (As := [.int (10 + x1)]) (rest := []) (wr := []) (ws' := [(h, .inr (3, [.ref h_numbers])), (h_numbers, .inl (cI, 352, .inl f_h_numbers))]) dX3_swapRows_57 pkX3_get gX3_swapRows_X3_get (kkX3_get l D cI cR h h_numbers f_h_numbers (10 + x1) v31 h32) ⟨rfl, rfl⟩ ⟨Nat.le_of_ble_eq_true rfl, Nat.le_of_ble_eq_true rfl⟩ rfl rfl (Nat.le_of_ble_eq_true rfl) 0 rfl rfl [0, 1] [] rfl rfl ⟨rfl, rfl, by decide⟩ ⟨Nat.zero_le _, Nat.zero_le _⟩ [0, 1] rfl rfl ?_
            refine G_istore X (lv' := [(4, .int v31), (3, .int v28), (0, .ref h), (1, .int x0), (2, .int x1)]) dX3_swapRows_60 (by decide) rfl ?_
            refine G_aload_n X dX3_swapRows_62 2 rfl ?_
            refine G_bipush X (v := 10) dX3_swapRows_63 (by decide) ?_
            refine G_iload_n X dX3_swapRows_65 3 rfl ?_
            refine G_iadd X dX3_swapRows_66 ?_
            refine G_iload X dX3_swapRows_67 0 rfl ?_
            obtain ⟨v34, h35, h36⟩ := bnd h33
            refine G1_callv X (As := [.int (10 + x0), .int v31]) (rest := []) (wr := []) (ws' := [(h, .inr (3, [.ref h_numbers])), (h_numbers, .inl (cI, 352, .inl v34))]) dX3_swapRows_69 pkX3_put gX3_swapRows_X3_put (kkX3_put l D cI cR h h_numbers f_h_numbers (10 + x0) v31 v34 h35) ⟨rfl, rfl⟩ ⟨Nat.le_of_ble_eq_true rfl, Nat.le_of_ble_eq_true rfl⟩ rfl rfl (Nat.le_of_ble_eq_true rfl) 0 rfl rfl [0, 1] [] rfl rfl ⟨rfl, rfl, by decide⟩ ⟨Nat.zero_le _, Nat.zero_le _⟩ [0, 1] rfl rfl ?_
            refine G_aload_n X dX3_swapRows_72 2 rfl ?_
            refine G_bipush X (v := 10) dX3_swapRows_73 (by decide) ?_
            refine G_iload_n X dX3_swapRows_75 4 rfl ?_
            refine G_iadd X dX3_swapRows_76 ?_
            refine G_iload_n X dX3_swapRows_77 1 rfl ?_
            obtain ⟨v37, h38, h39⟩ := bnd h36
            refine G1_callv X (As := [.int (10 + x1), .int v28]) (rest := []) (wr := []) (ws' := [(h, .inr (3, [.ref h_numbers])), (h_numbers, .inl (cI, 352, .inl v37))]) dX3_swapRows_78 pkX3_put gX3_swapRows_X3_put (kkX3_put l D cI cR h h_numbers v34 (10 + x1) v28 v37 h38) ⟨rfl, rfl⟩ ⟨Nat.le_of_ble_eq_true rfl, Nat.le_of_ble_eq_true rfl⟩ rfl rfl (Nat.le_of_ble_eq_true rfl) 0 rfl rfl [0, 1] [] rfl rfl ⟨rfl, rfl, by decide⟩ ⟨Nat.zero_le _, Nat.zero_le _⟩ [0, 1] rfl rfl ?_
            refine G_aload_n X dX3_swapRows_81 2 rfl ?_
            refine G_bipush X (v := 19) dX3_swapRows_82 (by decide) ?_
            refine G_iload X dX3_swapRows_84 0 rfl ?_
            refine G_iadd X dX3_swapRows_86 ?_
            refine G_iload_n X dX3_swapRows_87 3 rfl ?_
            obtain ⟨v40, h41, h42⟩ := bnd h39
            refine G1_callv X (As := [.int (19 + v31), .int x0]) (rest := []) (wr := []) (ws' := [(h, .inr (3, [.ref h_numbers])), (h_numbers, .inl (cI, 352, .inl v40))]) dX3_swapRows_88 pkX3_put gX3_swapRows_X3_put (kkX3_put l D cI cR h h_numbers v37 (19 + v31) x0 v40 h41) ⟨rfl, rfl⟩ ⟨Nat.le_of_ble_eq_true rfl, Nat.le_of_ble_eq_true rfl⟩ rfl rfl (Nat.le_of_ble_eq_true rfl) 0 rfl rfl [0, 1] [] rfl rfl ⟨rfl, rfl, by decide⟩ ⟨Nat.zero_le _, Nat.zero_le _⟩ [0, 1] rfl rfl ?_
            refine G_aload_n X dX3_swapRows_91 2 rfl ?_
            refine G_bipush X (v := 19) dX3_swapRows_92 (by decide) ?_
            refine G_iload_n X dX3_swapRows_94 1 rfl ?_
            refine G_iadd X dX3_swapRows_95 ?_
            refine G_iload_n X dX3_swapRows_96 4 rfl ?_
            obtain ⟨v43, h44, h45⟩ := bnd h42
            refine G1_callv X (As := [.int (19 + v28), .int x1]) (rest := []) (wr := []) (ws' := [(h, .inr (3, [.ref h_numbers])), (h_numbers, .inl (cI, 352, .inl v43))]) dX3_swapRows_97 pkX3_put gX3_swapRows_X3_put (kkX3_put l D cI cR h h_numbers v40 (19 + v28) x1 v43 h44) ⟨rfl, rfl⟩ ⟨Nat.le_of_ble_eq_true rfl, Nat.le_of_ble_eq_true rfl⟩ rfl rfl (Nat.le_of_ble_eq_true rfl) 0 rfl rfl [0, 1] [] rfl rfl ⟨rfl, rfl, by decide⟩ ⟨Nat.zero_le _, Nat.zero_le _⟩ [0, 1] rfl rfl ?_
            refine G_iload_n X dX3_swapRows_100 1 rfl ?_
            refine G_iload X dX3_swapRows_101 0 rfl ?_
            refine G_isub X dX3_swapRows_103 ?_
            refine G_abs X dX3_swapRows_104 flX3_swapRows_m_abs flX3_swapRows_s_abs flX3_swapRows_im flX3_swapRows_c_abs (Nat.le_of_ble_eq_true rfl) (Nat.le_of_ble_eq_true rfl) (Nat.zero_le _) (Nat.zero_le _) ?_
            refine G_istore X (lv' := [(5, .int (if 0 ≤ (v28 - v31) then (v28 - v31) else 0 - (v28 - v31))), (4, .int v31), (3, .int v28), (0, .ref h), (1, .int x0), (2, .int x1)]) dX3_swapRows_107 (by decide) rfl ?_
            refine G_iload X dX3_swapRows_109 0 rfl ?_
            refine G_aload_n X dX3_swapRows_111 3 rfl ?_
            refine G_iconst X (v := 1) dX3_swapRows_112 (by decide) ?_
            obtain ⟨v46, h47, h48⟩ := bnd h45
            refine G1_calli X (As := [.int 1]) (rest := [.int (if 0 ≤ (v28 - v31) then (v28 - v31) else 0 - (v28 - v31))]) (wr := []) (ws' := [(h, .inr (3, [.ref h_numbers])), (h_numbers, .inl (cI, 352, .inl v43))]) dX3_swapRows_113 pkX3_get gX3_swapRows_X3_get (kkX3_get l D cI cR h h_numbers v43 1 v46 h47) ⟨rfl, rfl⟩ ⟨Nat.le_of_ble_eq_true rfl, Nat.le_of_ble_eq_true rfl⟩ rfl rfl (Nat.le_of_ble_eq_true rfl) 0 rfl rfl [0, 1] [] rfl rfl ⟨rfl, rfl, by decide⟩ ⟨Nat.zero_le _, Nat.zero_le _⟩ [0, 1] rfl rfl ?_
            refine G_iload X dX3_swapRows_116 0 rfl ?_
            refine G_isub X dX3_swapRows_118 ?_
            refine G_min X dX3_swapRows_119 flX3_swapRows_m_min flX3_swapRows_s_min flX3_swapRows_im flX3_swapRows_c_min (Nat.le_of_ble_eq_true rfl) (Nat.le_of_ble_eq_true rfl) (Nat.zero_le _) (Nat.zero_le _) ?_
            cases h48
            exact rt _ _ _ _ dX3_swapRows_122 ⟨rfl, rfl⟩
def rmX3_layAnew : Room := { frames := 4, cells := 0, slots := 0, locals := 166 }
theorem pkX3_layAnew : cK yX3_layAnew wsX3_layAnew cX3_layAnew 2 (some .int) 1 RX3 := ⟨⟨_, rfl⟩, by decide +kernel⟩
theorem flX3_layAnew_52 : Cond.constant RX3 52 (-1000001) ∈ wsX3_layAnew := by decide +kernel
theorem flX3_layAnew_68 : Cond.constant RX3 68 (-1000002) ∈ wsX3_layAnew := by decide +kernel
set_option maxHeartbeats 4000000 in
set_option maxRecDepth 100000 in
theorem kkX3_layAnew (l : Launch) (D : va_G) (cI cR : ClassId) (h h_numbers : Nat) (f_h_numbers : Nat → Int32) (x0 : Int32) (z : (Int32 × (Nat → Int32))) (hz : MX3_layAnew f_h_numbers x0 = some z) : cI1 l yX3_layAnew wsX3_layAnew rmX3_layAnew D cI cR [.ref h, .int x0] [(h, .inr (3, [.ref h_numbers])), (h_numbers, .inl (cI, 352, .inl f_h_numbers))] z.1 [(h, .inr (3, [.ref h_numbers])), (h_numbers, .inl (cI, 352, .inl z.2))] := by
  unfold MX3_layAnew at hz
  refine kI_of (cc := cX3_layAnew) (maxL := 2) (own := RX3) (by decide +kernel) rfl rfl (Nat.le_of_ble_eq_true rfl) (lv0 := [(0, .ref h), (1, .int x0)]) rfl (fun p e s m args below meth c A Q X rt => ?_)
  refine G_aload_n X dX3_layAnew_0 0 rfl ?_
  refine G_iload_n X dX3_layAnew_1 1 rfl ?_
  obtain ⟨v1, h2, h3⟩ := bnd hz
  refine G1_calli X (As := [.int x0]) (rest := []) (wr := []) (ws' := [(h, .inr (3, [.ref h_numbers])), (h_numbers, .inl (cI, 352, .inl f_h_numbers))]) dX3_layAnew_2 pkX3_hasRow gX3_layAnew_X3_hasRow (kkX3_hasRow l D cI cR h h_numbers f_h_numbers x0 v1 h2) ⟨rfl, rfl⟩ ⟨Nat.le_of_ble_eq_true rfl, Nat.le_of_ble_eq_true rfl⟩ rfl rfl (Nat.le_of_ble_eq_true rfl) 0 rfl rfl [0, 1] [] rfl rfl ⟨rfl, rfl, by decide⟩ ⟨Nat.zero_le _, Nat.zero_le _⟩ [0, 1] rfl rfl ?_
  refine G_if_ne X (tgt := 11) dX3_layAnew_5 (by decide) (fun h4 => ?_) (fun h4 => ?_)
  · have h5 := ifp h4 h3
    refine G_ldc X dX3_layAnew_8 flX3_layAnew_52 ?_
    cases h5
    exact rt _ _ _ _ dX3_layAnew_10 ⟨rfl, rfl⟩
  · have h6 := ifn h4 h3
    refine G_aload_n X dX3_layAnew_11 0 rfl ?_
    refine G_iload_n X dX3_layAnew_12 1 rfl ?_
    obtain ⟨v7, h8, h9⟩ := bnd h6
    refine G1_calli X (As := [.int x0]) (rest := []) (wr := []) (ws' := [(h, .inr (3, [.ref h_numbers])), (h_numbers, .inl (cI, 352, .inl f_h_numbers))]) dX3_layAnew_13 pkX3_lives gX3_layAnew_X3_lives (kkX3_lives l D cI cR h h_numbers f_h_numbers x0 v7 h8) ⟨rfl, rfl⟩ ⟨Nat.le_of_ble_eq_true rfl, Nat.le_of_ble_eq_true rfl⟩ rfl rfl (Nat.le_of_ble_eq_true rfl) 0 rfl rfl [0, 1] [] rfl rfl ⟨rfl, rfl, by decide⟩ ⟨Nat.zero_le _, Nat.zero_le _⟩ [0, 1] rfl rfl ?_
    refine G_if_eq X (tgt := 27) dX3_layAnew_16 (by decide) (fun h10 => ?_) (fun h10 => ?_)
    · have h11 := ifp h10 h9
      refine G_ldc X dX3_layAnew_27 flX3_layAnew_68 ?_
      cases h11
      exact rt _ _ _ _ dX3_layAnew_29 ⟨rfl, rfl⟩
    · have h12 := ifn h10 h9
      refine G_aload_n X dX3_layAnew_19 0 rfl ?_
      refine G_iload_n X dX3_layAnew_20 1 rfl ?_
      obtain ⟨v13, h14, h15⟩ := bnd h12
      refine G1_calli X (As := [.int x0]) (rest := []) (wr := []) (ws' := [(h, .inr (3, [.ref h_numbers])), (h_numbers, .inl (cI, 352, .inl v13.2))]) dX3_layAnew_21 pkX3_layRow gX3_layAnew_X3_layRow (kkX3_layRow l D cI cR h h_numbers f_h_numbers x0 v13 h14) ⟨rfl, rfl⟩ ⟨Nat.le_of_ble_eq_true rfl, Nat.le_of_ble_eq_true rfl⟩ rfl rfl (Nat.le_of_ble_eq_true rfl) 0 rfl rfl [0, 1] [] rfl rfl ⟨rfl, rfl, by decide⟩ ⟨Nat.zero_le _, Nat.zero_le _⟩ [0, 1] rfl rfl ?_
      refine G_goto X (tgt := 29) dX3_layAnew_24 (by decide) ?_
      cases h15
      exact rt _ _ _ _ dX3_layAnew_29 ⟨rfl, rfl⟩
def rmX3_endDays : Room := { frames := 2, cells := 0, slots := 0, locals := 44 }
theorem pkX3_endDays : cK yX3_endDays wsX3_endDays cX3_endDays 2 (some .int) 1 RX3 := ⟨⟨_, rfl⟩, by decide +kernel⟩
theorem flX3_endDays_52 : Cond.constant RX3 52 (-1000001) ∈ wsX3_endDays := by decide +kernel
theorem flX3_endDays_102 : Cond.constant RX3 102 (-1000003) ∈ wsX3_endDays := by decide +kernel
set_option maxHeartbeats 4000000 in
set_option maxRecDepth 100000 in
theorem kkX3_endDays (l : Launch) (D : va_G) (cI cR : ClassId) (h h_numbers : Nat) (f_h_numbers : Nat → Int32) (x0 : Int32) (z : (Int32 × (Nat → Int32))) (hz : MX3_endDays f_h_numbers x0 = some z) : cI1 l yX3_endDays wsX3_endDays rmX3_endDays D cI cR [.ref h, .int x0] [(h, .inr (3, [.ref h_numbers])), (h_numbers, .inl (cI, 352, .inl f_h_numbers))] z.1 [(h, .inr (3, [.ref h_numbers])), (h_numbers, .inl (cI, 352, .inl z.2))] := by
  unfold MX3_endDays at hz
  refine kI_of (cc := cX3_endDays) (maxL := 2) (own := RX3) (by decide +kernel) rfl rfl (Nat.le_of_ble_eq_true rfl) (lv0 := [(0, .ref h), (1, .int x0)]) rfl (fun p e s m args below meth c A Q X rt => ?_)
  refine G_iload_n X dX3_endDays_0 1 rfl ?_
  refine G_iconst X (v := 1) dX3_endDays_1 (by decide) ?_
  refine G_icmp_lt X (tgt := 11) dX3_endDays_2 (by decide) (fun h1 => ?_) (fun h1 => ?_)
  · have h2 := ifp h1 hz
    refine G_ldc X dX3_endDays_11 flX3_endDays_52 ?_
    cases h2
    exact rt _ _ _ _ dX3_endDays_13 ⟨rfl, rfl⟩
  · have h3 := ifn h1 hz
    refine G_iload_n X dX3_endDays_5 1 rfl ?_
    refine G_bipush X (v := 99) dX3_endDays_6 (by decide) ?_
    refine G_icmp_le X (tgt := 14) dX3_endDays_8 (by decide) (fun h4 => ?_) (fun h4 => ?_)
    · have h5 := ifp h4 h3
      refine G_aload_n X dX3_endDays_14 0 rfl ?_
      refine G_iconst X (v := 0) dX3_endDays_15 (by decide) ?_
      obtain ⟨v6, h7, h8⟩ := bnd h5
      refine G1_calli X (As := [.int 0]) (rest := []) (wr := []) (ws' := [(h, .inr (3, [.ref h_numbers])), (h_numbers, .inl (cI, 352, .inl f_h_numbers))]) dX3_endDays_16 pkX3_get gX3_endDays_X3_get (kkX3_get l D cI cR h h_numbers f_h_numbers 0 v6 h7) ⟨rfl, rfl⟩ ⟨Nat.le_of_ble_eq_true rfl, Nat.le_of_ble_eq_true rfl⟩ rfl rfl (Nat.le_of_ble_eq_true rfl) 0 rfl rfl [0, 1] [] rfl rfl ⟨rfl, rfl, by decide⟩ ⟨Nat.zero_le _, Nat.zero_le _⟩ [0, 1] rfl rfl ?_
      refine G_iload_n X dX3_endDays_19 1 rfl ?_
      refine G_iadd X dX3_endDays_20 ?_
      refine G_sipush X (v := 9999) dX3_endDays_21 (by decide) ?_
      refine G_icmp_le X (tgt := 30) dX3_endDays_24 (by decide) (fun h9 => ?_) (fun h9 => ?_)
      · have h10 := ifp h9 h8
        refine G_aload_n X dX3_endDays_30 0 rfl ?_
        refine G_iconst X (v := 0) dX3_endDays_31 (by decide) ?_
        refine G_iload_n X dX3_endDays_32 1 rfl ?_
        obtain ⟨v11, h12, h13⟩ := bnd h10
        refine G1_callv X (As := [.int 0, .int x0]) (rest := []) (wr := []) (ws' := [(h, .inr (3, [.ref h_numbers])), (h_numbers, .inl (cI, 352, .inl v11))]) dX3_endDays_33 pkX3_add gX3_endDays_X3_add (kkX3_add l D cI cR h h_numbers f_h_numbers 0 x0 v11 h12) ⟨rfl, rfl⟩ ⟨Nat.le_of_ble_eq_true rfl, Nat.le_of_ble_eq_true rfl⟩ rfl rfl (Nat.le_of_ble_eq_true rfl) 0 rfl rfl [0, 1] [] rfl rfl ⟨rfl, rfl, by decide⟩ ⟨Nat.zero_le _, Nat.zero_le _⟩ [0, 1] rfl rfl ?_
        refine G_aload_n X dX3_endDays_36 0 rfl ?_
        refine G_iconst X (v := 0) dX3_endDays_37 (by decide) ?_
        obtain ⟨v14, h15, h16⟩ := bnd h13
        refine G1_calli X (As := [.int 0]) (rest := []) (wr := []) (ws' := [(h, .inr (3, [.ref h_numbers])), (h_numbers, .inl (cI, 352, .inl v11))]) dX3_endDays_38 pkX3_get gX3_endDays_X3_get (kkX3_get l D cI cR h h_numbers v11 0 v14 h15) ⟨rfl, rfl⟩ ⟨Nat.le_of_ble_eq_true rfl, Nat.le_of_ble_eq_true rfl⟩ rfl rfl (Nat.le_of_ble_eq_true rfl) 0 rfl rfl [0, 1] [] rfl rfl ⟨rfl, rfl, by decide⟩ ⟨Nat.zero_le _, Nat.zero_le _⟩ [0, 1] rfl rfl ?_
        cases h16
        exact rt _ _ _ _ dX3_endDays_41 ⟨rfl, rfl⟩
      · have h17 := ifn h9 h8
        refine G_ldc X dX3_endDays_27 flX3_endDays_102 ?_
        cases h17
        exact rt _ _ _ _ dX3_endDays_29 ⟨rfl, rfl⟩
    · have h18 := ifn h4 h3
      refine G_ldc X dX3_endDays_11 flX3_endDays_52 ?_
      cases h18
      exact rt _ _ _ _ dX3_endDays_13 ⟨rfl, rfl⟩
def rmX3_changeSetting : Room := { frames := 2, cells := 0, slots := 0, locals := 115 }
theorem pkX3_changeSetting : cK yX3_changeSetting wsX3_changeSetting cX3_changeSetting 6 (some .int) 2 RX3 := ⟨⟨_, rfl⟩, by decide +kernel⟩
theorem flX3_changeSetting_52 : Cond.constant RX3 52 (-1000001) ∈ wsX3_changeSetting := by decide +kernel
set_option maxHeartbeats 4000000 in
set_option maxRecDepth 100000 in
theorem kkX3_changeSetting (l : Launch) (D : va_G) (cI cR : ClassId) (h h_numbers : Nat) (f_h_numbers : Nat → Int32) (x0 : Int32) (x1 : Int32) (z : (Int32 × (Nat → Int32))) (hz : MX3_changeSetting f_h_numbers x0 x1 = some z) : cI1 l yX3_changeSetting wsX3_changeSetting rmX3_changeSetting D cI cR [.ref h, .int x0, .int x1] [(h, .inr (3, [.ref h_numbers])), (h_numbers, .inl (cI, 352, .inl f_h_numbers))] z.1 [(h, .inr (3, [.ref h_numbers])), (h_numbers, .inl (cI, 352, .inl z.2))] := by
  unfold MX3_changeSetting at hz
  refine kI_of (cc := cX3_changeSetting) (maxL := 6) (own := RX3) (by decide +kernel) rfl rfl (Nat.le_of_ble_eq_true rfl) (lv0 := [(0, .ref h), (1, .int x0), (2, .int x1)]) rfl (fun p e s m args below meth c A Q X rt => ?_)
  refine G_iload_n X dX3_changeSetting_0 1 rfl ?_
  refine G_if_lt X (tgt := 29) dX3_changeSetting_1 (by decide) (fun h1 => ?_) (fun h1 => ?_)
  · have h2 := ifp h1 hz
    refine G_ldc X dX3_changeSetting_29 flX3_changeSetting_52 ?_
    cases h2
    exact rt _ _ _ _ dX3_changeSetting_31 ⟨rfl, rfl⟩
  · have h3 := ifn h1 hz
    refine G_iload_n X dX3_changeSetting_4 1 rfl ?_
    refine G_iconst X (v := 1) dX3_changeSetting_5 (by decide) ?_
    refine G_icmp_gt X (tgt := 29) dX3_changeSetting_6 (by decide) (fun h4 => ?_) (fun h4 => ?_)
    · have h5 := ifp h4 h3
      refine G_ldc X dX3_changeSetting_29 flX3_changeSetting_52 ?_
      cases h5
      exact rt _ _ _ _ dX3_changeSetting_31 ⟨rfl, rfl⟩
    · have h6 := ifn h4 h3
      refine G_iload_n X dX3_changeSetting_9 2 rfl ?_
      refine G_iconst X (v := 1) dX3_changeSetting_10 (by decide) ?_
      refine G_icmp_lt X (tgt := 29) dX3_changeSetting_11 (by decide) (fun h7 => ?_) (fun h7 => ?_)
      · have h8 := ifp h7 h6
        refine G_ldc X dX3_changeSetting_29 flX3_changeSetting_52 ?_
        cases h8
        exact rt _ _ _ _ dX3_changeSetting_31 ⟨rfl, rfl⟩
      · have h9 := ifn h7 h6
        refine G_iload_n X dX3_changeSetting_14 2 rfl ?_
        refine G_iload_n X dX3_changeSetting_15 1 rfl ?_
        obtain ⟨j10, h11, h12⟩ := bnd h9
        have J13 : G p l e rmX3_changeSetting s m args below meth c D A 6 Q 0 0 26 [(0, .ref h), (1, .int x0), (2, .int x1)] [.int j10, .int x1] [(h, .inr (3, [.ref h_numbers])), (h_numbers, .inl (cI, 352, .inl f_h_numbers))] := by
          refine G_icmp_le X (tgt := 32) dX3_changeSetting_26 (by decide) (fun h14 => ?_) (fun h14 => ?_)
          · have h15 := ifp h14 h12
            refine G_aload_n X dX3_changeSetting_32 0 rfl ?_
            refine G_iconst X (v := 2) dX3_changeSetting_33 (by decide) ?_
            refine G_iload_n X dX3_changeSetting_34 1 rfl ?_
            refine G_iadd X dX3_changeSetting_35 ?_
            obtain ⟨v16, h17, h18⟩ := bnd h15
            refine G1_calli X (As := [.int (2 + x0)]) (rest := []) (wr := []) (ws' := [(h, .inr (3, [.ref h_numbers])), (h_numbers, .inl (cI, 352, .inl f_h_numbers))]) dX3_changeSetting_36 pkX3_get gX3_changeSetting_X3_get (kkX3_get l D cI cR h h_numbers f_h_numbers (2 + x0) v16 h17) ⟨rfl, rfl⟩ ⟨Nat.le_of_ble_eq_true rfl, Nat.le_of_ble_eq_true rfl⟩ rfl rfl (Nat.le_of_ble_eq_true rfl) 0 rfl rfl [0, 1] [] rfl rfl ⟨rfl, rfl, by decide⟩ ⟨Nat.zero_le _, Nat.zero_le _⟩ [0, 1] rfl rfl ?_
            refine G_istore_n X (lv' := [(3, .int v16), (0, .ref h), (1, .int x0), (2, .int x1)]) dX3_changeSetting_39 (by decide) rfl ?_
            refine G_aload_n X dX3_changeSetting_40 1 rfl ?_
            refine G_iconst X (v := 2) dX3_changeSetting_41 (by decide) ?_
            refine G_iload_n X dX3_changeSetting_42 2 rfl ?_
            refine G_iadd X dX3_changeSetting_43 ?_
            refine G_iload_n X dX3_changeSetting_44 3 rfl ?_
            obtain ⟨v19, h20, h21⟩ := bnd h18
            refine G1_callv X (As := [.int (2 + x0), .int x1]) (rest := []) (wr := []) (ws' := [(h, .inr (3, [.ref h_numbers])), (h_numbers, .inl (cI, 352, .inl v19))]) dX3_changeSetting_45 pkX3_put gX3_changeSetting_X3_put (kkX3_put l D cI cR h h_numbers f_h_numbers (2 + x0) x1 v19 h20) ⟨rfl, rfl⟩ ⟨Nat.le_of_ble_eq_true rfl, Nat.le_of_ble_eq_true rfl⟩ rfl rfl (Nat.le_of_ble_eq_true rfl) 0 rfl rfl [0, 1] [] rfl rfl ⟨rfl, rfl, by decide⟩ ⟨Nat.zero_le _, Nat.zero_le _⟩ [0, 1] rfl rfl ?_
            refine G_iconst X (v := 0) dX3_changeSetting_48 (by decide) ?_
            refine G_istore X (lv' := [(4, .int 0), (3, .int v16), (0, .ref h), (1, .int x0), (2, .int x1)]) dX3_changeSetting_49 (by decide) rfl ?_
            obtain ⟨j23, h24, h25⟩ := bnd h21
            have J30 : G p l e rmX3_changeSetting s m args below meth c D A 6 Q 0 0 97 [(3, .int v16)] [] [(h, .inr (3, [.ref h_numbers])), (h_numbers, .inl (cI, 352, .inl j23))] := by
              refine G_iload_n X dX3_changeSetting_97 0 rfl ?_
              cases h25
              exact rt _ _ _ _ dX3_changeSetting_98 ⟨rfl, rfl⟩
            refine G_lv [2, 1, 0] rfl ?_
            refine itr_ind (P := fun s22 : (Int32 × (Nat → Int32)) => G p l e rmX3_changeSetting s m args below meth c D A 6 Q 0 0 51 [(0, .ref h), (3, .int v16), (4, .int s22.1)] [] [(h, .inr (3, [.ref h_numbers])), (h_numbers, .inl (cI, 352, .inl s22.2))]) (fun s22 o29 h26 h27 h28 => ?_) FU _ h24
            unfold SX3_changeSetting_51 at h26
            refine G_iload X dX3_changeSetting_51 2 rfl ?_
            refine G_aload_n X dX3_changeSetting_53 0 rfl ?_
            refine G_iconst X (v := 1) dX3_changeSetting_54 (by decide) ?_
            obtain ⟨v32, h33, h34⟩ := bnd h26
            refine G1_calli X (As := [.int 1]) (rest := [.int s22.1]) (wr := []) (ws' := [(h, .inr (3, [.ref h_numbers])), (h_numbers, .inl (cI, 352, .inl s22.2))]) dX3_changeSetting_55 pkX3_get gX3_changeSetting_X3_get (kkX3_get l D cI cR h h_numbers s22.2 1 v32 h33) ⟨rfl, rfl⟩ ⟨Nat.le_of_ble_eq_true rfl, Nat.le_of_ble_eq_true rfl⟩ rfl rfl (Nat.le_of_ble_eq_true rfl) 0 rfl rfl [0, 1] [] rfl rfl ⟨rfl, rfl, by decide⟩ ⟨Nat.zero_le _, Nat.zero_le _⟩ [0, 1] rfl rfl ?_
            refine G_icmp_ge X (tgt := 97) dX3_changeSetting_58 (by decide) (fun h35 => ?_) (fun h35 => ?_)
            · have h36 := ifp h35 h34
              cases h36
              have h37 := h28 _ rfl
              subst h37
              exact G_lv [1] rfl (J30)
            · have h38 := ifn h35 h34
              refine G_aload_n X dX3_changeSetting_61 0 rfl ?_
              refine G_bipush X (v := 55) dX3_changeSetting_62 (by decide) ?_
              refine G_iload X dX3_changeSetting_64 2 rfl ?_
              refine G_iadd X dX3_changeSetting_66 ?_
              obtain ⟨v39, h40, h41⟩ := bnd h38
              refine G1_calli X (As := [.int (55 + s22.1)]) (rest := []) (wr := []) (ws' := [(h, .inr (3, [.ref h_numbers])), (h_numbers, .inl (cI, 352, .inl s22.2))]) dX3_changeSetting_67 pkX3_get gX3_changeSetting_X3_get (kkX3_get l D cI cR h h_numbers s22.2 (55 + s22.1) v39 h40) ⟨rfl, rfl⟩ ⟨Nat.le_of_ble_eq_true rfl, Nat.le_of_ble_eq_true rfl⟩ rfl rfl (Nat.le_of_ble_eq_true rfl) 0 rfl rfl [0, 1] [] rfl rfl ⟨rfl, rfl, by decide⟩ ⟨Nat.zero_le _, Nat.zero_le _⟩ [0, 1] rfl rfl ?_
              refine G_aload_n X dX3_changeSetting_70 0 rfl ?_
              refine G_iconst X (v := 2) dX3_changeSetting_71 (by decide) ?_
              obtain ⟨v42, h43, h44⟩ := bnd h41
              refine G1_calli X (As := [.int 2]) (rest := [.int v39]) (wr := []) (ws' := [(h, .inr (3, [.ref h_numbers])), (h_numbers, .inl (cI, 352, .inl s22.2))]) dX3_changeSetting_72 pkX3_get gX3_changeSetting_X3_get (kkX3_get l D cI cR h h_numbers s22.2 2 v42 h43) ⟨rfl, rfl⟩ ⟨Nat.le_of_ble_eq_true rfl, Nat.le_of_ble_eq_true rfl⟩ rfl rfl (Nat.le_of_ble_eq_true rfl) 0 rfl rfl [0, 1] [] rfl rfl ⟨rfl, rfl, by decide⟩ ⟨Nat.zero_le _, Nat.zero_le _⟩ [0, 1] rfl rfl ?_
              refine G_isub X dX3_changeSetting_75 ?_
              refine G_istore X (lv' := [(5, .int (v39 - v42)), (0, .ref h), (3, .int v16), (4, .int s22.1)]) dX3_changeSetting_76 (by decide) rfl ?_
              refine G_iload X dX3_changeSetting_78 0 rfl ?_
              refine G_if_le X (tgt := 91) dX3_changeSetting_80 (by decide) (fun h45 => ?_) (fun h45 => ?_)
              · have h46 := ifp h45 h44
                refine G_iinc X (v := (s22.1 + 1)) (lv' := [(4, .int (s22.1 + 1)), (5, .int (v39 - v42)), (0, .ref h), (3, .int v16)]) dX3_changeSetting_91 3 rfl rfl (by decide) rfl ?_
                refine G_goto X (tgt := 51) dX3_changeSetting_94 (by decide) ?_
                cases h46
                exact G_lv [2, 3, 0] rfl (h27 _ rfl)
              · have h47 := ifn h45 h44
                refine G_aload_n X dX3_changeSetting_83 1 rfl ?_
                refine G_iload X dX3_changeSetting_84 3 rfl ?_
                refine G_iload X dX3_changeSetting_86 0 rfl ?_
                obtain ⟨v48, h49, h50⟩ := bnd h47
                refine G1_callv X (As := [.int s22.1, .int (v39 - v42)]) (rest := []) (wr := []) (ws' := [(h, .inr (3, [.ref h_numbers])), (h_numbers, .inl (cI, 352, .inl v48))]) dX3_changeSetting_88 pkX3_dropFirst gX3_changeSetting_X3_dropFirst (kkX3_dropFirst l D cI cR h h_numbers s22.2 s22.1 (v39 - v42) v48 h49) ⟨rfl, rfl⟩ ⟨Nat.le_of_ble_eq_true rfl, Nat.le_of_ble_eq_true rfl⟩ rfl rfl (Nat.le_of_ble_eq_true rfl) 0 rfl rfl [0, 1] [] rfl rfl ⟨rfl, rfl, by decide⟩ ⟨Nat.zero_le _, Nat.zero_le _⟩ [0, 1] rfl rfl ?_
                refine G_iinc X (v := (s22.1 + 1)) (lv' := [(4, .int (s22.1 + 1)), (5, .int (v39 - v42)), (0, .ref h), (3, .int v16)]) dX3_changeSetting_91 3 rfl rfl (by decide) rfl ?_
                refine G_goto X (tgt := 51) dX3_changeSetting_94 (by decide) ?_
                cases h50
                exact G_lv [2, 3, 0] rfl (h27 _ rfl)
          · have h51 := ifn h14 h12
            refine G_ldc X dX3_changeSetting_29 flX3_changeSetting_52 ?_
            cases h51
            exact rt _ _ _ _ dX3_changeSetting_31 ⟨rfl, rfl⟩
        refine G_if_ne X (tgt := 24) dX3_changeSetting_16 (by decide) (fun h52 => ?_) (fun h52 => ?_)
        · have h53 := ifp h52 h11
          refine G_bipush X (v := 16) dX3_changeSetting_19 (by decide) ?_
          refine G_goto X (tgt := 26) dX3_changeSetting_21 (by decide) ?_
          cases h53
          exact J13
        · have h54 := ifn h52 h11
          refine G_bipush X (v := 99) dX3_changeSetting_24 (by decide) ?_
          cases h54
          exact J13
