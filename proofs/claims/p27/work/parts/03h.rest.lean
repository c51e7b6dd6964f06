def rmX0_size : Room := { frames := 0, cells := 0, slots := 0, locals := 0 }
theorem pkX0_size : cK yX0_size wsX0_size cX0_size 1 (some .int) 0 RX0 := ⟨⟨_, rfl⟩, by decide +kernel⟩
theorem hiX0_size_X0 : ∀ w ∈ wsX00, w ∈ wsX0_size := by decide +kernel
theorem flX0_size_22 : Cond.fieldLink RX0 22 "EchoMargins$History" "many" "I" ∈ wsX0_size := by decide +kernel
set_option maxHeartbeats 4000000 in
set_option maxRecDepth 100000 in
theorem kkX0_size (l : Launch) (D : va_G) (cI cR : ClassId) (h h_states : Nat) (i_h_oldest : Int32) (i_h_many : Int32) (z : Int32) (hz : MX0_size i_h_many = some z) : cI1 l yX0_size wsX0_size rmX0_size D cI cR [.ref h] [(h, .inr (0, [.ref h_states, .int i_h_oldest, .int i_h_many]))] z [(h, .inr (0, [.ref h_states, .int i_h_oldest, .int i_h_many]))] := by
  unfold MX0_size at hz
  refine kI_of (cc := cX0_size) (maxL := 1) (own := RX0) (by decide +kernel) rfl rfl (Nat.le_of_ble_eq_true rfl) (lv0 := [(0, .ref h)]) rfl (fun p e s m args below meth c A Q X rt => ?_)
  refine G_aload_n X dX0_size_0 0 rfl ?_
  refine G_get X (i0 := 0) (ci := 0) (j := 2) (C := RX0) (ref := RX0) (T := TX0) (N := 3) dX0_size_1 rfl rfl hiX0_size_X0 (by decide) flX0_size_22 rfl rfl ?_
  cases hz
  exact rt _ _ _ _ dX0_size_4 ⟨rfl, rfl⟩
def rmX0_stateAt : Room := { frames := 0, cells := 0, slots := 0, locals := 0 }
theorem pkX0_stateAt : cK yX0_stateAt wsX0_stateAt cX0_stateAt 3 (some (.object "EchoMargins$Ring")) 1 RX0 := ⟨⟨_, rfl⟩, by decide +kernel⟩
theorem hiX0_stateAt_X0 : ∀ w ∈ wsX00, w ∈ wsX0_stateAt := by decide +kernel
theorem flX0_stateAt_o : Cond.fieldLink RX0 18 "EchoMargins$History" "oldest" "I" ∈ wsX0_stateAt := by decide +kernel
theorem flX0_stateAt_s : Cond.fieldLink RX0 13 "EchoMargins$History" "states" "[LEchoMargins$Ring;" ∈ wsX0_stateAt := by decide +kernel
set_option maxHeartbeats 4000000 in
set_option maxRecDepth 100000 in
theorem kkX0_stateAt (l : Launch) (D : va_G) (cI cR : ClassId) (h h_states : Nat) (h_states_r h_states_a : Nat → Nat) (i_h_oldest i_h_many x0 : Int32) (z : Nat) (hz : MX0_stateAt i_h_oldest x0 = some z) : cMr l yX0_stateAt wsX0_stateAt rmX0_stateAt 0 0 D cI cR [.ref h, .int x0] [(h, .inr (0, [.ref h_states, .int i_h_oldest, .int i_h_many])), (h_states, .inl (cR, 5, .inr (.inr (.inr (.inr (fun j => some (h_states_r j)))))))] (fun a u => a = h_states_r z ∧ u = [(h, .inr (0, [.ref h_states, .int i_h_oldest, .int i_h_many])), (h_states, .inl (cR, 5, .inr (.inr (.inr (.inr (fun j => some (h_states_r j)))))))]) := by
  unfold MX0_stateAt at hz
  refine kR_of (cc := cX0_stateAt) (maxL := 3) (own := RX0) (by decide +kernel) rfl rfl (Nat.le_of_ble_eq_true rfl) (lv0 := [(0, .ref h), (1, .int x0)]) rfl (fun p e s m args below meth c A Q X rt => ?_)
  refine G_aload_n X dX0_stateAt_0 0 rfl ?_
  refine G_get X (i0 := 0) (ci := 0) (j := 1) (C := RX0) (ref := RX0) (T := TX0) (N := 3) dX0_stateAt_1 rfl rfl hiX0_stateAt_X0 (by decide) flX0_stateAt_o rfl rfl ?_
  refine G_iload_n X dX0_stateAt_4 1 rfl ?_
  refine G_iadd X dX0_stateAt_5 ?_
  refine G_iconst X (v := 5) dX0_stateAt_6 (by decide) ?_
  refine G_irem X dX0_stateAt_7 (by decide) ?_
  refine G_istore_n X (lv' := [(2, .int ((i_h_oldest + x0) - (i_h_oldest + x0) / 5 * 5)), (0, .ref h), (1, .int x0)]) dX0_stateAt_8 (by decide) rfl ?_
  refine G_iload_n X dX0_stateAt_9 0 rfl ?_
  refine G_if_lt X (tgt := 22) dX0_stateAt_10 (by decide) (fun q => ?_) (fun q => ?_)
  · have h1 := ifp q hz
    cases h1
  · have h1 := ifn q hz
    refine G_aload_n X dX0_stateAt_13 1 rfl ?_
    refine G_get X (i0 := 0) (ci := 0) (j := 0) (C := RX0) (ref := RX0) (T := TX0) (N := 3) dX0_stateAt_14 rfl rfl hiX0_stateAt_X0 (by decide) flX0_stateAt_s rfl rfl ?_
    refine G_iload_n X dX0_stateAt_17 0 rfl ?_
    refine G_aaldX X (i0 := 1) (b := h_states_r z) dX0_stateAt_18 rfl h1 rfl ?_
    refine G_goto X (tgt := 23) dX0_stateAt_19 (by decide) ?_
    exact rt _ _ _ _ dX0_stateAt_23 ⟨rfl, rfl⟩
def rmX0_note : Room := { frames := 2, cells := 0, slots := 0, locals := 111 }
theorem pkX0_note : cK yX0_note wsX0_note cX0_note 3 none 1 RX0 := ⟨⟨_, rfl⟩, by decide +kernel⟩
theorem hiX0_note_X0 : ∀ w ∈ wsX00, w ∈ wsX0_note := by decide +kernel
theorem flX0_note_22 : Cond.fieldLink RX0 22 "EchoMargins$History" "many" "I" ∈ wsX0_note := by decide +kernel
set_option maxHeartbeats 4000000 in
set_option maxRecDepth 100000 in
theorem kkX0_note (l : Launch) (D : va_G) (cI cR : ClassId) (h h_states a0 a0_numbers : Nat) (h_states_r h_states_a : Nat → Nat) (i_h_oldest : Int32) (i_h_many : Int32) (gs_h_states : Nat → Nat → Int32) (f_a0_numbers : Nat → Int32) (z : (Nat → Nat → Int32)) (hz : MX0_note i_h_oldest i_h_many gs_h_states f_a0_numbers = some z) : cV1 l yX0_note wsX0_note rmX0_note D cI cR [.ref h, .ref a0] [(h, .inr (0, [.ref h_states, .int i_h_oldest, .int i_h_many])), (h_states, .inl (cR, 5, .inr (.inr (.inr (.inr (fun j => some (h_states_r j))))))), ((h_states_r 0), .inr (3, [.ref (h_states_a 0)])), ((h_states_a 0), .inl (cI, 352, .inl (gs_h_states 0))), ((h_states_r 1), .inr (3, [.ref (h_states_a 1)])), ((h_states_a 1), .inl (cI, 352, .inl (gs_h_states 1))), ((h_states_r 2), .inr (3, [.ref (h_states_a 2)])), ((h_states_a 2), .inl (cI, 352, .inl (gs_h_states 2))), ((h_states_r 3), .inr (3, [.ref (h_states_a 3)])), ((h_states_a 3), .inl (cI, 352, .inl (gs_h_states 3))), ((h_states_r 4), .inr (3, [.ref (h_states_a 4)])), ((h_states_a 4), .inl (cI, 352, .inl (gs_h_states 4))), (a0, .inr (3, [.ref a0_numbers])), (a0_numbers, .inl (cI, 352, .inl f_a0_numbers))] [(h, .inr (0, [.ref h_states, .int i_h_oldest, .int i_h_many])), (h_states, .inl (cR, 5, .inr (.inr (.inr (.inr (fun j => some (h_states_r j))))))), ((h_states_r 0), .inr (3, [.ref (h_states_a 0)])), ((h_states_a 0), .inl (cI, 352, .inl (z 0))), ((h_states_r 1), .inr (3, [.ref (h_states_a 1)])), ((h_states_a 1), .inl (cI, 352, .inl (z 1))), ((h_states_r 2), .inr (3, [.ref (h_states_a 2)])), ((h_states_a 2), .inl (cI, 352, .inl (z 2))), ((h_states_r 3), .inr (3, [.ref (h_states_a 3)])), ((h_states_a 3), .inl (cI, 352, .inl (z 3))), ((h_states_r 4), .inr (3, [.ref (h_states_a 4)])), ((h_states_a 4), .inl (cI, 352, .inl (z 4))), (a0, .inr (3, [.ref a0_numbers])), (a0_numbers, .inl (cI, 352, .inl f_a0_numbers))] := by
  unfold MX0_note at hz
  refine kV_of (cc := cX0_note) (maxL := 3) (own := RX0) (by decide +kernel) rfl rfl (Nat.le_of_ble_eq_true rfl) (lv0 := [(0, .ref h), (1, .ref a0)]) rfl (fun p e s m args below meth c A Q X rt => ?_)
  refine G_aload_n X dX0_note_0 0 rfl ?_
  refine G_aload_n X dX0_note_1 0 rfl ?_
  refine G_get X (i0 := 0) (ci := 0) (j := 2) (C := RX0) (ref := RX0) (T := TX0) (N := 3) dX0_note_2 rfl rfl hiX0_note_X0 (by decide) flX0_note_22 rfl rfl ?_
  obtain ⟨v1, h2, h3⟩ := bnd hz
  refine G_callr X (As := [.int i_h_many]) (rest := []) (wr := [((h_states_r 0), .inr (3, [.ref (h_states_a 0)])), ((h_states_a 0), .inl (cI, 352, .inl (gs_h_states 0))), ((h_states_r 1), .inr (3, [.ref (h_states_a 1)])), ((h_states_a 1), .inl (cI, 352, .inl (gs_h_states 1))), ((h_states_r 2), .inr (3, [.ref (h_states_a 2)])), ((h_states_a 2), .inl (cI, 352, .inl (gs_h_states 2))), ((h_states_r 3), .inr (3, [.ref (h_states_a 3)])), ((h_states_a 3), .inl (cI, 352, .inl (gs_h_states 3))), ((h_states_r 4), .inr (3, [.ref (h_states_a 4)])), ((h_states_a 4), .inl (cI, 352, .inl (gs_h_states 4))), (a0, .inr (3, [.ref a0_numbers])), (a0_numbers, .inl (cI, 352, .inl f_a0_numbers))]) dX0_note_5 pkX0_stateAt gX0_note_X0_stateAt (kkX0_stateAt l D cI cR h h_states h_states_r h_states_a i_h_oldest i_h_many i_h_many v1 h2) ⟨rfl, rfl⟩ ⟨Nat.le_of_ble_eq_true rfl, Nat.le_of_ble_eq_true rfl⟩ rfl rfl (Nat.le_of_ble_eq_true rfl) 0 rfl rfl [0, 1] [2, 3, 4, 5, 6, 7, 8, 9, 10, 11, 12, 13] rfl rfl ⟨rfl, rfl, by decide⟩ ⟨Nat.zero_le _, Nat.zero_le _⟩ (fun rh4 uh4 h4 => ?_)
  obtain ⟨rfl, rfl⟩ := h4
  refine G_ws (ws' := [(h, .inr (0, [.ref h_states, .int i_h_oldest, .int i_h_many])), (h_states, .inl (cR, 5, .inr (.inr (.inr (.inr (fun j => some (h_states_r j))))))), ((h_states_r 0), .inr (3, [.ref (h_states_a 0)])), ((h_states_a 0), .inl (cI, 352, .inl (gs_h_states 0))), ((h_states_r 1), .inr (3, [.ref (h_states_a 1)])), ((h_states_a 1), .inl (cI, 352, .inl (gs_h_states 1))), ((h_states_r 2), .inr (3, [.ref (h_states_a 2)])), ((h_states_a 2), .inl (cI, 352, .inl (gs_h_states 2))), ((h_states_r 3), .inr (3, [.ref (h_states_a 3)])), ((h_states_a 3), .inl (cI, 352, .inl (gs_h_states 3))), ((h_states_r 4), .inr (3, [.ref (h_states_a 4)])), ((h_states_a 4), .inl (cI, 352, .inl (gs_h_states 4))), (a0, .inr (3, [.ref a0_numbers])), (a0_numbers, .inl (cI, 352, .inl f_a0_numbers))]) [12, 13, 0, 1, 2, 3, 4, 5, 6, 7, 8, 9, 10, 11] rfl rfl ?_
  rcases lt5 (MX0_stateAt_lt h2) with rfl | rfl | rfl | rfl | rfl
  · refine G_astore_n X (lv' := [(2, .ref (h_states_r 0)), (0, .ref h), (1, .ref a0)]) dX0_note_8 (by decide) rfl ?_
    refine G_aload_n X dX0_note_9 0 rfl ?_
    refine G_ifnull X dX0_note_10 ?_
    refine G_aload_n X dX0_note_13 0 rfl ?_
    refine G_aload_n X dX0_note_14 2 rfl ?_
    obtain ⟨v5, h6, h7⟩ := bnd h3
    refine G1_callv X (As := [.ref a0]) (rest := []) (wr := [(h, .inr (0, [.ref h_states, .int i_h_oldest, .int i_h_many])), (h_states, .inl (cR, 5, .inr (.inr (.inr (.inr (fun j => some (h_states_r j))))))), ((h_states_r 1), .inr (3, [.ref (h_states_a 1)])), ((h_states_a 1), .inl (cI, 352, .inl (gs_h_states 1))), ((h_states_r 2), .inr (3, [.ref (h_states_a 2)])), ((h_states_a 2), .inl (cI, 352, .inl (gs_h_states 2))), ((h_states_r 3), .inr (3, [.ref (h_states_a 3)])), ((h_states_a 3), .inl (cI, 352, .inl (gs_h_states 3))), ((h_states_r 4), .inr (3, [.ref (h_states_a 4)])), ((h_states_a 4), .inl (cI, 352, .inl (gs_h_states 4)))]) (ws' := [(h, .inr (0, [.ref h_states, .int i_h_oldest, .int i_h_many])), (h_states, .inl (cR, 5, .inr (.inr (.inr (.inr (fun j => some (h_states_r j))))))), ((h_states_r 0), .inr (3, [.ref (h_states_a 0)])), ((h_states_a 0), .inl (cI, 352, .inl ((va_up gs_h_states 0 v5) 0))), ((h_states_r 1), .inr (3, [.ref (h_states_a 1)])), ((h_states_a 1), .inl (cI, 352, .inl ((va_up gs_h_states 0 v5) 1))), ((h_states_r 2), .inr (3, [.ref (h_states_a 2)])), ((h_states_a 2), .inl (cI, 352, .inl ((va_up gs_h_states 0 v5) 2))), ((h_states_r 3), .inr (3, [.ref (h_states_a 3)])), ((h_states_a 3), .inl (cI, 352, .inl ((va_up gs_h_states 0 v5) 3))), ((h_states_r 4), .inr (3, [.ref (h_states_a 4)])), ((h_states_a 4), .inl (cI, 352, .inl ((va_up gs_h_states 0 v5) 4))), (a0, .inr (3, [.ref a0_numbers])), (a0_numbers, .inl (cI, 352, .inl f_a0_numbers))]) dX0_note_15 pkX3_copyFrom gX0_note_X3_copyFrom (kkX3_copyFrom l D cI cR (h_states_r 0) (h_states_a 0) a0 a0_numbers (gs_h_states 0) f_a0_numbers v5 h6) ⟨rfl, rfl⟩ ⟨Nat.le_of_ble_eq_true rfl, Nat.le_of_ble_eq_true rfl⟩ rfl rfl (Nat.le_of_ble_eq_true rfl) 0 rfl rfl [2, 3, 12, 13] [0, 1, 4, 5, 6, 7, 8, 9, 10, 11] rfl rfl ⟨rfl, rfl, by decide⟩ ⟨Nat.zero_le _, Nat.zero_le _⟩ [0, 1, 10, 11, 2, 3, 4, 5, 6, 7, 8, 9, 12, 13] rfl rfl ?_
    cases h7
    exact rt _ _ _ dX0_note_18 rfl
  · refine G_astore_n X (lv' := [(2, .ref (h_states_r 1)), (0, .ref h), (1, .ref a0)]) dX0_note_8 (by decide) rfl ?_
    refine G_aload_n X dX0_note_9 0 rfl ?_
    refine G_ifnull X dX0_note_10 ?_
    refine G_aload_n X dX0_note_13 0 rfl ?_
    refine G_aload_n X dX0_note_14 2 rfl ?_
    obtain ⟨v5, h6, h7⟩ := bnd h3
    refine G1_callv X (As := [.ref a0]) (rest := []) (wr := [(h, .inr (0, [.ref h_states, .int i_h_oldest, .int i_h_many])), (h_states, .inl (cR, 5, .inr (.inr (.inr (.inr (fun j => some (h_states_r j))))))), ((h_states_r 0), .inr (3, [.ref (h_states_a 0)])), ((h_states_a 0), .inl (cI, 352, .inl (gs_h_states 0))), ((h_states_r 2), .inr (3, [.ref (h_states_a 2)])), ((h_states_a 2), .inl (cI, 352, .inl (gs_h_states 2))), ((h_states_r 3), .inr (3, [.ref (h_states_a 3)])), ((h_states_a 3), .inl (cI, 352, .inl (gs_h_states 3))), ((h_states_r 4), .inr (3, [.ref (h_states_a 4)])), ((h_states_a 4), .inl (cI, 352, .inl (gs_h_states 4)))]) (ws' := [(h, .inr (0, [.ref h_states, .int i_h_oldest, .int i_h_many])), (h_states, .inl (cR, 5, .inr (.inr (.inr (.inr (fun j => some (h_states_r j))))))), ((h_states_r 0), .inr (3, [.ref (h_states_a 0)])), ((h_states_a 0), .inl (cI, 352, .inl ((va_up gs_h_states 1 v5) 0))), ((h_states_r 1), .inr (3, [.ref (h_states_a 1)])), ((h_states_a 1), .inl (cI, 352, .inl ((va_up gs_h_states 1 v5) 1))), ((h_states_r 2), .inr (3, [.ref (h_states_a 2)])), ((h_states_a 2), .inl (cI, 352, .inl ((va_up gs_h_states 1 v5) 2))), ((h_states_r 3), .inr (3, [.ref (h_states_a 3)])), ((h_states_a 3), .inl (cI, 352, .inl ((va_up gs_h_states 1 v5) 3))), ((h_states_r 4), .inr (3, [.ref (h_states_a 4)])), ((h_states_a 4), .inl (cI, 352, .inl ((va_up gs_h_states 1 v5) 4))), (a0, .inr (3, [.ref a0_numbers])), (a0_numbers, .inl (cI, 352, .inl f_a0_numbers))]) dX0_note_15 pkX3_copyFrom gX0_note_X3_copyFrom (kkX3_copyFrom l D cI cR (h_states_r 1) (h_states_a 1) a0 a0_numbers (gs_h_states 1) f_a0_numbers v5 h6) ⟨rfl, rfl⟩ ⟨Nat.le_of_ble_eq_true rfl, Nat.le_of_ble_eq_true rfl⟩ rfl rfl (Nat.le_of_ble_eq_true rfl) 0 rfl rfl [4, 5, 12, 13] [0, 1, 2, 3, 6, 7, 8, 9, 10, 11] rfl rfl ⟨rfl, rfl, by decide⟩ ⟨Nat.zero_le _, Nat.zero_le _⟩ [0, 1, 2, 3, 10, 11, 4, 5, 6, 7, 8, 9, 12, 13] rfl rfl ?_
    cases h7
    exact rt _ _ _ dX0_note_18 rfl
  · refine G_astore_n X (lv' := [(2, .ref (h_states_r 2)), (0, .ref h), (1, .ref a0)]) dX0_note_8 (by decide) rfl ?_
    refine G_aload_n X dX0_note_9 0 rfl ?_
    refine G_ifnull X dX0_note_10 ?_
    refine G_aload_n X dX0_note_13 0 rfl ?_
    refine G_aload_n X dX0_note_14 2 rfl ?_
    obtain ⟨v5, h6, h7⟩ := bnd h3
    refine G1_callv X (As := [.ref a0]) (rest := []) (wr := [(h, .inr (0, [.ref h_states, .int i_h_oldest, .int i_h_many])), (h_states, .inl (cR, 5, .inr (.inr (.inr (.inr (fun j => some (h_states_r j))))))), ((h_states_r 0), .inr (3, [.ref (h_states_a 0)])), ((h_states_a 0), .inl (cI, 352, .inl (gs_h_states 0))), ((h_states_r 1), .inr (3, [.ref (h_states_a 1)])), ((h_states_a 1), .inl (cI, 352, .inl (gs_h_states 1))), ((h_states_r 3), .inr (3, [.ref (h_states_a 3)])), ((h_states_a 3), .inl (cI, 352, .inl (gs_h_states 3))), ((h_states_r 4), .inr (3, [.ref (h_states_a 4)])), ((h_states_a 4), .inl (cI, 352, .inl (gs_h_states 4)))]) (ws' := [(h, .inr (0, [.ref h_states, .int i_h_oldest, .int i_h_many])), (h_states, .inl (cR, 5, .inr (.inr (.inr (.inr (fun j => some (h_states_r j))))))), ((h_states_r 0), .inr (3, [.ref (h_states_a 0)])), ((h_states_a 0), .inl (cI, 352, .inl ((va_up gs_h_states 2 v5) 0))), ((h_states_r 1), .inr (3, [.ref (h_states_a 1)])), ((h_states_a 1), .inl (cI, 352, .inl ((va_up gs_h_states 2 v5) 1))), ((h_states_r 2), .inr (3, [.ref (h_states_a 2)])), ((h_states_a 2), .inl (cI, 352, .inl ((va_up gs_h_states 2 v5) 2))), ((h_states_r 3), .inr (3, [.ref (h_states_a 3)])), ((h_states_a 3), .inl (cI, 352, .inl ((va_up gs_h_states 2 v5) 3))), ((h_states_r 4), .inr (3, [.ref (h_states_a 4)])), ((h_states_a 4), .inl (cI, 352, .inl ((va_up gs_h_states 2 v5) 4))), (a0, .inr (3, [.ref a0_numbers])), (a0_numbers, .inl (cI, 352, .inl f_a0_numbers))]) dX0_note_15 pkX3_copyFrom gX0_note_X3_copyFrom (kkX3_copyFrom l D cI cR (h_states_r 2) (h_states_a 2) a0 a0_numbers (gs_h_states 2) f_a0_numbers v5 h6) ⟨rfl, rfl⟩ ⟨Nat.le_of_ble_eq_true rfl, Nat.le_of_ble_eq_true rfl⟩ rfl rfl (Nat.le_of_ble_eq_true rfl) 0 rfl rfl [6, 7, 12, 13] [0, 1, 2, 3, 4, 5, 8, 9, 10, 11] rfl rfl ⟨rfl, rfl, by decide⟩ ⟨Nat.zero_le _, Nat.zero_le _⟩ [0, 1, 2, 3, 4, 5, 10, 11, 6, 7, 8, 9, 12, 13] rfl rfl ?_
    cases h7
    exact rt _ _ _ dX0_note_18 rfl
  · refine G_astore_n X (lv' := [(2, .ref (h_states_r 3)), (0, .ref h), (1, .ref a0)]) dX0_note_8 (by decide) rfl ?_
    refine G_aload_n X dX0_note_9 0 rfl ?_
    refine G_ifnull X dX0_note_10 ?_
    refine G_aload_n X dX0_note_13 0 rfl ?_
    refine G_aload_n X dX0_note_14 2 rfl ?_
    obtain ⟨v5, h6, h7⟩ := bnd h3
    refine G1_callv X (As := [.ref a0]) (rest := []) (wr := [(h, .inr (0, [.ref h_states, .int i_h_oldest, .int i_h_many])), (h_states, .inl (cR, 5, .inr (.inr (.inr (.inr (fun j => some (h_states_r j))))))), ((h_states_r 0), .inr (3, [.ref (h_states_a 0)])), ((h_states_a 0), .inl (cI, 352, .inl (gs_h_states 0))), ((h_states_r 1), .inr (3, [.ref (h_states_a 1)])), ((h_states_a 1), .inl (cI, 352, .inl (gs_h_states 1))), ((h_states_r 2), .inr (3, [.ref (h_states_a 2)])), ((h_states_a 2), .inl (cI, 352, .inl (gs_h_states 2))), ((h_states_r 4), .inr (3, [.ref (h_states_a 4)])), ((h_states_a 4), .inl (cI, 352, .inl (gs_h_states 4)))]) (ws' := [(h, .inr (0, [.ref h_states, .int i_h_oldest, .int i_h_many])), (h_states, .inl (cR, 5, .inr (.inr (.inr (.inr (fun j => some (h_states_r j))))))), ((h_states_r 0), .inr (3, [.ref (h_states_a 0)])), ((h_states_a 0), .inl (cI, 352, .inl ((va_up gs_h_states 3 v5) 0))), ((h_states_r 1), .inr (3, [.ref (h_states_a 1)])), ((h_states_a 1), .inl (cI, 352, .inl ((va_up gs_h_states 3 v5) 1))), ((h_states_r 2), .inr (3, [.ref (h_states_a 2)])), ((h_states_a 2), .inl (cI, 352, .inl ((va_up gs_h_states 3 v5) 2))), ((h_states_r 3), .inr (3, [.ref (h_states_a 3)])), ((h_states_a 3), .inl (cI, 352, .inl ((va_up gs_h_states 3 v5) 3))), ((h_states_r 4), .inr (3, [.ref (h_states_a 4)])), ((h_states_a 4), .inl (cI, 352, .inl ((va_up gs_h_states 3 v5) 4))), (a0, .inr (3, [.ref a0_numbers])), (a0_numbers, .inl (cI, 352, .inl f_a0_numbers))]) dX0_note_15 pkX3_copyFrom gX0_note_X3_copyFrom (kkX3_copyFrom l D cI cR (h_states_r 3) (h_states_a 3) a0 a0_numbers (gs_h_states 3) f_a0_numbers v5 h6) ⟨rfl, rfl⟩ ⟨Nat.le_of_ble_eq_true rfl, Nat.le_of_ble_eq_true rfl⟩ rfl rfl (Nat.le_of_ble_eq_true rfl) 0 rfl rfl [8, 9, 12, 13] [0, 1, 2, 3, 4, 5, 6, 7, 10, 11] rfl rfl ⟨rfl, rfl, by decide⟩ ⟨Nat.zero_le _, Nat.zero_le _⟩ [0, 1, 2, 3, 4, 5, 6, 7, 10, 11, 8, 9, 12, 13] rfl rfl ?_
    cases h7
    exact rt _ _ _ dX0_note_18 rfl
  · refine G_astore_n X (lv' := [(2, .ref (h_states_r 4)), (0, .ref h), (1, .ref a0)]) dX0_note_8 (by decide) rfl ?_
    refine G_aload_n X dX0_note_9 0 rfl ?_
    refine G_ifnull X dX0_note_10 ?_
    refine G_aload_n X dX0_note_13 0 rfl ?_
    refine G_aload_n X dX0_note_14 2 rfl ?_
    obtain ⟨v5, h6, h7⟩ := bnd h3
    refine G1_callv X (As := [.ref a0]) (rest := []) (wr := [(h, .inr (0, [.ref h_states, .int i_h_oldest, .int i_h_many])), (h_states, .inl (cR, 5, .inr (.inr (.inr (.inr (fun j => some (h_states_r j))))))), ((h_states_r 0), .inr (3, [.ref (h_states_a 0)])), ((h_states_a 0), .inl (cI, 352, .inl (gs_h_states 0))), ((h_states_r 1), .inr (3, [.ref (h_states_a 1)])), ((h_states_a 1), .inl (cI, 352, .inl (gs_h_states 1))), ((h_states_r 2), .inr (3, [.ref (h_states_a 2)])), ((h_states_a 2), .inl (cI, 352, .inl (gs_h_states 2))), ((h_states_r 3), .inr (3, [.ref (h_states_a 3)])), ((h_states_a 3), .inl (cI, 352, .inl (gs_h_states 3)))]) (ws' := [(h, .inr (0, [.ref h_states, .int i_h_oldest, .int i_h_many])), (h_states, .inl (cR, 5, .inr (.inr (.inr (.inr (fun j => some (h_states_r j))))))), ((h_states_r 0), .inr (3, [.ref (h_states_a 0)])), ((h_states_a 0), .inl (cI, 352, .inl ((va_up gs_h_states 4 v5) 0))), ((h_states_r 1), .inr (3, [.ref (h_states_a 1)])), ((h_states_a 1), .inl (cI, 352, .inl ((va_up gs_h_states 4 v5) 1))), ((h_states_r 2), .inr (3, [.ref (h_states_a 2)])), ((h_states_a 2), .inl (cI, 352, .inl ((va_up gs_h_states 4 v5) 2))), ((h_states_r 3), .inr (3, [.ref (h_states_a 3)])), ((h_states_a 3), .inl (cI, 352, .inl ((va_up gs_h_states 4 v5) 3))), ((h_states_r 4), .inr (3, [.ref (h_states_a 4)])), ((h_states_a 4), .inl (cI, 352, .inl ((va_up gs_h_states 4 v5) 4))), (a0, .inr (3, [.ref a0_numbers])), (a0_numbers, .inl (cI, 352, .inl f_a0_numbers))]) dX0_note_15 pkX3_copyFrom gX0_note_X3_copyFrom (kkX3_copyFrom l D cI cR (h_states_r 4) (h_states_a 4) a0 a0_numbers (gs_h_states 4) f_a0_numbers v5 h6) ⟨rfl, rfl⟩ ⟨Nat.le_of_ble_eq_true rfl, Nat.le_of_ble_eq_true rfl⟩ rfl rfl (Nat.le_of_ble_eq_true rfl) 0 rfl rfl [10, 11, 12, 13] [0, 1, 2, 3, 4, 5, 6, 7, 8, 9] rfl rfl ⟨rfl, rfl, by decide⟩ ⟨Nat.zero_le _, Nat.zero_le _⟩ [0, 1, 2, 3, 4, 5, 6, 7, 8, 9, 10, 11, 12, 13] rfl rfl ?_
    cases h7
    exact rt _ _ _ dX0_note_18 rfl
def rmX0_keepUnlessError : Room := { frames := 0, cells := 0, slots := 0, locals := 0 }
theorem pkX0_keepUnlessError : cK yX0_keepUnlessError wsX0_keepUnlessError cX0_keepUnlessError 2 (some .int) 1 RX0 := ⟨⟨_, rfl⟩, by decide +kernel⟩
theorem hiX0_keepUnlessError_X0 : ∀ w ∈ wsX00, w ∈ wsX0_keepUnlessError := by decide +kernel
theorem flX0_keepUnlessError_22 : Cond.fieldLink RX0 22 "EchoMargins$History" "many" "I" ∈ wsX0_keepUnlessError := by decide +kernel
theorem flX0_keepUnlessError_18 : Cond.fieldLink RX0 18 "EchoMargins$History" "oldest" "I" ∈ wsX0_keepUnlessError := by decide +kernel
set_option maxHeartbeats 4000000 in
set_option maxRecDepth 100000 in
theorem kkX0_keepUnlessError (l : Launch) (D : va_G) (cI cR : ClassId) (h h_states : Nat) (i_h_oldest : Int32) (i_h_many : Int32) (x0 : Int32) (z : (Int32 × Int32 × Int32)) (hz : MX0_keepUnlessError i_h_oldest i_h_many x0 = some z) : cI1 l yX0_keepUnlessError wsX0_keepUnlessError rmX0_keepUnlessError D cI cR [.ref h, .int x0] [(h, .inr (0, [.ref h_states, .int i_h_oldest, .int i_h_many]))] z.1 [(h, .inr (0, [.ref h_states, .int z.2.1, .int z.2.2]))] := by
  unfold MX0_keepUnlessError at hz
  refine kI_of (cc := cX0_keepUnlessError) (maxL := 2) (own := RX0) (by decide +kernel) rfl rfl (Nat.le_of_ble_eq_true rfl) (lv0 := [(0, .ref h), (1, .int x0)]) rfl (fun p e s m args below meth c A Q X rt => ?_)
  refine G_iload_n X dX0_keepUnlessError_0 1 rfl ?_
  refine G_if_ge X (tgt := 6) dX0_keepUnlessError_1 (by decide) (fun h1 => ?_) (fun h1 => ?_)
  · have h2 := ifp h1 hz
    refine G_aload_n X dX0_keepUnlessError_6 0 rfl ?_
    refine G_get X (i0 := 0) (ci := 0) (j := 2) (C := RX0) (ref := RX0) (T := TX0) (N := 3) dX0_keepUnlessError_7 rfl rfl hiX0_keepUnlessError_X0 (by decide) flX0_keepUnlessError_22 rfl rfl ?_
    refine G_iconst X (v := 4) dX0_keepUnlessError_10 (by decide) ?_
    refine G_icmp_ge X (tgt := 27) dX0_keepUnlessError_11 (by decide) (fun h3 => ?_) (fun h3 => ?_)
    · have h4 := ifp h3 h2
      refine G_aload_n X dX0_keepUnlessError_27 0 rfl ?_
      refine G_aload_n X dX0_keepUnlessError_28 0 rfl ?_
      refine G_get X (i0 := 0) (ci := 0) (j := 1) (C := RX0) (ref := RX0) (T := TX0) (N := 3) dX0_keepUnlessError_29 rfl rfl hiX0_keepUnlessError_X0 (by decide) flX0_keepUnlessError_18 rfl rfl ?_
      refine G_iconst X (v := 1) dX0_keepUnlessError_32 (by decide) ?_
      refine G_iadd X dX0_keepUnlessError_33 ?_
      refine G_iconst X (v := 5) dX0_keepUnlessError_34 (by decide) ?_
      refine G_irem X dX0_keepUnlessError_35 (by decide) ?_
      refine G_put X (i0 := 0) (ci := 0) (j := 1) (C := RX0) (ref := RX0) (T := TX0) (N := 3) (ty := .int) (ws' := [(h, .inr (0, [.ref h_states, .int ((i_h_oldest + 1) - (i_h_oldest + 1) / 5 * 5), .int i_h_many]))]) tyX0 dX0_keepUnlessError_36 rfl rfl hiX0_keepUnlessError_X0 tyX0_ok nmX0 (by decide) flX0_keepUnlessError_18 rfl rfl rfl rfl rfl (Nat.le_of_ble_eq_true rfl) rfl ?_
      refine G_iload_n X dX0_keepUnlessError_39 1 rfl ?_
      cases h4
      exact rt _ _ _ _ dX0_keepUnlessError_40 ⟨rfl, rfl⟩
    · have h5 := ifn h3 h2
      refine G_aload_n X dX0_keepUnlessError_14 0 rfl ?_
      refine G_dup X dX0_keepUnlessError_15 rfl ?_
      refine G_get X (i0 := 0) (ci := 0) (j := 2) (C := RX0) (ref := RX0) (T := TX0) (N := 3) dX0_keepUnlessError_16 rfl rfl hiX0_keepUnlessError_X0 (by decide) flX0_keepUnlessError_22 rfl rfl ?_
      refine G_iconst X (v := 1) dX0_keepUnlessError_19 (by decide) ?_
      refine G_iadd X dX0_keepUnlessError_20 ?_
      refine G_put X (i0 := 0) (ci := 0) (j := 2) (C := RX0) (ref := RX0) (T := TX0) (N := 3) (ty := .int) (ws' := [(h, .inr (0, [.ref h_states, .int i_h_oldest, .int (i_h_many + 1)]))]) tyX0 dX0_keepUnlessError_21 rfl rfl hiX0_keepUnlessError_X0 tyX0_ok nmX0 (by decide) flX0_keepUnlessError_22 rfl rfl rfl rfl rfl (Nat.le_of_ble_eq_true rfl) rfl ?_
      refine G_goto X (tgt := 39) dX0_keepUnlessError_24 (by decide) ?_
      refine G_iload_n X dX0_keepUnlessError_39 1 rfl ?_
      cases h5
      exact rt _ _ _ _ dX0_keepUnlessError_40 ⟨rfl, rfl⟩
  · have h6 := ifn h1 hz
    refine G_iload_n X dX0_keepUnlessError_4 1 rfl ?_
    cases h6
    exact rt _ _ _ _ dX0_keepUnlessError_5 ⟨rfl, rfl⟩
def rmX0_bringBack : Room := { frames := 2, cells := 0, slots := 0, locals := 111 }
theorem pkX0_bringBack : cK yX0_bringBack wsX0_bringBack cX0_bringBack 2 (some .int) 1 RX0 := ⟨⟨_, rfl⟩, by decide +kernel⟩
theorem hiX0_bringBack_X0 : ∀ w ∈ wsX00, w ∈ wsX0_bringBack := by decide +kernel
theorem flX0_bringBack_22 : Cond.fieldLink RX0 22 "EchoMargins$History" "many" "I" ∈ wsX0_bringBack := by decide +kernel
theorem flX0_bringBack_33 : Cond.constant RX0 33 (-1000002) ∈ wsX0_bringBack := by decide +kernel
set_option maxHeartbeats 4000000 in
set_option maxRecDepth 100000 in
theorem kkX0_bringBack (l : Launch) (D : va_G) (cI cR : ClassId) (h h_states a0 a0_numbers : Nat) (h_states_r h_states_a : Nat → Nat) (i_h_oldest : Int32) (i_h_many : Int32) (gs_h_states : Nat → Nat → Int32) (f_a0_numbers : Nat → Int32) (z : (Int32 × Int32 × (Nat → Int32))) (hz : MX0_bringBack i_h_oldest i_h_many gs_h_states f_a0_numbers = some z) : cI1 l yX0_bringBack wsX0_bringBack rmX0_bringBack D cI cR [.ref h, .ref a0] [(h, .inr (0, [.ref h_states, .int i_h_oldest, .int i_h_many])), (h_states, .inl (cR, 5, .inr (.inr (.inr (.inr (fun j => some (h_states_r j))))))), ((h_states_r 0), .inr (3, [.ref (h_states_a 0)])), ((h_states_a 0), .inl (cI, 352, .inl (gs_h_states 0))), ((h_states_r 1), .inr (3, [.ref (h_states_a 1)])), ((h_states_a 1), .inl (cI, 352, .inl (gs_h_states 1))), ((h_states_r 2), .inr (3, [.ref (h_states_a 2)])), ((h_states_a 2), .inl (cI, 352, .inl (gs_h_states 2))), ((h_states_r 3), .inr (3, [.ref (h_states_a 3)])), ((h_states_a 3), .inl (cI, 352, .inl (gs_h_states 3))), ((h_states_r 4), .inr (3, [.ref (h_states_a 4)])), ((h_states_a 4), .inl (cI, 352, .inl (gs_h_states 4))), (a0, .inr (3, [.ref a0_numbers])), (a0_numbers, .inl (cI, 352, .inl f_a0_numbers))] z.1 [(h, .inr (0, [.ref h_states, .int i_h_oldest, .int z.2.1])), (h_states, .inl (cR, 5, .inr (.inr (.inr (.inr (fun j => some (h_states_r j))))))), ((h_states_r 0), .inr (3, [.ref (h_states_a 0)])), ((h_states_a 0), .inl (cI, 352, .inl (gs_h_states 0))), ((h_states_r 1), .inr (3, [.ref (h_states_a 1)])), ((h_states_a 1), .inl (cI, 352, .inl (gs_h_states 1))), ((h_states_r 2), .inr (3, [.ref (h_states_a 2)])), ((h_states_a 2), .inl (cI, 352, .inl (gs_h_states 2))), ((h_states_r 3), .inr (3, [.ref (h_states_a 3)])), ((h_states_a 3), .inl (cI, 352, .inl (gs_h_states 3))), ((h_states_r 4), .inr (3, [.ref (h_states_a 4)])), ((h_states_a 4), .inl (cI, 352, .inl (gs_h_states 4))), (a0, .inr (3, [.ref a0_numbers])), (a0_numbers, .inl (cI, 352, .inl z.2.2))] := by
  unfold MX0_bringBack at hz
  refine kI_of (cc := cX0_bringBack) (maxL := 2) (own := RX0) (by decide +kernel) rfl rfl (Nat.le_of_ble_eq_true rfl) (lv0 := [(0, .ref h), (1, .ref a0)]) rfl (fun p e s m args below meth c A Q X rt => ?_)
  refine G_aload_n X dX0_bringBack_0 0 rfl ?_
  refine G_get X (i0 := 0) (ci := 0) (j := 2) (C := RX0) (ref := RX0) (T := TX0) (N := 3) dX0_bringBack_1 rfl rfl hiX0_bringBack_X0 (by decide) flX0_bringBack_22 rfl rfl ?_
  refine G_if_ne X (tgt := 10) dX0_bringBack_4 (by decide) (fun h1 => ?_) (fun h1 => ?_)
  · have h2 := ifp h1 hz
    refine G_ldc X dX0_bringBack_7 flX0_bringBack_33 ?_
    cases h2
    exact rt _ _ _ _ dX0_bringBack_9 ⟨rfl, rfl⟩
  · have h3 := ifn h1 hz
    refine G_aload_n X dX0_bringBack_10 0 rfl ?_
    refine G_dup X dX0_bringBack_11 rfl ?_
    refine G_get X (i0 := 0) (ci := 0) (j := 2) (C := RX0) (ref := RX0) (T := TX0) (N := 3) dX0_bringBack_12 rfl rfl hiX0_bringBack_X0 (by decide) flX0_bringBack_22 rfl rfl ?_
    refine G_iconst X (v := 1) dX0_bringBack_15 (by decide) ?_
    refine G_isub X dX0_bringBack_16 ?_
    refine G_put X (i0 := 0) (ci := 0) (j := 2) (C := RX0) (ref := RX0) (T := TX0) (N := 3) (ty := .int) (ws' := [(h, .inr (0, [.ref h_states, .int i_h_oldest, .int (i_h_many - 1)])), (h_states, .inl (cR, 5, .inr (.inr (.inr (.inr (fun j => some (h_states_r j))))))), ((h_states_r 0), .inr (3, [.ref (h_states_a 0)])), ((h_states_a 0), .inl (cI, 352, .inl (gs_h_states 0))), ((h_states_r 1), .inr (3, [.ref (h_states_a 1)])), ((h_states_a 1), .inl (cI, 352, .inl (gs_h_states 1))), ((h_states_r 2), .inr (3, [.ref (h_states_a 2)])), ((h_states_a 2), .inl (cI, 352, .inl (gs_h_states 2))), ((h_states_r 3), .inr (3, [.ref (h_states_a 3)])), ((h_states_a 3), .inl (cI, 352, .inl (gs_h_states 3))), ((h_states_r 4), .inr (3, [.ref (h_states_a 4)])), ((h_states_a 4), .inl (cI, 352, .inl (gs_h_states 4))), (a0, .inr (3, [.ref a0_numbers])), (a0_numbers, .inl (cI, 352, .inl f_a0_numbers))]) tyX0 dX0_bringBack_17 rfl rfl hiX0_bringBack_X0 tyX0_ok nmX0 (by decide) flX0_bringBack_22 rfl rfl rfl rfl rfl (Nat.le_of_ble_eq_true rfl) rfl ?_
    refine G_aload_n X dX0_bringBack_20 1 rfl ?_
    refine G_aload_n X dX0_bringBack_21 0 rfl ?_
    refine G_aload_n X dX0_bringBack_22 0 rfl ?_
    refine G_get X (i0 := 0) (ci := 0) (j := 2) (C := RX0) (ref := RX0) (T := TX0) (N := 3) dX0_bringBack_23 rfl rfl hiX0_bringBack_X0 (by decide) flX0_bringBack_22 rfl rfl ?_
    obtain ⟨v4, h5, h6⟩ := bnd h3
    refine G_callr X (As := [.int (i_h_many - 1)]) (rest := [.ref a0]) (wr := [((h_states_r 0), .inr (3, [.ref (h_states_a 0)])), ((h_states_a 0), .inl (cI, 352, .inl (gs_h_states 0))), ((h_states_r 1), .inr (3, [.ref (h_states_a 1)])), ((h_states_a 1), .inl (cI, 352, .inl (gs_h_states 1))), ((h_states_r 2), .inr (3, [.ref (h_states_a 2)])), ((h_states_a 2), .inl (cI, 352, .inl (gs_h_states 2))), ((h_states_r 3), .inr (3, [.ref (h_states_a 3)])), ((h_states_a 3), .inl (cI, 352, .inl (gs_h_states 3))), ((h_states_r 4), .inr (3, [.ref (h_states_a 4)])), ((h_states_a 4), .inl (cI, 352, .inl (gs_h_states 4))), (a0, .inr (3, [.ref a0_numbers])), (a0_numbers, .inl (cI, 352, .inl f_a0_numbers))]) dX0_bringBack_26 pkX0_stateAt gX0_bringBack_X0_stateAt (kkX0_stateAt l D cI cR h h_states h_states_r h_states_a i_h_oldest (i_h_many - 1) (i_h_many - 1) v4 h5) ⟨rfl, rfl⟩ ⟨Nat.le_of_ble_eq_true rfl, Nat.le_of_ble_eq_true rfl⟩ rfl rfl (Nat.le_of_ble_eq_true rfl) 0 rfl rfl [0, 1] [2, 3, 4, 5, 6, 7, 8, 9, 10, 11, 12, 13] rfl rfl ⟨rfl, rfl, by decide⟩ ⟨Nat.zero_le _, Nat.zero_le _⟩ (fun rh7 uh7 h7 => ?_)
    obtain ⟨rfl, rfl⟩ := h7
    refine G_ws (ws' := [(h, .inr (0, [.ref h_states, .int i_h_oldest, .int (i_h_many - 1)])), (h_states, .inl (cR, 5, .inr (.inr (.inr (.inr (fun j => some (h_states_r j))))))), ((h_states_r 0), .inr (3, [.ref (h_states_a 0)])), ((h_states_a 0), .inl (cI, 352, .inl (gs_h_states 0))), ((h_states_r 1), .inr (3, [.ref (h_states_a 1)])), ((h_states_a 1), .inl (cI, 352, .inl (gs_h_states 1))), ((h_states_r 2), .inr (3, [.ref (h_states_a 2)])), ((h_states_a 2), .inl (cI, 352, .inl (gs_h_states 2))), ((h_states_r 3), .inr (3, [.ref (h_states_a 3)])), ((h_states_a 3), .inl (cI, 352, .inl (gs_h_states 3))), ((h_states_r 4), .inr (3, [.ref (h_states_a 4)])), ((h_states_a 4), .inl (cI, 352, .inl (gs_h_states 4))), (a0, .inr (3, [.ref a0_numbers])), (a0_numbers, .inl (cI, 352, .inl f_a0_numbers))]) [12, 13, 0, 1, 2, 3, 4, 5, 6, 7, 8, 9, 10, 11] rfl rfl ?_
    rcases lt5 (MX0_stateAt_lt h5) with rfl | rfl | rfl | rfl | rfl
    · obtain ⟨v8, h9, h10⟩ := bnd h6
      refine G1_callv X (As := [.ref (h_states_r 0)]) (rest := []) (wr := [(h, .inr (0, [.ref h_states, .int i_h_oldest, .int (i_h_many - 1)])), (h_states, .inl (cR, 5, .inr (.inr (.inr (.inr (fun j => some (h_states_r j))))))), ((h_states_r 1), .inr (3, [.ref (h_states_a 1)])), ((h_states_a 1), .inl (cI, 352, .inl (gs_h_states 1))), ((h_states_r 2), .inr (3, [.ref (h_states_a 2)])), ((h_states_a 2), .inl (cI, 352, .inl (gs_h_states 2))), ((h_states_r 3), .inr (3, [.ref (h_states_a 3)])), ((h_states_a 3), .inl (cI, 352, .inl (gs_h_states 3))), ((h_states_r 4), .inr (3, [.ref (h_states_a 4)])), ((h_states_a 4), .inl (cI, 352, .inl (gs_h_states 4)))]) (ws' := [(h, .inr (0, [.ref h_states, .int i_h_oldest, .int (i_h_many - 1)])), (h_states, .inl (cR, 5, .inr (.inr (.inr (.inr (fun j => some (h_states_r j))))))), ((h_states_r 0), .inr (3, [.ref (h_states_a 0)])), ((h_states_a 0), .inl (cI, 352, .inl (gs_h_states 0))), ((h_states_r 1), .inr (3, [.ref (h_states_a 1)])), ((h_states_a 1), .inl (cI, 352, .inl (gs_h_states 1))), ((h_states_r 2), .inr (3, [.ref (h_states_a 2)])), ((h_states_a 2), .inl (cI, 352, .inl (gs_h_states 2))), ((h_states_r 3), .inr (3, [.ref (h_states_a 3)])), ((h_states_a 3), .inl (cI, 352, .inl (gs_h_states 3))), ((h_states_r 4), .inr (3, [.ref (h_states_a 4)])), ((h_states_a 4), .inl (cI, 352, .inl (gs_h_states 4))), (a0, .inr (3, [.ref a0_numbers])), (a0_numbers, .inl (cI, 352, .inl v8))]) dX0_bringBack_29 pkX3_copyFrom gX0_bringBack_X3_copyFrom (kkX3_copyFrom l D cI cR a0 a0_numbers (h_states_r 0) (h_states_a 0) f_a0_numbers (gs_h_states 0) v8 h9) ⟨rfl, rfl⟩ ⟨Nat.le_of_ble_eq_true rfl, Nat.le_of_ble_eq_true rfl⟩ rfl rfl (Nat.le_of_ble_eq_true rfl) 0 rfl rfl [12, 13, 2, 3] [0, 1, 4, 5, 6, 7, 8, 9, 10, 11] rfl rfl ⟨rfl, rfl, by decide⟩ ⟨Nat.zero_le _, Nat.zero_le _⟩ [0, 1, 12, 13, 2, 3, 4, 5, 6, 7, 8, 9, 10, 11] rfl rfl ?_
      refine G_aload_n X dX0_bringBack_32 0 rfl ?_
      refine G_get X (i0 := 0) (ci := 0) (j := 2) (C := RX0) (ref := RX0) (T := TX0) (N := 3) dX0_bringBack_33 rfl rfl hiX0_bringBack_X0 (by decide) flX0_bringBack_22 rfl rfl ?_
      cases h10
      exact rt _ _ _ _ dX0_bringBack_36 ⟨rfl, rfl⟩
    · obtain ⟨v8, h9, h10⟩ := bnd h6
      refine G1_callv X (As := [.ref (h_states_r 1)]) (rest := []) (wr := [(h, .inr (0, [.ref h_states, .int i_h_oldest, .int (i_h_many - 1)])), (h_states, .inl (cR, 5, .inr (.inr (.inr (.inr (fun j => some (h_states_r j))))))), ((h_states_r 0), .inr (3, [.ref (h_states_a 0)])), ((h_states_a 0), .inl (cI, 352, .inl (gs_h_states 0))), ((h_states_r 2), .inr (3, [.ref (h_states_a 2)])), ((h_states_a 2), .inl (cI, 352, .inl (gs_h_states 2))), ((h_states_r 3), .inr (3, [.ref (h_states_a 3)])), ((h_states_a 3), .inl (cI, 352, .inl (gs_h_states 3))), ((h_states_r 4), .inr (3, [.ref (h_states_a 4)])), ((h_states_a 4), .inl (cI, 352, .inl (gs_h_states 4)))]) (ws' := [(h, .inr (0, [.ref h_states, .int i_h_oldest, .int (i_h_many - 1)])), (h_states, .inl (cR, 5, .inr (.inr (.inr (.inr (fun j => some (h_states_r j))))))), ((h_states_r 0), .inr (3, [.ref (h_states_a 0)])), ((h_states_a 0), .inl (cI, 352, .inl (gs_h_states 0))), ((h_states_r 1), .inr (3, [.ref (h_states_a 1)])), ((h_states_a 1), .inl (cI, 352, .inl (gs_h_states 1))), ((h_states_r 2), .inr (3, [.ref (h_states_a 2)])), ((h_states_a 2), .inl (cI, 352, .inl (gs_h_states 2))), ((h_states_r 3), .inr (3, [.ref (h_states_a 3)])), ((h_states_a 3), .inl (cI, 352, .inl (gs_h_states 3))), ((h_states_r 4), .inr (3, [.ref (h_states_a 4)])), ((h_states_a 4), .inl (cI, 352, .inl (gs_h_states 4))), (a0, .inr (3, [.ref a0_numbers])), (a0_numbers, .inl (cI, 352, .inl v8))]) dX0_bringBack_29 pkX3_copyFrom gX0_bringBack_X3_copyFrom (kkX3_copyFrom l D cI cR a0 a0_numbers (h_states_r 1) (h_states_a 1) f_a0_numbers (gs_h_states 1) v8 h9) ⟨rfl, rfl⟩ ⟨Nat.le_of_ble_eq_true rfl, Nat.le_of_ble_eq_true rfl⟩ rfl rfl (Nat.le_of_ble_eq_true rfl) 0 rfl rfl [12, 13, 4, 5] [0, 1, 2, 3, 6, 7, 8, 9, 10, 11] rfl rfl ⟨rfl, rfl, by decide⟩ ⟨Nat.zero_le _, Nat.zero_le _⟩ [0, 1, 2, 3, 12, 13, 4, 5, 6, 7, 8, 9, 10, 11] rfl rfl ?_
      refine G_aload_n X dX0_bringBack_32 0 rfl ?_
      refine G_get X (i0 := 0) (ci := 0) (j := 2) (C := RX0) (ref := RX0) (T := TX0) (N := 3) dX0_bringBack_33 rfl rfl hiX0_bringBack_X0 (by decide) flX0_bringBack_22 rfl rfl ?_
      cases h10
      exact rt _ _ _ _ dX0_bringBack_36 ⟨rfl, rfl⟩
    · obtain ⟨v8, h9, h10⟩ := bnd h6
      refine G1_callv X (As := [.ref (h_states_r 2)]) (rest := []) (wr := [(h, .inr (0, [.ref h_states, .int i_h_oldest, .int (i_h_many - 1)])), (h_states, .inl (cR, 5, .inr (.inr (.inr (.inr (fun j => some (h_states_r j))))))), ((h_states_r 0), .inr (3, [.ref (h_states_a 0)])), ((h_states_a 0), .inl (cI, 352, .inl (gs_h_states 0))), ((h_states_r 1), .inr (3, [.ref (h_states_a 1)])), ((h_states_a 1), .inl (cI, 352, .inl (gs_h_states 1))), ((h_states_r 3), .inr (3, [.ref (h_states_a 3)])), ((h_states_a 3), .inl (cI, 352, .inl (gs_h_states 3))), ((h_states_r 4), .inr (3, [.ref (h_states_a 4)])), ((h_states_a 4), .inl (cI, 352, .inl (gs_h_states 4)))]) (ws' := [(h, .inr (0, [.ref h_states, .int i_h_oldest, .int (i_h_many - 1)])), (h_states, .inl (cR, 5, .inr (.inr (.inr (.inr (fun j => some (h_states_r j))))))), ((h_states_r 0), .inr (3, [.ref (h_states_a 0)])), ((h_states_a 0), .inl (cI, 352, .inl (gs_h_states 0))), ((h_states_r 1), .inr (3, [.ref (h_states_a 1)])), ((h_states_a 1), .inl (cI, 352, .inl (gs_h_states 1))), ((h_states_r 2), .inr (3, [.ref (h_states_a 2)])), ((h_states_a 2), .inl (cI, 352, .inl (gs_h_states 2))), ((h_states_r 3), .inr (3, [.ref (h_states_a 3)])), ((h_states_a 3), .inl (cI, 352, .inl (gs_h_states 3))), ((h_states_r 4), .inr (3, [.ref (h_states_a 4)])), ((h_states_a 4), .inl (cI, 352, .inl (gs_h_states 4))), (a0, .inr (3, [.ref a0_numbers])), (a0_numbers, .inl (cI, 352, .inl v8))]) dX0_bringBack_29 pkX3_copyFrom gX0_bringBack_X3_copyFrom (kkX3_copyFrom l D cI cR a0 a0_numbers (h_states_r 2) (h_states_a 2) f_a0_numbers (gs_h_states 2) v8 h9) ⟨rfl, rfl⟩ ⟨Nat.le_of_ble_eq_true rfl, Nat.le_of_ble_eq_true rfl⟩ rfl rfl (Nat.le_of_ble_eq_true rfl) 0 rfl rfl [12, 13, 6, 7] [0, 1, 2, 3, 4, 5, 8, 9, 10, 11] rfl rfl ⟨rfl, rfl, by decide⟩ ⟨Nat.zero_le _, Nat.zero_le _⟩ [0, 1, 2, 3, 4, 5, 12, 13, 6, 7, 8, 9, 10, 11] rfl rfl ?_
      refine G_aload_n X dX0_bringBack_32 0 rfl ?_
      refine G_get X (i0 := 0) (ci := 0) (j := 2) (C := RX0) (ref := RX0) (T := TX0) (N := 3) dX0_bringBack_33 rfl rfl hiX0_bringBack_X0 (by decide) flX0_bringBack_22 rfl rfl ?_
      cases h10
      exact rt _ _ _ _ dX0_bringBack_36 ⟨rfl, rfl⟩
    · obtain ⟨v8, h9, h10⟩ := bnd h6
      refine G1_callv X (As := [.ref (h_states_r 3)]) (rest := []) (wr := [(h, .inr (0, [.ref h_states, .int i_h_oldest, .int (i_h_many - 1)])), (h_states, .inl (cR, 5, .inr (.inr (.inr (.inr (fun j => some (h_states_r j))))))), ((h_states_r 0), .inr (3, [.ref (h_states_a 0)])), ((h_states_a 0), .inl (cI, 352, .inl (gs_h_states 0))), ((h_states_r 1), .inr (3, [.ref (h_states_a 1)])), ((h_states_a 1), .inl (cI, 352, .inl (gs_h_states 1))), ((h_states_r 2), .inr (3, [.ref (h_states_a 2)])), ((h_states_a 2), .inl (cI, 352, .inl (gs_h_states 2))), ((h_states_r 4), .inr (3, [.ref (h_states_a 4)])), ((h_states_a 4), .inl (cI, 352, .inl (gs_h_states 4)))]) (ws' := [(h, .inr (0, [.ref h_states, .int i_h_oldest, .int (i_h_many - 1)])), (h_states, .inl (cR, 5, .inr (.inr (.inr (.inr (fun j => some (h_states_r j))))))), ((h_states_r 0), .inr (3, [.ref (h_states_a 0)])), ((h_states_a 0), .inl (cI, 352, .inl (gs_h_states 0))), ((h_states_r 1), .inr (3, [.ref (h_states_a 1)])), ((h_states_a 1), .inl (cI, 352, .inl (gs_h_states 1))), ((h_states_r 2), .inr (3, [.ref (h_states_a 2)])), ((h_states_a 2), .inl (cI, 352, .inl (gs_h_states 2))), ((h_states_r 3), .inr (3, [.ref (h_states_a 3)])), ((h_states_a 3), .inl (cI, 352, .inl (gs_h_states 3))), ((h_states_r 4), .inr (3, [.ref (h_states_a 4)])), ((h_states_a 4), .inl (cI, 352, .inl (gs_h_states 4))), (a0, .inr (3, [.ref a0_numbers])), (a0_numbers, .inl (cI, 352, .inl v8))]) dX0_bringBack_29 pkX3_copyFrom gX0_bringBack_X3_copyFrom (kkX3_copyFrom l D cI cR a0 a0_numbers (h_states_r 3) (h_states_a 3) f_a0_numbers (gs_h_states 3) v8 h9) ⟨rfl, rfl⟩ ⟨Nat.le_of_ble_eq_true rfl, Nat.le_of_ble_eq_true rfl⟩ rfl rfl (Nat.le_of_ble_eq_true rfl) 0 rfl rfl [12, 13, 8, 9] [0, 1, 2, 3, 4, 5, 6, 7, 10, 11] rfl rfl ⟨rfl, rfl, by decide⟩ ⟨Nat.zero_le _, Nat.zero_le _⟩ [0, 1, 2, 3, 4, 5, 6, 7, 12, 13, 8, 9, 10, 11] rfl rfl ?_
      refine G_aload_n X dX0_bringBack_32 0 rfl ?_
      refine G_get X (i0 := 0) (ci := 0) (j := 2) (C := RX0) (ref := RX0) (T := TX0) (N := 3) dX0_bringBack_33 rfl rfl hiX0_bringBack_X0 (by decide) flX0_bringBack_22 rfl rfl ?_
      cases h10
      exact rt _ _ _ _ dX0_bringBack_36 ⟨rfl, rfl⟩
    · obtain ⟨v8, h9, h10⟩ := bnd h6
      refine G1_callv X (As := [.ref (h_states_r 4)]) (rest := []) (wr := [(h, .inr (0, [.ref h_states, .int i_h_oldest, .int (i_h_many - 1)])), (h_states, .inl (cR, 5, .inr (.inr (.inr (.inr (fun j => some (h_states_r j))))))), ((h_states_r 0), .inr (3, [.ref (h_states_a 0)])), ((h_states_a 0), .inl (cI, 352, .inl (gs_h_states 0))), ((h_states_r 1), .inr (3, [.ref (h_states_a 1)])), ((h_states_a 1), .inl (cI, 352, .inl (gs_h_states 1))), ((h_states_r 2), .inr (3, [.ref (h_states_a 2)])), ((h_states_a 2), .inl (cI, 352, .inl (gs_h_states 2))), ((h_states_r 3), .inr (3, [.ref (h_states_a 3)])), ((h_states_a 3), .inl (cI, 352, .inl (gs_h_states 3)))]) (ws' := [(h, .inr (0, [.ref h_states, .int i_h_oldest, .int (i_h_many - 1)])), (h_states, .inl (cR, 5, .inr (.inr (.inr (.inr (fun j => some (h_states_r j))))))), ((h_states_r 0), .inr (3, [.ref (h_states_a 0)])), ((h_states_a 0), .inl (cI, 352, .inl (gs_h_states 0))), ((h_states_r 1), .inr (3, [.ref (h_states_a 1)])), ((h_states_a 1), .inl (cI, 352, .inl (gs_h_states 1))), ((h_states_r 2), .inr (3, [.ref (h_states_a 2)])), ((h_states_a 2), .inl (cI, 352, .inl (gs_h_states 2))), ((h_states_r 3), .inr (3, [.ref (h_states_a 3)])), ((h_states_a 3), .inl (cI, 352, .inl (gs_h_states 3))), ((h_states_r 4), .inr (3, [.ref (h_states_a 4)])), ((h_states_a 4), .inl (cI, 352, .inl (gs_h_states 4))), (a0, .inr (3, [.ref a0_numbers])), (a0_numbers, .inl (cI, 352, .inl v8))]) dX0_bringBack_29 pkX3_copyFrom gX0_bringBack_X3_copyFrom (kkX3_copyFrom l D cI cR a0 a0_numbers (h_states_r 4) (h_states_a 4) f_a0_numbers (gs_h_states 4) v8 h9) ⟨rfl, rfl⟩ ⟨Nat.le_of_ble_eq_true rfl, Nat.le_of_ble_eq_true rfl⟩ rfl rfl (Nat.le_of_ble_eq_true rfl) 0 rfl rfl [12, 13, 10, 11] [0, 1, 2, 3, 4, 5, 6, 7, 8, 9] rfl rfl ⟨rfl, rfl, by decide⟩ ⟨Nat.zero_le _, Nat.zero_le _⟩ [0, 1, 2, 3, 4, 5, 6, 7, 8, 9, 12, 13, 10, 11] rfl rfl ?_
      refine G_aload_n X dX0_bringBack_32 0 rfl ?_
      refine G_get X (i0 := 0) (ci := 0) (j := 2) (C := RX0) (ref := RX0) (T := TX0) (N := 3) dX0_bringBack_33 rfl rfl hiX0_bringBack_X0 (by decide) flX0_bringBack_22 rfl rfl ?_
      cases h10
      exact rt _ _ _ _ dX0_bringBack_36 ⟨rfl, rfl⟩
def rmX1_lostRows : Room := { frames := 2, cells := 0, slots := 0, locals := 42 }
theorem pkX1_lostRows : cK yX1_lostRows wsX1_lostRows cX1_lostRows 3 (some .int) 1 RX1 := ⟨⟨_, rfl⟩, by decide +kernel⟩
set_option maxHeartbeats 4000000 in
set_option maxRecDepth 100000 in
theorem kkX1_lostRows (l : Launch) (D : va_G) (cI cR : ClassId) (a0 a0_numbers : Nat) (f_a0_numbers : Nat → Int32) (z : Int32) (hz : MX1_lostRows f_a0_numbers = some z) : cI1 l yX1_lostRows wsX1_lostRows rmX1_lostRows D cI cR [.ref a0] [(a0, .inr (3, [.ref a0_numbers])), (a0_numbers, .inl (cI, 352, .inl f_a0_numbers))] z [(a0, .inr (3, [.ref a0_numbers])), (a0_numbers, .inl (cI, 352, .inl f_a0_numbers))] := by
  unfold MX1_lostRows at hz
  refine kI_of (cc := cX1_lostRows) (maxL := 3) (own := RX1) (by decide +kernel) rfl rfl (Nat.le_of_ble_eq_true rfl) (lv0 := [(0, .ref a0)]) rfl (fun p e s m args below meth c A Q X rt => ?_)
  refine G_iconst X (v := 0) dX1_lostRows_0 (by decide) ?_
  refine G_istore_n X (lv' := [(1, .int 0), (0, .ref a0)]) dX1_lostRows_1 (by decide) rfl ?_
  refine G_iconst X (v := 0) dX1_lostRows_2 (by decide) ?_
  refine G_istore_n X (lv' := [(2, .int 0), (1, .int 0), (0, .ref a0)]) dX1_lostRows_3 (by decide) rfl ?_
  obtain ⟨j2, h3, h4⟩ := bnd hz
  have J9 : G p l e rmX1_lostRows s m args below meth c D A 3 Q 0 0 35 [(1, .int j2)] [] [(a0, .inr (3, [.ref a0_numbers])), (a0_numbers, .inl (cI, 352, .inl f_a0_numbers))] := by
    refine G_iload_n X dX1_lostRows_35 0 rfl ?_
    cases h4
    exact rt _ _ _ _ dX1_lostRows_36 ⟨rfl, rfl⟩
  refine G_lv [2, 1, 0] rfl ?_
  refine itr_ind (P := fun s1 : (Int32 × Int32) => G p l e rmX1_lostRows s m args below meth c D A 3 Q 0 0 4 [(0, .ref a0), (1, .int s1.1), (2, .int s1.2)] [] [(a0, .inr (3, [.ref a0_numbers])), (a0_numbers, .inl (cI, 352, .inl f_a0_numbers))]) (fun s1 o8 h5 h6 h7 => ?_) FU _ h3
  unfold SX1_lostRows_4 at h5
  refine G_iload_n X dX1_lostRows_4 2 rfl ?_
  refine G_aload_n X dX1_lostRows_5 0 rfl ?_
  refine G_iconst X (v := 1) dX1_lostRows_6 (by decide) ?_
  obtain ⟨v11, h12, h13⟩ := bnd h5
  refine G1_calli X (As := [.int 1]) (rest := [.int s1.2]) (wr := []) (ws' := [(a0, .inr (3, [.ref a0_numbers])), (a0_numbers, .inl (cI, 352, .inl f_a0_numbers))]) dX1_lostRows_7 pkX3_get gX1_lostRows_X3_get (kkX3_get l D cI cR a0 a0_numbers f_a0_numbers 1 v11 h12) ⟨rfl, rfl⟩ ⟨Nat.le_of_ble_eq_true rfl, Nat.le_of_ble_eq_true rfl⟩ rfl rfl (Nat.le_of_ble_eq_true rfl) 0 rfl rfl [0, 1] [] rfl rfl ⟨rfl, rfl, by decide⟩ ⟨Nat.zero_le _, Nat.zero_le _⟩ [0, 1] rfl rfl ?_
  refine G_icmp_ge X (tgt := 35) dX1_lostRows_10 (by decide) (fun h14 => ?_) (fun h14 => ?_)
  · have h15 := ifp h14 h13
    cases h15
    have h16 := h7 _ rfl
    subst h16
    exact G_lv [1] rfl (J9)
  · have h17 := ifn h14 h13
    refine G_iload_n X dX1_lostRows_13 1 rfl ?_
    refine G_aload_n X dX1_lostRows_14 0 rfl ?_
    refine G_iload_n X dX1_lostRows_15 2 rfl ?_
    obtain ⟨v18, h19, h20⟩ := bnd h17
    refine G1_calli X (As := [.int s1.2]) (rest := [.int s1.1]) (wr := []) (ws' := [(a0, .inr (3, [.ref a0_numbers])), (a0_numbers, .inl (cI, 352, .inl f_a0_numbers))]) dX1_lostRows_16 pkX3_lives gX1_lostRows_X3_lives (kkX3_lives l D cI cR a0 a0_numbers f_a0_numbers s1.2 v18 h19) ⟨rfl, rfl⟩ ⟨Nat.le_of_ble_eq_true rfl, Nat.le_of_ble_eq_true rfl⟩ rfl rfl (Nat.le_of_ble_eq_true rfl) 0 rfl rfl [0, 1] [] rfl rfl ⟨rfl, rfl, by decide⟩ ⟨Nat.zero_le _, Nat.zero_le _⟩ [0, 1] rfl rfl ?_
    refine G_if_eq X (tgt := 26) dX1_lostRows_19 (by decide) (fun h21 => ?_) (fun h21 => ?_)
    · have h22 := ifp h21 h20
      refine G_iconst X (v := 1) dX1_lostRows_26 (by decide) ?_
      refine G_iadd X dX1_lostRows_27 ?_
      refine G_istore_n X (lv' := [(1, .int (s1.1 + 1)), (0, .ref a0), (2, .int s1.2)]) dX1_lostRows_28 (by decide) rfl ?_
      refine G_iinc X (v := (s1.2 + 1)) (lv' := [(2, .int (s1.2 + 1)), (1, .int (s1.1 + 1)), (0, .ref a0)]) dX1_lostRows_29 2 rfl rfl (by decide) rfl ?_
      refine G_goto X (tgt := 4) dX1_lostRows_32 (by decide) ?_
      cases h22
      exact G_lv [2, 1, 0] rfl (h6 _ rfl)
    · have h23 := ifn h21 h20
      refine G_iconst X (v := 0) dX1_lostRows_22 (by decide) ?_
      refine G_goto X (tgt := 27) dX1_lostRows_23 (by decide) ?_
      refine G_iadd X dX1_lostRows_27 ?_
      refine G_istore_n X (lv' := [(1, .int (s1.1 + 0)), (0, .ref a0), (2, .int s1.2)]) dX1_lostRows_28 (by decide) rfl ?_
      refine G_iinc X (v := (s1.2 + 1)) (lv' := [(2, .int (s1.2 + 1)), (1, .int (s1.1 + 0)), (0, .ref a0)]) dX1_lostRows_29 2 rfl rfl (by decide) rfl ?_
      refine G_goto X (tgt := 4) dX1_lostRows_32 (by decide) ?_
      cases h23
      exact G_lv [2, 1, 0] rfl (h6 _ rfl)
def rmX1_keepIfBetter : Room := { frames := 1, cells := 0, slots := 0, locals := 90 }
theorem pkX1_keepIfBetter : cK yX1_keepIfBetter wsX1_keepIfBetter cX1_keepIfBetter 2 none 1 RX1 := ⟨⟨_, rfl⟩, by decide +kernel⟩
theorem hiX1_keepIfBetter_X1 : ∀ w ∈ wsX10, w ∈ wsX1_keepIfBetter := by decide +kernel
theorem flX1_keepIfBetter_25 : Cond.fieldLink RX1 25 "EchoMargins$Mending" "sum" "I" ∈ wsX1_keepIfBetter := by decide +kernel
theorem flX1_keepIfBetter_18 : Cond.fieldLink RX1 18 "EchoMargins$Mending" "tried" "[I" ∈ wsX1_keepIfBetter := by decide +kernel
theorem flX1_keepIfBetter_22 : Cond.fieldLink RX1 22 "EchoMargins$Mending" "best" "[I" ∈ wsX1_keepIfBetter := by decide +kernel
theorem flX1_keepIfBetter_acm : Cond.methodLink RX1 61 arraycopyName ∈ wsX1_keepIfBetter := by decide +kernel
theorem flX1_keepIfBetter_acn : Cond.native arraycopyName ∈ wsX1_keepIfBetter := by decide +kernel
theorem flX1_keepIfBetter_acs : Cond.static arraycopyName ∈ wsX1_keepIfBetter := by decide +kernel
theorem flX1_keepIfBetter_ini : Cond.initialized "java/lang/System" ∈ wsX1_keepIfBetter := by decide +kernel
set_option maxHeartbeats 4000000 in
set_option maxRecDepth 100000 in
theorem kkX1_keepIfBetter (l : Launch) (D : va_G) (cI cR : ClassId) (h h_steps h_tried h_best : Nat) (i_h_sum : Int32) (f_h_tried : Nat → Int32) (f_h_best : Nat → Int32) (x0 : Int32) (z : (Int32 × (Nat → Int32))) (hz : MX1_keepIfBetter i_h_sum f_h_tried f_h_best x0 = some z) : cV1 l yX1_keepIfBetter wsX1_keepIfBetter rmX1_keepIfBetter D cI cR [.ref h, .int x0] [(h, .inr (1, [.ref h_steps, .ref h_tried, .ref h_best, .int i_h_sum])), (h_tried, .inl (cI, 4, .inl f_h_tried)), (h_best, .inl (cI, 4, .inl f_h_best))] [(h, .inr (1, [.ref h_steps, .ref h_tried, .ref h_best, .int z.1])), (h_tried, .inl (cI, 4, .inl f_h_tried)), (h_best, .inl (cI, 4, .inl z.2))] := by
  unfold MX1_keepIfBetter at hz
  refine kV_of (cc := cX1_keepIfBetter) (maxL := 2) (own := RX1) (by decide +kernel) rfl rfl (Nat.le_of_ble_eq_true rfl) (lv0 := [(0, .ref h), (1, .int x0)]) rfl (fun p e s m args below meth c A Q X rt => ?_)
  refine G_iload_n X dX1_keepIfBetter_0 1 rfl ?_
  refine G_aload_n X dX1_keepIfBetter_1 0 rfl ?_
  refine G_get X (i0 := 0) (ci := 1) (j := 3) (C := RX1) (ref := RX1) (T := TX1) (N := 4) dX1_keepIfBetter_2 rfl rfl hiX1_keepIfBetter_X1 (by decide) flX1_keepIfBetter_25 rfl rfl ?_
  refine G_icmp_le X (tgt := 27) dX1_keepIfBetter_5 (by decide) (fun h1 => ?_) (fun h1 => ?_)
  · have h2 := ifp h1 hz
    cases h2
    exact rt _ _ _ dX1_keepIfBetter_27 rfl
  · have h3 := ifn h1 hz
    refine G_aload_n X dX1_keepIfBetter_8 0 rfl ?_
    refine G_iload_n X dX1_keepIfBetter_9 1 rfl ?_
    refine G_put X (i0 := 0) (ci := 1) (j := 3) (C := RX1) (ref := RX1) (T := TX1) (N := 4) (ty := .int) (ws' := [(h, .inr (1, [.ref h_steps, .ref h_tried, .ref h_best, .int x0])), (h_tried, .inl (cI, 4, .inl f_h_tried)), (h_best, .inl (cI, 4, .inl f_h_best))]) tyX1 dX1_keepIfBetter_10 rfl rfl hiX1_keepIfBetter_X1 tyX1_ok nmX1 (by decide) flX1_keepIfBetter_25 rfl rfl rfl rfl rfl (Nat.le_of_ble_eq_true rfl) rfl ?_
    refine G_aload_n X dX1_keepIfBetter_13 0 rfl ?_
    refine G_get X (i0 := 0) (ci := 1) (j := 1) (C := RX1) (ref := RX1) (T := TX1) (N := 4) dX1_keepIfBetter_14 rfl rfl hiX1_keepIfBetter_X1 (by decide) flX1_keepIfBetter_18 rfl rfl ?_
    refine G_iconst X (v := 0) dX1_keepIfBetter_17 (by decide) ?_
    refine G_aload_n X dX1_keepIfBetter_18 0 rfl ?_
    refine G_get X (i0 := 0) (ci := 1) (j := 2) (C := RX1) (ref := RX1) (T := TX1) (N := 4) dX1_keepIfBetter_19 rfl rfl hiX1_keepIfBetter_X1 (by decide) flX1_keepIfBetter_22 rfl rfl ?_
    refine G_iconst X (v := 0) dX1_keepIfBetter_22 (by decide) ?_
    refine G_iconst X (v := 4) dX1_keepIfBetter_23 (by decide) ?_
    obtain ⟨g4, h5, h6⟩ := bnd h3
    refine G_copy X (i0 := 1) (i1 := 2) (ws' := [(h, .inr (1, [.ref h_steps, .ref h_tried, .ref h_best, .int x0])), (h_tried, .inl (cI, 4, .inl f_h_tried)), (h_best, .inl (cI, 4, .inl g4))]) dX1_keepIfBetter_24 flX1_keepIfBetter_acm flX1_keepIfBetter_acn flX1_keepIfBetter_acs flX1_keepIfBetter_ini rfl rfl h5 rfl (Nat.le_of_ble_eq_true rfl) (Nat.le_of_ble_eq_true rfl) ?_
    cases h6
    exact rt _ _ _ dX1_keepIfBetter_27 rfl
def rmX1_stillComing : Room := { frames := 4, cells := 0, slots := 0, locals := 96 }
theorem pkX1_stillComing : cK yX1_stillComing wsX1_stillComing cX1_stillComing 3 (some .int) 1 RX1 := ⟨⟨_, rfl⟩, by decide +kernel⟩
set_option maxHeartbeats 4000000 in
set_option maxRecDepth 100000 in
theorem kkX1_stillComing (l : Launch) (D : va_G) (cI cR : ClassId) (a0 a0_numbers : Nat) (f_a0_numbers : Nat → Int32) (z : Int32) (hz : MX1_stillComing f_a0_numbers = some z) : cI1 l yX1_stillComing wsX1_stillComing rmX1_stillComing D cI cR [.ref a0] [(a0, .inr (3, [.ref a0_numbers])), (a0_numbers, .inl (cI, 352, .inl f_a0_numbers))] z [(a0, .inr (3, [.ref a0_numbers])), (a0_numbers, .inl (cI, 352, .inl f_a0_numbers))] := by
  unfold MX1_stillComing at hz
  refine kI_of (cc := cX1_stillComing) (maxL := 3) (own := RX1) (by decide +kernel) rfl rfl (Nat.le_of_ble_eq_true rfl) (lv0 := [(0, .ref a0)]) rfl (fun p e s m args below meth c A Q X rt => ?_)
  refine G_iconst X (v := 0) dX1_stillComing_0 (by decide) ?_
  refine G_istore_n X (lv' := [(1, .int 0), (0, .ref a0)]) dX1_stillComing_1 (by decide) rfl ?_
  refine G_iconst X (v := 0) dX1_stillComing_2 (by decide) ?_
  refine G_istore_n X (lv' := [(2, .int 0), (1, .int 0), (0, .ref a0)]) dX1_stillComing_3 (by decide) rfl ?_
  obtain ⟨j2, h3, h4⟩ := bnd hz
  have J9 : G p l e rmX1_stillComing s m args below meth c D A 3 Q 0 0 39 [(1, .int j2)] [] [(a0, .inr (3, [.ref a0_numbers])), (a0_numbers, .inl (cI, 352, .inl f_a0_numbers))] := by
    refine G_iload_n X dX1_stillComing_39 0 rfl ?_
    cases h4
    exact rt _ _ _ _ dX1_stillComing_40 ⟨rfl, rfl⟩
  refine G_lv [2, 1, 0] rfl ?_
  refine itr_ind (P := fun s1 : (Int32 × Int32) => G p l e rmX1_stillComing s m args below meth c D A 3 Q 0 0 4 [(0, .ref a0), (1, .int s1.1), (2, .int s1.2)] [] [(a0, .inr (3, [.ref a0_numbers])), (a0_numbers, .inl (cI, 352, .inl f_a0_numbers))]) (fun s1 o8 h5 h6 h7 => ?_) FU _ h3
  unfold SX1_stillComing_4 at h5
  refine G_iload_n X dX1_stillComing_4 2 rfl ?_
  refine G_aload_n X dX1_stillComing_5 0 rfl ?_
  refine G_iconst X (v := 1) dX1_stillComing_6 (by decide) ?_
  obtain ⟨v11, h12, h13⟩ := bnd h5
  refine G1_calli X (As := [.int 1]) (rest := [.int s1.2]) (wr := []) (ws' := [(a0, .inr (3, [.ref a0_numbers])), (a0_numbers, .inl (cI, 352, .inl f_a0_numbers))]) dX1_stillComing_7 pkX3_get gX1_stillComing_X3_get (kkX3_get l D cI cR a0 a0_numbers f_a0_numbers 1 v11 h12) ⟨rfl, rfl⟩ ⟨Nat.le_of_ble_eq_true rfl, Nat.le_of_ble_eq_true rfl⟩ rfl rfl (Nat.le_of_ble_eq_true rfl) 0 rfl rfl [0, 1] [] rfl rfl ⟨rfl, rfl, by decide⟩ ⟨Nat.zero_le _, Nat.zero_le _⟩ [0, 1] rfl rfl ?_
  refine G_icmp_ge X (tgt := 39) dX1_stillComing_10 (by decide) (fun h14 => ?_) (fun h14 => ?_)
  · have h15 := ifp h14 h13
    cases h15
    have h16 := h7 _ rfl
    subst h16
    exact G_lv [1] rfl (J9)
  · have h17 := ifn h14 h13
    refine G_iload_n X dX1_stillComing_13 1 rfl ?_
    refine G_aload_n X dX1_stillComing_14 0 rfl ?_
    refine G_iload_n X dX1_stillComing_15 2 rfl ?_
    obtain ⟨v18, h19, h20⟩ := bnd h17
    refine G1_calli X (As := [.int s1.2]) (rest := [.int s1.1]) (wr := []) (ws' := [(a0, .inr (3, [.ref a0_numbers])), (a0_numbers, .inl (cI, 352, .inl f_a0_numbers))]) dX1_stillComing_16 pkX3_lives gX1_stillComing_X3_lives (kkX3_lives l D cI cR a0 a0_numbers f_a0_numbers s1.2 v18 h19) ⟨rfl, rfl⟩ ⟨Nat.le_of_ble_eq_true rfl, Nat.le_of_ble_eq_true rfl⟩ rfl rfl (Nat.le_of_ble_eq_true rfl) 0 rfl rfl [0, 1] [] rfl rfl ⟨rfl, rfl, by decide⟩ ⟨Nat.zero_le _, Nat.zero_le _⟩ [0, 1] rfl rfl ?_
    refine G_if_eq X (tgt := 26) dX1_stillComing_19 (by decide) (fun h21 => ?_) (fun h21 => ?_)
    · have h22 := ifp h21 h20
      refine G_aload_n X dX1_stillComing_26 0 rfl ?_
      refine G_iload_n X dX1_stillComing_27 2 rfl ?_
      obtain ⟨v23, h24, h25⟩ := bnd h22
      refine G1_calli X (As := [.int s1.2]) (rest := [.int s1.1]) (wr := []) (ws' := [(a0, .inr (3, [.ref a0_numbers])), (a0_numbers, .inl (cI, 352, .inl f_a0_numbers))]) dX1_stillComing_28 pkX3_comingBack gX1_stillComing_X3_comingBack (kkX3_comingBack l D cI cR a0 a0_numbers f_a0_numbers s1.2 v23 h24) ⟨rfl, rfl⟩ ⟨Nat.le_of_ble_eq_true rfl, Nat.le_of_ble_eq_true rfl⟩ rfl rfl (Nat.le_of_ble_eq_true rfl) 0 rfl rfl [0, 1] [] rfl rfl ⟨rfl, rfl, by decide⟩ ⟨Nat.zero_le _, Nat.zero_le _⟩ [0, 1] rfl rfl ?_
      refine G_iadd X dX1_stillComing_31 ?_
      refine G_istore_n X (lv' := [(1, .int (s1.1 + v23)), (0, .ref a0), (2, .int s1.2)]) dX1_stillComing_32 (by decide) rfl ?_
      refine G_iinc X (v := (s1.2 + 1)) (lv' := [(2, .int (s1.2 + 1)), (1, .int (s1.1 + v23)), (0, .ref a0)]) dX1_stillComing_33 2 rfl rfl (by decide) rfl ?_
      refine G_goto X (tgt := 4) dX1_stillComing_36 (by decide) ?_
      cases h25
      exact G_lv [2, 1, 0] rfl (h6 _ rfl)
    · have h26 := ifn h21 h20
      refine G_iconst X (v := 0) dX1_stillComing_22 (by decide) ?_
      refine G_goto X (tgt := 31) dX1_stillComing_23 (by decide) ?_
      refine G_iadd X dX1_stillComing_31 ?_
      refine G_istore_n X (lv' := [(1, .int (s1.1 + 0)), (0, .ref a0), (2, .int s1.2)]) dX1_stillComing_32 (by decide) rfl ?_
      refine G_iinc X (v := (s1.2 + 1)) (lv' := [(2, .int (s1.2 + 1)), (1, .int (s1.1 + 0)), (0, .ref a0)]) dX1_stillComing_33 2 rfl rfl (by decide) rfl ?_
      refine G_goto X (tgt := 4) dX1_stillComing_36 (by decide) ?_
      cases h26
      exact G_lv [2, 1, 0] rfl (h6 _ rfl)
def rmX1_tryOrders_4 : Room := { frames := 3, cells := 0, slots := 0, locals := 111 }
theorem pkX1_tryOrders_4 : cK yX1_tryOrders wsX1_tryOrders cX1_tryOrders 7 none 3 RX1 := ⟨⟨_, rfl⟩, by decide +kernel⟩
set_option maxHeartbeats 4000000 in
set_option maxRecDepth 100000 in
theorem kkX1_tryOrders_4 (l : Launch) (D : va_G) (cI cR : ClassId) (h h_steps h_tried h_best a0 a0_numbers : Nat) (i_h_sum : Int32) (f_h_tried : Nat → Int32) (f_h_best : Nat → Int32) (f_a0_numbers : Nat → Int32) (x2 : Int32) (z : (Int32 × (Nat → Int32))) (hz : MX1_tryOrders_4 i_h_sum f_h_tried f_h_best f_a0_numbers x2 = some z) : cV1 l yX1_tryOrders wsX1_tryOrders rmX1_tryOrders_4 D cI cR [.ref h, .ref a0, .int 4, .int x2] [(h, .inr (1, [.ref h_steps, .ref h_tried, .ref h_best, .int i_h_sum])), (h_tried, .inl (cI, 4, .inl f_h_tried)), (h_best, .inl (cI, 4, .inl f_h_best)), (a0, .inr (3, [.ref a0_numbers])), (a0_numbers, .inl (cI, 352, .inl f_a0_numbers))] [(h, .inr (1, [.ref h_steps, .ref h_tried, .ref h_best, .int z.1])), (h_tried, .inl (cI, 4, .inl f_h_tried)), (h_best, .inl (cI, 4, .inl z.2)), (a0, .inr (3, [.ref a0_numbers])), (a0_numbers, .inl (cI, 352, .inl f_a0_numbers))] := by
  unfold MX1_tryOrders_4 at hz
  refine kV_of (cc := cX1_tryOrders) (maxL := 7) (own := RX1) (by decide +kernel) rfl rfl (Nat.le_of_ble_eq_true rfl) (lv0 := [(0, .ref h), (1, .ref a0), (2, .int 4), (3, .int x2)]) rfl (fun p e s m args below meth c A Q X rt => ?_)
  refine G_aload_n X dX1_tryOrders_0 1 rfl ?_
  obtain ⟨v1, h2, h3⟩ := bnd hz
  refine G1_callsi X (As := [.ref a0]) (rest := []) (wr := [(h, .inr (1, [.ref h_steps, .ref h_tried, .ref h_best, .int i_h_sum])), (h_tried, .inl (cI, 4, .inl f_h_tried)), (h_best, .inl (cI, 4, .inl f_h_best))]) (ws' := [(h, .inr (1, [.ref h_steps, .ref h_tried, .ref h_best, .int i_h_sum])), (h_tried, .inl (cI, 4, .inl f_h_tried)), (h_best, .inl (cI, 4, .inl f_h_best)), (a0, .inr (3, [.ref a0_numbers])), (a0_numbers, .inl (cI, 352, .inl f_a0_numbers))]) dX1_tryOrders_1 pkX1_lostRows gX1_tryOrders_X1_lostRows (kkX1_lostRows l D cI cR a0 a0_numbers f_a0_numbers v1 h2) ⟨rfl, rfl⟩ ⟨Nat.le_of_ble_eq_true rfl, Nat.le_of_ble_eq_true rfl⟩ rfl rfl (Nat.le_of_ble_eq_true rfl) [3, 4] [0, 1, 2] rfl rfl ⟨rfl, rfl, by decide⟩ ⟨Nat.zero_le _, Nat.zero_le _⟩ [0, 1, 2, 3, 4] rfl rfl ?_
  refine G_if_ne X (tgt := 13) dX1_tryOrders_4 (by decide) (fun h4 => ?_) (fun h4 => ?_)
  · have h5 := ifp h4 h3
    refine G_aload_n X dX1_tryOrders_7 0 rfl ?_
    refine G_iload_n X dX1_tryOrders_8 3 rfl ?_
    obtain ⟨v6, h7, h8⟩ := bnd h5
    refine G1_callv X (As := [.int x2]) (rest := []) (wr := [(a0, .inr (3, [.ref a0_numbers])), (a0_numbers, .inl (cI, 352, .inl f_a0_numbers))]) (ws' := [(h, .inr (1, [.ref h_steps, .ref h_tried, .ref h_best, .int v6.1])), (h_tried, .inl (cI, 4, .inl f_h_tried)), (h_best, .inl (cI, 4, .inl v6.2)), (a0, .inr (3, [.ref a0_numbers])), (a0_numbers, .inl (cI, 352, .inl f_a0_numbers))]) dX1_tryOrders_9 pkX1_keepIfBetter gX1_tryOrders_X1_keepIfBetter (kkX1_keepIfBetter l D cI cR h h_steps h_tried h_best i_h_sum f_h_tried f_h_best x2 v6 h7) ⟨rfl, rfl⟩ ⟨Nat.le_of_ble_eq_true rfl, Nat.le_of_ble_eq_true rfl⟩ rfl rfl (Nat.le_of_ble_eq_true rfl) 0 rfl rfl [0, 1, 2] [3, 4] rfl rfl ⟨rfl, rfl, by decide⟩ ⟨Nat.zero_le _, Nat.zero_le _⟩ [2, 3, 4, 0, 1] rfl rfl ?_
    cases h8
    exact rt _ _ _ dX1_tryOrders_12 rfl
  · have h9 := ifn h4 h3
    refine G_iload_n X dX1_tryOrders_13 2 rfl ?_
    refine G_if_lt X (tgt := 31) dX1_tryOrders_14 (by decide) (fun q => absurd q (by decide)) (fun _ => ?_)
    refine G_iload_n X dX1_tryOrders_17 2 rfl ?_
    refine G_iconst X (v := 4) dX1_tryOrders_18 (by decide) ?_
    refine G_icmp_ge X (tgt := 31) dX1_tryOrders_19 (by decide) (fun _ => ?_) (fun q => absurd (by decide) q)
    cases h9
    exact rt _ _ _ dX1_tryOrders_31 rfl
def rmX1_tryOrders_3 : Room := { frames := 5, cells := 0, slots := 0, locals := 190 }
theorem pkX1_tryOrders_3 : cK yX1_tryOrders wsX1_tryOrders cX1_tryOrders 7 none 3 RX1 := ⟨⟨_, rfl⟩, by decide +kernel⟩
theorem hiX1_tryOrders_3_X1 : ∀ w ∈ wsX10, w ∈ wsX1_tryOrders := by decide +kernel
theorem flX1_tryOrders_3_13 : Cond.fieldLink RX1 13 "EchoMargins$Mending" "steps" "[LEchoMargins$Ring;" ∈ wsX1_tryOrders := by decide +kernel
theorem flX1_tryOrders_3_25 : Cond.fieldLink RX1 25 "EchoMargins$Mending" "sum" "I" ∈ wsX1_tryOrders := by decide +kernel
theorem flX1_tryOrders_3_18 : Cond.fieldLink RX1 18 "EchoMargins$Mending" "tried" "[I" ∈ wsX1_tryOrders := by decide +kernel
set_option maxHeartbeats 4000000 in
set_option maxRecDepth 100000 in
theorem kkX1_tryOrders_3 (l : Launch) (D : va_G) (cI cR : ClassId) (h h_steps h_tried h_best a0 a0_numbers : Nat) (h_steps_r h_steps_a : Nat → Nat) (i_h_sum : Int32) (f_h_steps_3 : Nat → Int32) (f_h_tried : Nat → Int32) (f_h_best : Nat → Int32) (f_a0_numbers : Nat → Int32) (x2 : Int32) (z : (Int32 × (Nat → Int32) × (Nat → Int32) × (Nat → Int32))) (hz : MX1_tryOrders_3 i_h_sum f_h_steps_3 f_h_tried f_h_best f_a0_numbers x2 = some z) : cV1 l yX1_tryOrders wsX1_tryOrders rmX1_tryOrders_3 D cI cR [.ref h, .ref a0, .int 3, .int x2] [(h, .inr (1, [.ref h_steps, .ref h_tried, .ref h_best, .int i_h_sum])), (h_steps, .inl (cR, 4, .inr (.inr (.inr (.inr (fun j => some (h_steps_r j))))))), ((h_steps_r 3), .inr (3, [.ref (h_steps_a 3)])), ((h_steps_a 3), .inl (cI, 352, .inl f_h_steps_3)), (h_tried, .inl (cI, 4, .inl f_h_tried)), (h_best, .inl (cI, 4, .inl f_h_best)), (a0, .inr (3, [.ref a0_numbers])), (a0_numbers, .inl (cI, 352, .inl f_a0_numbers))] [(h, .inr (1, [.ref h_steps, .ref h_tried, .ref h_best, .int z.1])), (h_steps, .inl (cR, 4, .inr (.inr (.inr (.inr (fun j => some (h_steps_r j))))))), ((h_steps_r 3), .inr (3, [.ref (h_steps_a 3)])), ((h_steps_a 3), .inl (cI, 352, .inl z.2.1)), (h_tried, .inl (cI, 4, .inl z.2.2.1)), (h_best, .inl (cI, 4, .inl z.2.2.2)), (a0, .inr (3, [.ref a0_numbers])), (a0_numbers, .inl (cI, 352, .inl f_a0_numbers))] := by
  unfold MX1_tryOrders_3 at hz
  refine kV_of (cc := cX1_tryOrders) (maxL := 7) (own := RX1) (by decide +kernel) rfl rfl (Nat.le_of_ble_eq_true rfl) (lv0 := [(0, .ref h), (1, .ref a0), (2, .int 3), (3, .int x2)]) rfl (fun p e s m args below meth c A Q X rt => ?_)
  refine G_aload_n X dX1_tryOrders_0 1 rfl ?_
  obtain ⟨v1, h2, h3⟩ := bnd hz
  refine G1_callsi X (As := [.ref a0]) (rest := []) (wr := [(h, .inr (1, [.ref h_steps, .ref h_tried, .ref h_best, .int i_h_sum])), (h_steps, .inl (cR, 4, .inr (.inr (.inr (.inr (fun j => some (h_steps_r j))))))), ((h_steps_r 3), .inr (3, [.ref (h_steps_a 3)])), ((h_steps_a 3), .inl (cI, 352, .inl f_h_steps_3)), (h_tried, .inl (cI, 4, .inl f_h_tried)), (h_best, .inl (cI, 4, .inl f_h_best))]) (ws' := [(h, .inr (1, [.ref h_steps, .ref h_tried, .ref h_best, .int i_h_sum])), (h_steps, .inl (cR, 4, .inr (.inr (.inr (.inr (fun j => some (h_steps_r j))))))), ((h_steps_r 3), .inr (3, [.ref (h_steps_a 3)])), ((h_steps_a 3), .inl (cI, 352, .inl f_h_steps_3)), (h_tried, .inl (cI, 4, .inl f_h_tried)), (h_best, .inl (cI, 4, .inl f_h_best)), (a0, .inr (3, [.ref a0_numbers])), (a0_numbers, .inl (cI, 352, .inl f_a0_numbers))]) dX1_tryOrders_1 pkX1_lostRows gX1_tryOrders_X1_lostRows (kkX1_lostRows l D cI cR a0 a0_numbers f_a0_numbers v1 h2) ⟨rfl, rfl⟩ ⟨Nat.le_of_ble_eq_true rfl, Nat.le_of_ble_eq_true rfl⟩ rfl rfl (Nat.le_of_ble_eq_true rfl) [6, 7] [0, 1, 2, 3, 4, 5] rfl rfl ⟨rfl, rfl, by decide⟩ ⟨Nat.zero_le _, Nat.zero_le _⟩ [0, 1, 2, 3, 4, 5, 6, 7] rfl rfl ?_
  refine G_if_ne X (tgt := 13) dX1_tryOrders_4 (by decide) (fun h4 => ?_) (fun h4 => ?_)
  · have h5 := ifp h4 h3
    refine G_aload_n X dX1_tryOrders_7 0 rfl ?_
    refine G_iload_n X dX1_tryOrders_8 3 rfl ?_
    obtain ⟨v6, h7, h8⟩ := bnd h5
    refine G1_callv X (As := [.int x2]) (rest := []) (wr := [(h_steps, .inl (cR, 4, .inr (.inr (.inr (.inr (fun j => some (h_steps_r j))))))), ((h_steps_r 3), .inr (3, [.ref (h_steps_a 3)])), ((h_steps_a 3), .inl (cI, 352, .inl f_h_steps_3)), (a0, .inr (3, [.ref a0_numbers])), (a0_numbers, .inl (cI, 352, .inl f_a0_numbers))]) (ws' := [(h, .inr (1, [.ref h_steps, .ref h_tried, .ref h_best, .int v6.1])), (h_steps, .inl (cR, 4, .inr (.inr (.inr (.inr (fun j => some (h_steps_r j))))))), ((h_steps_r 3), .inr (3, [.ref (h_steps_a 3)])), ((h_steps_a 3), .inl (cI, 352, .inl f_h_steps_3)), (h_tried, .inl (cI, 4, .inl f_h_tried)), (h_best, .inl (cI, 4, .inl v6.2)), (a0, .inr (3, [.ref a0_numbers])), (a0_numbers, .inl (cI, 352, .inl f_a0_numbers))]) dX1_tryOrders_9 pkX1_keepIfBetter gX1_tryOrders_X1_keepIfBetter (kkX1_keepIfBetter l D cI cR h h_steps h_tried h_best i_h_sum f_h_tried f_h_best x2 v6 h7) ⟨rfl, rfl⟩ ⟨Nat.le_of_ble_eq_true rfl, Nat.le_of_ble_eq_true rfl⟩ rfl rfl (Nat.le_of_ble_eq_true rfl) 0 rfl rfl [0, 4, 5] [1, 2, 3, 6, 7] rfl rfl ⟨rfl, rfl, by decide⟩ ⟨Nat.zero_le _, Nat.zero_le _⟩ [5, 0, 1, 2, 6, 7, 3, 4] rfl rfl ?_
    cases h8
    exact rt _ _ _ dX1_tryOrders_12 rfl
  · have h9 := ifn h4 h3
    refine G_iload_n X dX1_tryOrders_13 2 rfl ?_
    refine G_if_lt X (tgt := 31) dX1_tryOrders_14 (by decide) (fun q => absurd q (by decide)) (fun _ => ?_)
    refine G_iload_n X dX1_tryOrders_17 2 rfl ?_
    refine G_iconst X (v := 4) dX1_tryOrders_18 (by decide) ?_
    refine G_icmp_ge X (tgt := 31) dX1_tryOrders_19 (by decide) (fun q => absurd q (by decide)) (fun _ => ?_)
    refine G_aload_n X dX1_tryOrders_22 0 rfl ?_
    refine G_get X (i0 := 0) (ci := 1) (j := 0) (C := RX1) (ref := RX1) (T := TX1) (N := 4) dX1_tryOrders_23 rfl rfl hiX1_tryOrders_3_X1 (by decide) flX1_tryOrders_3_13 rfl rfl ?_
    refine G_iload_n X dX1_tryOrders_26 2 rfl ?_
    refine G_aald X (i0 := 1) (b := h_steps_r 3) (j := 3) dX1_tryOrders_27 rfl (by decide) (by decide) rfl ?_
    refine G_ifnonnull X (tgt := 32) dX1_tryOrders_28 (by decide) ?_
    refine G_aload_n X dX1_tryOrders_32 0 rfl ?_
    refine G_get X (i0 := 0) (ci := 1) (j := 0) (C := RX1) (ref := RX1) (T := TX1) (N := 4) dX1_tryOrders_33 rfl rfl hiX1_tryOrders_3_X1 (by decide) flX1_tryOrders_3_13 rfl rfl ?_
    refine G_iload_n X dX1_tryOrders_36 2 rfl ?_
    refine G_aald X (i0 := 1) (b := h_steps_r 3) (j := 3) dX1_tryOrders_37 rfl (by decide) (by decide) rfl ?_
    refine G_astore X (lv' := [(4, .ref (h_steps_r 3)), (0, .ref h), (1, .ref a0), (2, .int 3), (3, .int x2)]) dX1_tryOrders_38 (by decide) rfl ?_
    refine G_iload_n X dX1_tryOrders_40 4 rfl ?_
    refine G_aload_n X dX1_tryOrders_41 2 rfl ?_
    obtain ⟨v10, h11, h12⟩ := bnd h9
    refine G1_callsi X (As := [.ref a0]) (rest := [.int x2]) (wr := [(h, .inr (1, [.ref h_steps, .ref h_tried, .ref h_best, .int i_h_sum])), (h_steps, .inl (cR, 4, .inr (.inr (.inr (.inr (fun j => some (h_steps_r j))))))), ((h_steps_r 3), .inr (3, [.ref (h_steps_a 3)])), ((h_steps_a 3), .inl (cI, 352, .inl f_h_steps_3)), (h_tried, .inl (cI, 4, .inl f_h_tried)), (h_best, .inl (cI, 4, .inl f_h_best))]) (ws' := [(h, .inr (1, [.ref h_steps, .ref h_tried, .ref h_best, .int i_h_sum])), (h_steps, .inl (cR, 4, .inr (.inr (.inr (.inr (fun j => some (h_steps_r j))))))), ((h_steps_r 3), .inr (3, [.ref (h_steps_a 3)])), ((h_steps_a 3), .inl (cI, 352, .inl f_h_steps_3)), (h_tried, .inl (cI, 4, .inl f_h_tried)), (h_best, .inl (cI, 4, .inl f_h_best)), (a0, .inr (3, [.ref a0_numbers])), (a0_numbers, .inl (cI, 352, .inl f_a0_numbers))]) dX1_tryOrders_42 pkX1_stillComing gX1_tryOrders_X1_stillComing (kkX1_stillComing l D cI cR a0 a0_numbers f_a0_numbers v10 h11) ⟨rfl, rfl⟩ ⟨Nat.le_of_ble_eq_true rfl, Nat.le_of_ble_eq_true rfl⟩ rfl rfl (Nat.le_of_ble_eq_true rfl) [6, 7] [0, 1, 2, 3, 4, 5] rfl rfl ⟨rfl, rfl, by decide⟩ ⟨Nat.zero_le _, Nat.zero_le _⟩ [0, 1, 2, 3, 4, 5, 6, 7] rfl rfl ?_
    refine G_iadd X dX1_tryOrders_45 ?_
    refine G_istore X (lv' := [(5, .int (x2 + v10)), (4, .ref (h_steps_r 3)), (0, .ref h), (1, .ref a0), (2, .int 3), (3, .int x2)]) dX1_tryOrders_46 (by decide) rfl ?_
    refine G_iconst X (v := 0) dX1_tryOrders_48 (by decide) ?_
    refine G_istore X (lv' := [(6, .int 0), (5, .int (x2 + v10)), (4, .ref (h_steps_r 3)), (0, .ref h), (1, .ref a0), (2, .int 3), (3, .int x2)]) dX1_tryOrders_49 (by decide) rfl ?_
    obtain ⟨j14, h15, h16⟩ := bnd h12
    have J21 : G p l e rmX1_tryOrders_3 s m args below meth c D A 7 Q 0 0 117 [] [] [(h, .inr (1, [.ref h_steps, .ref h_tried, .ref h_best, .int j14.1])), (h_steps, .inl (cR, 4, .inr (.inr (.inr (.inr (fun j => some (h_steps_r j))))))), ((h_steps_r 3), .inr (3, [.ref (h_steps_a 3)])), ((h_steps_a 3), .inl (cI, 352, .inl j14.2.1)), (h_tried, .inl (cI, 4, .inl j14.2.2.1)), (h_best, .inl (cI, 4, .inl j14.2.2.2)), (a0, .inr (3, [.ref a0_numbers])), (a0_numbers, .inl (cI, 352, .inl f_a0_numbers))] := by
      cases h16
      exact rt _ _ _ dX1_tryOrders_117 rfl
    refine G_lv [3, 4, 5, 6, 2, 1, 0] rfl ?_
    refine itr_ind (P := fun s13 : (Int32 × Int32 × (Nat → Int32) × (Nat → Int32) × (Nat → Int32)) => G p l e rmX1_tryOrders_3 s m args below meth c D A 7 Q 0 0 51 [(0, .ref h), (1, .ref a0), (2, .int 3), (3, .int x2), (4, .ref (h_steps_r 3)), (5, .int (x2 + v10)), (6, .int s13.1)] [] [(h, .inr (1, [.ref h_steps, .ref h_tried, .ref h_best, .int s13.2.1])), (h_steps, .inl (cR, 4, .inr (.inr (.inr (.inr (fun j => some (h_steps_r j))))))), ((h_steps_r 3), .inr (3, [.ref (h_steps_a 3)])), ((h_steps_a 3), .inl (cI, 352, .inl s13.2.2.1)), (h_tried, .inl (cI, 4, .inl s13.2.2.2.1)), (h_best, .inl (cI, 4, .inl s13.2.2.2.2)), (a0, .inr (3, [.ref a0_numbers])), (a0_numbers, .inl (cI, 352, .inl f_a0_numbers))]) (fun s13 o20 h17 h18 h19 => ?_) FU _ h15
    unfold SX1_tryOrders_3_51 at h17
    refine G_iload X dX1_tryOrders_51 6 rfl ?_
    refine G_aload_n X dX1_tryOrders_53 1 rfl ?_
    refine G_iconst X (v := 1) dX1_tryOrders_54 (by decide) ?_
    obtain ⟨v23, h24, h25⟩ := bnd h17
    refine G1_calli X (As := [.int 1]) (rest := [.int s13.1]) (wr := [(h, .inr (1, [.ref h_steps, .ref h_tried, .ref h_best, .int s13.2.1])), (h_steps, .inl (cR, 4, .inr (.inr (.inr (.inr (fun j => some (h_steps_r j))))))), ((h_steps_r 3), .inr (3, [.ref (h_steps_a 3)])), ((h_steps_a 3), .inl (cI, 352, .inl s13.2.2.1)), (h_tried, .inl (cI, 4, .inl s13.2.2.2.1)), (h_best, .inl (cI, 4, .inl s13.2.2.2.2))]) (ws' := [(h, .inr (1, [.ref h_steps, .ref h_tried, .ref h_best, .int s13.2.1])), (h_steps, .inl (cR, 4, .inr (.inr (.inr (.inr (fun j => some (h_steps_r j))))))), ((h_steps_r 3), .inr (3, [.ref (h_steps_a 3)])), ((h_steps_a 3), .inl (cI, 352, .inl s13.2.2.1)), (h_tried, .inl (cI, 4, .inl s13.2.2.2.1)), (h_best, .inl (cI, 4, .inl s13.2.2.2.2)), (a0, .inr (3, [.ref a0_numbers])), (a0_numbers, .inl (cI, 352, .inl f_a0_numbers))]) dX1_tryOrders_55 pkX3_get gX1_tryOrders_X3_get (kkX3_get l D cI cR a0 a0_numbers f_a0_numbers 1 v23 h24) ⟨rfl, rfl⟩ ⟨Nat.le_of_ble_eq_true rfl, Nat.le_of_ble_eq_true rfl⟩ rfl rfl (Nat.le_of_ble_eq_true rfl) 0 rfl rfl [6, 7] [0, 1, 2, 3, 4, 5] rfl rfl ⟨rfl, rfl, by decide⟩ ⟨Nat.zero_le _, Nat.zero_le _⟩ [0, 1, 2, 3, 4, 5, 6, 7] rfl rfl ?_
    refine G_icmp_ge X (tgt := 117) dX1_tryOrders_58 (by decide) (fun h26 => ?_) (fun h26 => ?_)
    · have h27 := ifp h26 h25
      cases h27
      have h28 := h19 _ rfl
      subst h28
      exact G_lv [] rfl (J21)
    · have h29 := ifn h26 h25
      refine G_aload_n X dX1_tryOrders_61 1 rfl ?_
      refine G_iload X dX1_tryOrders_62 6 rfl ?_
      obtain ⟨v30, h31, h32⟩ := bnd h29
      refine G1_calli X (As := [.int s13.1]) (rest := []) (wr := [(h, .inr (1, [.ref h_steps, .ref h_tried, .ref h_best, .int s13.2.1])), (h_steps, .inl (cR, 4, .inr (.inr (.inr (.inr (fun j => some (h_steps_r j))))))), ((h_steps_r 3), .inr (3, [.ref (h_steps_a 3)])), ((h_steps_a 3), .inl (cI, 352, .inl s13.2.2.1)), (h_tried, .inl (cI, 4, .inl s13.2.2.2.1)), (h_best, .inl (cI, 4, .inl s13.2.2.2.2))]) (ws' := [(h, .inr (1, [.ref h_steps, .ref h_tried, .ref h_best, .int s13.2.1])), (h_steps, .inl (cR, 4, .inr (.inr (.inr (.inr (fun j => some (h_steps_r j))))))), ((h_steps_r 3), .inr (3, [.ref (h_steps_a 3)])), ((h_steps_a 3), .inl (cI, 352, .inl s13.2.2.1)), (h_tried, .inl (cI, 4, .inl s13.2.2.2.1)), (h_best, .inl (cI, 4, .inl s13.2.2.2.2)), (a0, .inr (3, [.ref a0_numbers])), (a0_numbers, .inl (cI, 352, .inl f_a0_numbers))]) dX1_tryOrders_64 pkX3_lives gX1_tryOrders_X3_lives (kkX3_lives l D cI cR a0 a0_numbers f_a0_numbers s13.1 v30 h31) ⟨rfl, rfl⟩ ⟨Nat.le_of_ble_eq_true rfl, Nat.le_of_ble_eq_true rfl⟩ rfl rfl (Nat.le_of_ble_eq_true rfl) 0 rfl rfl [6, 7] [0, 1, 2, 3, 4, 5] rfl rfl ⟨rfl, rfl, by decide⟩ ⟨Nat.zero_le _, Nat.zero_le _⟩ [0, 1, 2, 3, 4, 5, 6, 7] rfl rfl ?_
      refine G_if_ne X (tgt := 111) dX1_tryOrders_67 (by decide) (fun h33 => ?_) (fun h33 => ?_)
      · have h34 := ifp h33 h32
        refine G_iload X dX1_tryOrders_70 5 rfl ?_
        refine G_aload_n X dX1_tryOrders_72 0 rfl ?_
        refine G_get X (i0 := 0) (ci := 1) (j := 3) (C := RX1) (ref := RX1) (T := TX1) (N := 4) dX1_tryOrders_73 rfl rfl hiX1_tryOrders_3_X1 (by decide) flX1_tryOrders_3_25 rfl rfl ?_
        refine G_icmp_le X (tgt := 111) dX1_tryOrders_76 (by decide) (fun h35 => ?_) (fun h35 => ?_)
        · have h36 := ifp h35 h34
          refine G_iinc X (v := (s13.1 + 1)) (lv' := [(6, .int (s13.1 + 1)), (0, .ref h), (1, .ref a0), (2, .int 3), (3, .int x2), (4, .ref (h_steps_r 3)), (5, .int (x2 + v10))]) dX1_tryOrders_111 6 rfl rfl (by decide) rfl ?_
          refine G_goto X (tgt := 51) dX1_tryOrders_114 (by decide) ?_
          cases h36
          exact G_lv [1, 2, 3, 4, 5, 6, 0] rfl (h18 _ rfl)
        · have h37 := ifn h35 h34
          refine G_aload X dX1_tryOrders_79 4 rfl ?_
          refine G_aload_n X dX1_tryOrders_81 1 rfl ?_
          obtain ⟨v38, h39, h40⟩ := bnd h37
          refine G1_callv X (As := [.ref a0]) (rest := []) (wr := [(h, .inr (1, [.ref h_steps, .ref h_tried, .ref h_best, .int s13.2.1])), (h_steps, .inl (cR, 4, .inr (.inr (.inr (.inr (fun j => some (h_steps_r j))))))), (h_tried, .inl (cI, 4, .inl s13.2.2.2.1)), (h_best, .inl (cI, 4, .inl s13.2.2.2.2))]) (ws' := [(h, .inr (1, [.ref h_steps, .ref h_tried, .ref h_best, .int s13.2.1])), (h_steps, .inl (cR, 4, .inr (.inr (.inr (.inr (fun j => some (h_steps_r j))))))), ((h_steps_r 3), .inr (3, [.ref (h_steps_a 3)])), ((h_steps_a 3), .inl (cI, 352, .inl v38)), (h_tried, .inl (cI, 4, .inl s13.2.2.2.1)), (h_best, .inl (cI, 4, .inl s13.2.2.2.2)), (a0, .inr (3, [.ref a0_numbers])), (a0_numbers, .inl (cI, 352, .inl f_a0_numbers))]) dX1_tryOrders_82 pkX3_copyFrom gX1_tryOrders_X3_copyFrom (kkX3_copyFrom l D cI cR (h_steps_r 3) (h_steps_a 3) a0 a0_numbers s13.2.2.1 f_a0_numbers v38 h39) ⟨rfl, rfl⟩ ⟨Nat.le_of_ble_eq_true rfl, Nat.le_of_ble_eq_true rfl⟩ rfl rfl (Nat.le_of_ble_eq_true rfl) 0 rfl rfl [2, 3, 6, 7] [0, 1, 4, 5] rfl rfl ⟨rfl, rfl, by decide⟩ ⟨Nat.zero_le _, Nat.zero_le _⟩ [0, 1, 4, 5, 2, 3, 6, 7] rfl rfl ?_
          refine G_aload_n X dX1_tryOrders_85 0 rfl ?_
          refine G_get X (i0 := 0) (ci := 1) (j := 1) (C := RX1) (ref := RX1) (T := TX1) (N := 4) dX1_tryOrders_86 rfl rfl hiX1_tryOrders_3_X1 (by decide) flX1_tryOrders_3_18 rfl rfl ?_
          refine G_iload_n X dX1_tryOrders_89 2 rfl ?_
          refine G_iload X dX1_tryOrders_90 6 rfl ?_
          obtain ⟨g41, h42, h43⟩ := bnd h40
          refine G_iast X (i0 := 4) (ws' := [(h, .inr (1, [.ref h_steps, .ref h_tried, .ref h_best, .int s13.2.1])), (h_steps, .inl (cR, 4, .inr (.inr (.inr (.inr (fun j => some (h_steps_r j))))))), ((h_steps_r 3), .inr (3, [.ref (h_steps_a 3)])), ((h_steps_a 3), .inl (cI, 352, .inl v38)), (h_tried, .inl (cI, 4, .inl g41)), (h_best, .inl (cI, 4, .inl s13.2.2.2.2)), (a0, .inr (3, [.ref a0_numbers])), (a0_numbers, .inl (cI, 352, .inl f_a0_numbers))]) dX1_tryOrders_92 rfl h42 rfl ?_
          refine G_aload_n X dX1_tryOrders_93 0 rfl ?_
          refine G_aload X dX1_tryOrders_94 4 rfl ?_
          refine G_iload_n X dX1_tryOrders_96 2 rfl ?_
          refine G_iconst X (v := 1) dX1_tryOrders_97 (by decide) ?_
          refine G_iaddv X (v := 4) dX1_tryOrders_98 (by decide) ?_
          refine G_iload_n X dX1_tryOrders_99 3 rfl ?_
          refine G_aload X dX1_tryOrders_100 4 rfl ?_
          refine G_iload X dX1_tryOrders_102 6 rfl ?_
          obtain ⟨v44, h45, h46⟩ := bnd h43
          refine G1_calli X (As := [.int s13.1]) (rest := [.int x2, .int 4, .ref (h_steps_r 3), .ref h]) (wr := [(h, .inr (1, [.ref h_steps, .ref h_tried, .ref h_best, .int s13.2.1])), (h_steps, .inl (cR, 4, .inr (.inr (.inr (.inr (fun j => some (h_steps_r j))))))), (h_tried, .inl (cI, 4, .inl g41)), (h_best, .inl (cI, 4, .inl s13.2.2.2.2)), (a0, .inr (3, [.ref a0_numbers])), (a0_numbers, .inl (cI, 352, .inl f_a0_numbers))]) (ws' := [(h, .inr (1, [.ref h_steps, .ref h_tried, .ref h_best, .int s13.2.1])), (h_steps, .inl (cR, 4, .inr (.inr (.inr (.inr (fun j => some (h_steps_r j))))))), ((h_steps_r 3), .inr (3, [.ref (h_steps_a 3)])), ((h_steps_a 3), .inl (cI, 352, .inl v44.2)), (h_tried, .inl (cI, 4, .inl g41)), (h_best, .inl (cI, 4, .inl s13.2.2.2.2)), (a0, .inr (3, [.ref a0_numbers])), (a0_numbers, .inl (cI, 352, .inl f_a0_numbers))]) dX1_tryOrders_104 pkX3_mendRow gX1_tryOrders_X3_mendRow (kkX3_mendRow l D cI cR (h_steps_r 3) (h_steps_a 3) v38 s13.1 v44 h45) ⟨rfl, rfl⟩ ⟨Nat.le_of_ble_eq_true rfl, Nat.le_of_ble_eq_true rfl⟩ rfl rfl (Nat.le_of_ble_eq_true rfl) 0 rfl rfl [2, 3] [0, 1, 4, 5, 6, 7] rfl rfl ⟨rfl, rfl, by decide⟩ ⟨Nat.zero_le _, Nat.zero_le _⟩ [0, 1, 6, 7, 2, 3, 4, 5] rfl rfl ?_
          refine G_iadd X dX1_tryOrders_107 ?_
          obtain ⟨v47, h48, h49⟩ := bnd h46
          refine G1_callv X (As := [.ref (h_steps_r 3), .int 4, .int (x2 + v44.1)]) (rest := []) (wr := [(h_steps, .inl (cR, 4, .inr (.inr (.inr (.inr (fun j => some (h_steps_r j))))))), (a0, .inr (3, [.ref a0_numbers])), (a0_numbers, .inl (cI, 352, .inl f_a0_numbers))]) (ws' := [(h, .inr (1, [.ref h_steps, .ref h_tried, .ref h_best, .int v47.1])), (h_steps, .inl (cR, 4, .inr (.inr (.inr (.inr (fun j => some (h_steps_r j))))))), ((h_steps_r 3), .inr (3, [.ref (h_steps_a 3)])), ((h_steps_a 3), .inl (cI, 352, .inl v44.2)), (h_tried, .inl (cI, 4, .inl g41)), (h_best, .inl (cI, 4, .inl v47.2)), (a0, .inr (3, [.ref a0_numbers])), (a0_numbers, .inl (cI, 352, .inl f_a0_numbers))]) dX1_tryOrders_108 pkX1_tryOrders_4 gX1_tryOrders_X1_tryOrders (kkX1_tryOrders_4 l D cI cR h h_steps h_tried h_best (h_steps_r 3) (h_steps_a 3) s13.2.1 g41 s13.2.2.2.2 v44.2 (x2 + v44.1) v47 h48) ⟨rfl, rfl⟩ ⟨Nat.le_of_ble_eq_true rfl, Nat.le_of_ble_eq_true rfl⟩ rfl rfl (Nat.le_of_ble_eq_true rfl) 0 rfl rfl [0, 4, 5, 2, 3] [1, 6, 7] rfl rfl ⟨rfl, rfl, by decide⟩ ⟨Nat.zero_le _, Nat.zero_le _⟩ [3, 0, 6, 7, 4, 5, 1, 2] rfl rfl ?_
          refine G_iinc X (v := (s13.1 + 1)) (lv' := [(6, .int (s13.1 + 1)), (0, .ref h), (1, .ref a0), (2, .int 3), (3, .int x2), (4, .ref (h_steps_r 3)), (5, .int (x2 + v10))]) dX1_tryOrders_111 6 rfl rfl (by decide) rfl ?_
          refine G_goto X (tgt := 51) dX1_tryOrders_114 (by decide) ?_
          cases h49
          exact G_lv [1, 2, 3, 4, 5, 6, 0] rfl (h18 _ rfl)
      · have h50 := ifn h33 h32
        refine G_iinc X (v := (s13.1 + 1)) (lv' := [(6, .int (s13.1 + 1)), (0, .ref h), (1, .ref a0), (2, .int 3), (3, .int x2), (4, .ref (h_steps_r 3)), (5, .int (x2 + v10))]) dX1_tryOrders_111 6 rfl rfl (by decide) rfl ?_
        refine G_goto X (tgt := 51) dX1_tryOrders_114 (by decide) ?_
        cases h50
        exact G_lv [1, 2, 3, 4, 5, 6, 0] rfl (h18 _ rfl)
def rmX1_tryOrders_2 : Room := { frames := 6, cells := 0, slots := 0, locals := 216 }
theorem pkX1_tryOrders_2 : cK yX1_tryOrders wsX1_tryOrders cX1_tryOrders 7 none 3 RX1 := ⟨⟨_, rfl⟩, by decide +kernel⟩
theorem hiX1_tryOrders_2_X1 : ∀ w ∈ wsX10, w ∈ wsX1_tryOrders := by decide +kernel
theorem flX1_tryOrders_2_13 : Cond.fieldLink RX1 13 "EchoMargins$Mending" "steps" "[LEchoMargins$Ring;" ∈ wsX1_tryOrders := by decide +kernel
theorem flX1_tryOrders_2_25 : Cond.fieldLink RX1 25 "EchoMargins$Mending" "sum" "I" ∈ wsX1_tryOrders := by decide +kernel
theorem flX1_tryOrders_2_18 : Cond.fieldLink RX1 18 "EchoMargins$Mending" "tried" "[I" ∈ wsX1_tryOrders := by decide +kernel
set_option maxHeartbeats 4000000 in
set_option maxRecDepth 100000 in
theorem kkX1_tryOrders_2 (l : Launch) (D : va_G) (cI cR : ClassId) (h h_steps h_tried h_best a0 a0_numbers : Nat) (h_steps_r h_steps_a : Nat → Nat) (i_h_sum : Int32) (f_h_steps_2 : Nat → Int32) (f_h_steps_3 : Nat → Int32) (f_h_tried : Nat → Int32) (f_h_best : Nat → Int32) (f_a0_numbers : Nat → Int32) (x2 : Int32) (z : (Int32 × (Nat → Int32) × (Nat → Int32) × (Nat → Int32) × (Nat → Int32))) (hz : MX1_tryOrders_2 i_h_sum f_h_steps_2 f_h_steps_3 f_h_tried f_h_best f_a0_numbers x2 = some z) : cV1 l yX1_tryOrders wsX1_tryOrders rmX1_tryOrders_2 D cI cR [.ref h, .ref a0, .int 2, .int x2] [(h, .inr (1, [.ref h_steps, .ref h_tried, .ref h_best, .int i_h_sum])), (h_steps, .inl (cR, 4, .inr (.inr (.inr (.inr (fun j => some (h_steps_r j))))))), ((h_steps_r 2), .inr (3, [.ref (h_steps_a 2)])), ((h_steps_a 2), .inl (cI, 352, .inl f_h_steps_2)), ((h_steps_r 3), .inr (3, [.ref (h_steps_a 3)])), ((h_steps_a 3), .inl (cI, 352, .inl f_h_steps_3)), (h_tried, .inl (cI, 4, .inl f_h_tried)), (h_best, .inl (cI, 4, .inl f_h_best)), (a0, .inr (3, [.ref a0_numbers])), (a0_numbers, .inl (cI, 352, .inl f_a0_numbers))] [(h, .inr (1, [.ref h_steps, .ref h_tried, .ref h_best, .int z.1])), (h_steps, .inl (cR, 4, .inr (.inr (.inr (.inr (fun j => some (h_steps_r j))))))), ((h_steps_r 2), .inr (3, [.ref (h_steps_a 2)])), ((h_steps_a 2), .inl (cI, 352, .inl z.2.1)), ((h_steps_r 3), .inr (3, [.ref (h_steps_a 3)])), ((h_steps_a 3), .inl (cI, 352, .inl z.2.2.1)), (h_tried, .inl (cI, 4, .inl z.2.2.2.1)), (h_best, .inl (cI, 4, .inl z.2.2.2.2)), (a0, .inr (3, [.ref a0_numbers])), (a0_numbers, .inl (cI, 352, .inl f_a0_numbers))] := by
  unfold MX1_tryOrders_2 at hz
  refine kV_of (cc := cX1_tryOrders) (maxL := 7) (own := RX1) (by decide +kernel) rfl rfl (Nat.le_of_ble_eq_true rfl) (lv0 := [(0, .ref h), (1, .ref a0), (2, .int 2), (3, .int x2)]) rfl (fun p e s m args below meth c A Q X rt => ?_)
  refine G_aload_n X dX1_tryOrders_0 1 rfl ?_
  obtain ⟨v1, h2, h3⟩ := bnd hz
  refine G1_callsi X (As := [.ref a0]) (rest := []) (wr := [(h, .inr (1, [.ref h_steps, .ref h_tried, .ref h_best, .int i_h_sum])), (h_steps, .inl (cR, 4, .inr (.inr (.inr (.inr (fun j => some (h_steps_r j))))))), ((h_steps_r 2), .inr (3, [.ref (h_steps_a 2)])), ((h_steps_a 2), .inl (cI, 352, .inl f_h_steps_2)), ((h_steps_r 3), .inr (3, [.ref (h_steps_a 3)])), ((h_steps_a 3), .inl (cI, 352, .inl f_h_steps_3)), (h_tried, .inl (cI, 4, .inl f_h_tried)), (h_best, .inl (cI, 4, .inl f_h_best))]) (ws' := [(h, .inr (1, [.ref h_steps, .ref h_tried, .ref h_best, .int i_h_sum])), (h_steps, .inl (cR, 4, .inr (.inr (.inr (.inr (fun j => some (h_steps_r j))))))), ((h_steps_r 2), .inr (3, [.ref (h_steps_a 2)])), ((h_steps_a 2), .inl (cI, 352, .inl f_h_steps_2)), ((h_steps_r 3), .inr (3, [.ref (h_steps_a 3)])), ((h_steps_a 3), .inl (cI, 352, .inl f_h_steps_3)), (h_tried, .inl (cI, 4, .inl f_h_tried)), (h_best, .inl (cI, 4, .inl f_h_best)), (a0, .inr (3, [.ref a0_numbers])), (a0_numbers, .inl (cI, 352, .inl f_a0_numbers))]) dX1_tryOrders_1 pkX1_lostRows gX1_tryOrders_X1_lostRows (kkX1_lostRows l D cI cR a0 a0_numbers f_a0_numbers v1 h2) ⟨rfl, rfl⟩ ⟨Nat.le_of_ble_eq_true rfl, Nat.le_of_ble_eq_true rfl⟩ rfl rfl (Nat.le_of_ble_eq_true rfl) [8, 9] [0, 1, 2, 3, 4, 5, 6, 7] rfl rfl ⟨rfl, rfl, by decide⟩ ⟨Nat.zero_le _, Nat.zero_le _⟩ [0, 1, 2, 3, 4, 5, 6, 7, 8, 9] rfl rfl ?_
  refine G_if_ne X (tgt := 13) dX1_tryOrders_4 (by decide) (fun h4 => ?_) (fun h4 => ?_)
  · have h5 := ifp h4 h3
    refine G_aload_n X dX1_tryOrders_7 0 rfl ?_
    refine G_iload_n X dX1_tryOrders_8 3 rfl ?_
    obtain ⟨v6, h7, h8⟩ := bnd h5
    refine G1_callv X (As := [.int x2]) (rest := []) (wr := [(h_steps, .inl (cR, 4, .inr (.inr (.inr (.inr (fun j => some (h_steps_r j))))))), ((h_steps_r 2), .inr (3, [.ref (h_steps_a 2)])), ((h_steps_a 2), .inl (cI, 352, .inl f_h_steps_2)), ((h_steps_r 3), .inr (3, [.ref (h_steps_a 3)])), ((h_steps_a 3), .inl (cI, 352, .inl f_h_steps_3)), (a0, .inr (3, [.ref a0_numbers])), (a0_numbers, .inl (cI, 352, .inl f_a0_numbers))]) (ws' := [(h, .inr (1, [.ref h_steps, .ref h_tried, .ref h_best, .int v6.1])), (h_steps, .inl (cR, 4, .inr (.inr (.inr (.inr (fun j => some (h_steps_r j))))))), ((h_steps_r 2), .inr (3, [.ref (h_steps_a 2)])), ((h_steps_a 2), .inl (cI, 352, .inl f_h_steps_2)), ((h_steps_r 3), .inr (3, [.ref (h_steps_a 3)])), ((h_steps_a 3), .inl (cI, 352, .inl f_h_steps_3)), (h_tried, .inl (cI, 4, .inl f_h_tried)), (h_best, .inl (cI, 4, .inl v6.2)), (a0, .inr (3, [.ref a0_numbers])), (a0_numbers, .inl (cI, 352, .inl f_a0_numbers))]) dX1_tryOrders_9 pkX1_keepIfBetter gX1_tryOrders_X1_keepIfBetter (kkX1_keepIfBetter l D cI cR h h_steps h_tried h_best i_h_sum f_h_tried f_h_best x2 v6 h7) ⟨rfl, rfl⟩ ⟨Nat.le_of_ble_eq_true rfl, Nat.le_of_ble_eq_true rfl⟩ rfl rfl (Nat.le_of_ble_eq_true rfl) 0 rfl rfl [0, 6, 7] [1, 2, 3, 4, 5, 8, 9] rfl rfl ⟨rfl, rfl, by decide⟩ ⟨Nat.zero_le _, Nat.zero_le _⟩ [7, 0, 1, 2, 3, 4, 8, 9, 5, 6] rfl rfl ?_
    cases h8
    exact rt _ _ _ dX1_tryOrders_12 rfl
  · have h9 := ifn h4 h3
    refine G_iload_n X dX1_tryOrders_13 2 rfl ?_
    refine G_if_lt X (tgt := 31) dX1_tryOrders_14 (by decide) (fun q => absurd q (by decide)) (fun _ => ?_)
    refine G_iload_n X dX1_tryOrders_17 2 rfl ?_
    refine G_iconst X (v := 4) dX1_tryOrders_18 (by decide) ?_
    refine G_icmp_ge X (tgt := 31) dX1_tryOrders_19 (by decide) (fun q => absurd q (by decide)) (fun _ => ?_)
    refine G_aload_n X dX1_tryOrders_22 0 rfl ?_
    refine G_get X (i0 := 0) (ci := 1) (j := 0) (C := RX1) (ref := RX1) (T := TX1) (N := 4) dX1_tryOrders_23 rfl rfl hiX1_tryOrders_2_X1 (by decide) flX1_tryOrders_2_13 rfl rfl ?_
    refine G_iload_n X dX1_tryOrders_26 2 rfl ?_
    refine G_aald X (i0 := 1) (b := h_steps_r 2) (j := 2) dX1_tryOrders_27 rfl (by decide) (by decide) rfl ?_
    refine G_ifnonnull X (tgt := 32) dX1_tryOrders_28 (by decide) ?_
    refine G_aload_n X dX1_tryOrders_32 0 rfl ?_
    refine G_get X (i0 := 0) (ci := 1) (j := 0) (C := RX1) (ref := RX1) (T := TX1) (N := 4) dX1_tryOrders_33 rfl rfl hiX1_tryOrders_2_X1 (by decide) flX1_tryOrders_2_13 rfl rfl ?_
    refine G_iload_n X dX1_tryOrders_36 2 rfl ?_
    refine G_aald X (i0 := 1) (b := h_steps_r 2) (j := 2) dX1_tryOrders_37 rfl (by decide) (by decide) rfl ?_
    refine G_astore X (lv' := [(4, .ref (h_steps_r 2)), (0, .ref h), (1, .ref a0), (2, .int 2), (3, .int x2)]) dX1_tryOrders_38 (by decide) rfl ?_
    refine G_iload_n X dX1_tryOrders_40 4 rfl ?_
    refine G_aload_n X dX1_tryOrders_41 2 rfl ?_
    obtain ⟨v10, h11, h12⟩ := bnd h9
    refine G1_callsi X (As := [.ref a0]) (rest := [.int x2]) (wr := [(h, .inr (1, [.ref h_steps, .ref h_tried, .ref h_best, .int i_h_sum])), (h_steps, .inl (cR, 4, .inr (.inr (.inr (.inr (fun j => some (h_steps_r j))))))), ((h_steps_r 2), .inr (3, [.ref (h_steps_a 2)])), ((h_steps_a 2), .inl (cI, 352, .inl f_h_steps_2)), ((h_steps_r 3), .inr (3, [.ref (h_steps_a 3)])), ((h_steps_a 3), .inl (cI, 352, .inl f_h_steps_3)), (h_tried, .inl (cI, 4, .inl f_h_tried)), (h_best, .inl (cI, 4, .inl f_h_best))]) (ws' := [(h, .inr (1, [.ref h_steps, .ref h_tried, .ref h_best, .int i_h_sum])), (h_steps, .inl (cR, 4, .inr (.inr (.inr (.inr (fun j => some (h_steps_r j))))))), ((h_steps_r 2), .inr (3, [.ref (h_steps_a 2)])), ((h_steps_a 2), .inl (cI, 352, .inl f_h_steps_2)), ((h_steps_r 3), .inr (3, [.ref (h_steps_a 3)])), ((h_steps_a 3), .inl (cI, 352, .inl f_h_steps_3)), (h_tried, .inl (cI, 4, .inl f_h_tried)), (h_best, .inl (cI, 4, .inl f_h_best)), (a0, .inr (3, [.ref a0_numbers])), (a0_numbers, .inl (cI, 352, .inl f_a0_numbers))]) dX1_tryOrders_42 pkX1_stillComing gX1_tryOrders_X1_stillComing (kkX1_stillComing l D cI cR a0 a0_numbers f_a0_numbers v10 h11) ⟨rfl, rfl⟩ ⟨Nat.le_of_ble_eq_true rfl, Nat.le_of_ble_eq_true rfl⟩ rfl rfl (Nat.le_of_ble_eq_true rfl) [8, 9] [0, 1, 2, 3, 4, 5, 6, 7] rfl rfl ⟨rfl, rfl, by decide⟩ ⟨Nat.zero_le _, Nat.zero_le _⟩ [0, 1, 2, 3, 4, 5, 6, 7, 8, 9] rfl rfl ?_
    refine G_iadd X dX1_tryOrders_45 ?_
    refine G_istore X (lv' := [(5, .int (x2 + v10)), (4, .ref (h_steps_r 2)), (0, .ref h), (1, .ref a0), (2, .int 2), (3, .int x2)]) dX1_tryOrders_46 (by decide) rfl ?_
    refine G_iconst X (v := 0) dX1_tryOrders_48 (by decide) ?_
    refine G_istore X (lv' := [(6, .int 0), (5, .int (x2 + v10)), (4, .ref (h_steps_r 2)), (0, .ref h), (1, .ref a0), (2, .int 2), (3, .int x2)]) dX1_tryOrders_49 (by decide) rfl ?_
    obtain ⟨j14, h15, h16⟩ := bnd h12
    have J21 : G p l e rmX1_tryOrders_2 s m args below meth c D A 7 Q 0 0 117 [] [] [(h, .inr (1, [.ref h_steps, .ref h_tried, .ref h_best, .int j14.1])), (h_steps, .inl (cR, 4, .inr (.inr (.inr (.inr (fun j => some (h_steps_r j))))))), ((h_steps_r 2), .inr (3, [.ref (h_steps_a 2)])), ((h_steps_a 2), .inl (cI, 352, .inl j14.2.1)), ((h_steps_r 3), .inr (3, [.ref (h_steps_a 3)])), ((h_steps_a 3), .inl (cI, 352, .inl j14.2.2.1)), (h_tried, .inl (cI, 4, .inl j14.2.2.2.1)), (h_best, .inl (cI, 4, .inl j14.2.2.2.2)), (a0, .inr (3, [.ref a0_numbers])), (a0_numbers, .inl (cI, 352, .inl f_a0_numbers))] := by
      cases h16
      exact rt _ _ _ dX1_tryOrders_117 rfl
    refine G_lv [3, 4, 5, 6, 2, 1, 0] rfl ?_
    refine itr_ind (P := fun s13 : (Int32 × Int32 × (Nat → Int32) × (Nat → Int32) × (Nat → Int32) × (Nat → Int32)) => G p l e rmX1_tryOrders_2 s m args below meth c D A 7 Q 0 0 51 [(0, .ref h), (1, .ref a0), (2, .int 2), (3, .int x2), (4, .ref (h_steps_r 2)), (5, .int (x2 + v10)), (6, .int s13.1)] [] [(h, .inr (1, [.ref h_steps, .ref h_tried, .ref h_best, .int s13.2.1])), (h_steps, .inl (cR, 4, .inr (.inr (.inr (.inr (fun j => some (h_steps_r j))))))), ((h_steps_r 2), .inr (3, [.ref (h_steps_a 2)])), ((h_steps_a 2), .inl (cI, 352, .inl s13.2.2.1)), ((h_steps_r 3), .inr (3, [.ref (h_steps_a 3)])), ((h_steps_a 3), .inl (cI, 352, .inl s13.2.2.2.1)), (h_tried, .inl (cI, 4, .inl s13.2.2.2.2.1)), (h_best, .inl (cI, 4, .inl s13.2.2.2.2.2)), (a0, .inr (3, [.ref a0_numbers])), (a0_numbers, .inl (cI, 352, .inl f_a0_numbers))]) (fun s13 o20 h17 h18 h19 => ?_) FU _ h15
    unfold SX1_tryOrders_2_51 at h17
    refine G_iload X dX1_tryOrders_51 6 rfl ?_
    refine G_aload_n X dX1_tryOrders_53 1 rfl ?_
    refine G_iconst X (v := 1) dX1_tryOrders_54 (by decide) ?_
    obtain ⟨v23, h24, h25⟩ := bnd h17
    refine G1_calli X (As := [.int 1]) (rest := [.int s13.1]) (wr := [(h, .inr (1, [.ref h_steps, .ref h_tried, .ref h_best, .int s13.2.1])), (h_steps, .inl (cR, 4, .inr (.inr (.inr (.inr (fun j => some (h_steps_r j))))))), ((h_steps_r 2), .inr (3, [.ref (h_steps_a 2)])), ((h_steps_a 2), .inl (cI, 352, .inl s13.2.2.1)), ((h_steps_r 3), .inr (3, [.ref (h_steps_a 3)])), ((h_steps_a 3), .inl (cI, 352, .inl s13.2.2.2.1)), (h_tried, .inl (cI, 4, .inl s13.2.2.2.2.1)), (h_best, .inl (cI, 4, .inl s13.2.2.2.2.2))]) (ws' := [(h, .inr (1, [.ref h_steps, .ref h_tried, .ref h_best, .int s13.2.1])), (h_steps, .inl (cR, 4, .inr (.inr (.inr (.inr (fun j => some (h_steps_r j))))))), ((h_steps_r 2), .inr (3, [.ref (h_steps_a 2)])), ((h_steps_a 2), .inl (cI, 352, .inl s13.2.2.1)), ((h_steps_r 3), .inr (3, [.ref (h_steps_a 3)])), ((h_steps_a 3), .inl (cI, 352, .inl s13.2.2.2.1)), (h_tried, .inl (cI, 4, .inl s13.2.2.2.2.1)), (h_best, .inl (cI, 4, .inl s13.2.2.2.2.2)), (a0, .inr (3, [.ref a0_numbers])), (a0_numbers, .inl (cI, 352, .inl f_a0_numbers))]) dX1_tryOrders_55 pkX3_get gX1_tryOrders_X3_get (kkX3_get l D cI cR a0 a0_numbers f_a0_numbers 1 v23 h24) ⟨rfl, rfl⟩ ⟨Nat.le_of_ble_eq_true rfl, Nat.le_of_ble_eq_true rfl⟩ rfl rfl (Nat.le_of_ble_eq_true rfl) 0 rfl rfl [8, 9] [0, 1, 2, 3, 4, 5, 6, 7] rfl rfl ⟨rfl, rfl, by decide⟩ ⟨Nat.zero_le _, Nat.zero_le _⟩ [0, 1, 2, 3, 4, 5, 6, 7, 8, 9] rfl rfl ?_
    refine G_icmp_ge X (tgt := 117) dX1_tryOrders_58 (by decide) (fun h26 => ?_) (fun h26 => ?_)
    · have h27 := ifp h26 h25
      cases h27
      have h28 := h19 _ rfl
      subst h28
      exact G_lv [] rfl (J21)
    · have h29 := ifn h26 h25
      refine G_aload_n X dX1_tryOrders_61 1 rfl ?_
      refine G_iload X dX1_tryOrders_62 6 rfl ?_
      obtain ⟨v30, h31, h32⟩ := bnd h29
      refine G1_calli X (As := [.int s13.1]) (rest := []) (wr := [(h, .inr (1, [.ref h_steps, .ref h_tried, .ref h_best, .int s13.2.1])), (h_steps, .inl (cR, 4, .inr (.inr (.inr (.inr (fun j => some (h_steps_r j))))))), ((h_steps_r 2), .inr (3, [.ref (h_steps_a 2)])), ((h_steps_a 2), .inl (cI, 352, .inl s13.2.2.1)), ((h_steps_r 3), .inr (3, [.ref (h_steps_a 3)])), ((h_steps_a 3), .inl (cI, 352, .inl s13.2.2.2.1)), (h_tried, .inl (cI, 4, .inl s13.2.2.2.2.1)), (h_best, .inl (cI, 4, .inl s13.2.2.2.2.2))]) (ws' := [(h, .inr (1, [.ref h_steps, .ref h_tried, .ref h_best, .int s13.2.1])), (h_steps, .inl (cR, 4, .inr (.inr (.inr (.inr (fun j => some (h_steps_r j))))))), ((h_steps_r 2), .inr (3, [.ref (h_steps_a 2)])), ((h_steps_a 2), .inl (cI, 352, .inl s13.2.2.1)), ((h_steps_r 3), .inr (3, [.ref (h_steps_a 3)])), ((h_steps_a 3), .inl (cI, 352, .inl s13.2.2.2.1)), (h_tried, .inl (cI, 4, .inl s13.2.2.2.2.1)), (h_best, .inl (cI, 4, .inl s13.2.2.2.2.2)), (a0, .inr (3, [.ref a0_numbers])), (a0_numbers, .inl (cI, 352, .inl f_a0_numbers))]) dX1_tryOrders_64 pkX3_lives gX1_tryOrders_X3_lives (kkX3_lives l D cI cR a0 a0_numbers f_a0_numbers s13.1 v30 h31) ⟨rfl, rfl⟩ ⟨Nat.le_of_ble_eq_true rfl, Nat.le_of_ble_eq_true rfl⟩ rfl rfl (Nat.le_of_ble_eq_true rfl) 0 rfl rfl [8, 9] [0, 1, 2, 3, 4, 5, 6, 7] rfl rfl ⟨rfl, rfl, by decide⟩ ⟨Nat.zero_le _, Nat.zero_le _⟩ [0, 1, 2, 3, 4, 5, 6, 7, 8, 9] rfl rfl ?_
      refine G_if_ne X (tgt := 111) dX1_tryOrders_67 (by decide) (fun h33 => ?_) (fun h33 => ?_)
      · have h34 := ifp h33 h32
        refine G_iload X dX1_tryOrders_70 5 rfl ?_
        refine G_aload_n X dX1_tryOrders_72 0 rfl ?_
        refine G_get X (i0 := 0) (ci := 1) (j := 3) (C := RX1) (ref := RX1) (T := TX1) (N := 4) dX1_tryOrders_73 rfl rfl hiX1_tryOrders_2_X1 (by decide) flX1_tryOrders_2_25 rfl rfl ?_
        refine G_icmp_le X (tgt := 111) dX1_tryOrders_76 (by decide) (fun h35 => ?_) (fun h35 => ?_)
        · have h36 := ifp h35 h34
          refine G_iinc X (v := (s13.1 + 1)) (lv' := [(6, .int (s13.1 + 1)), (0, .ref h), (1, .ref a0), (2, .int 2), (3, .int x2), (4, .ref (h_steps_r 2)), (5, .int (x2 + v10))]) dX1_tryOrders_111 6 rfl rfl (by decide) rfl ?_
          refine G_goto X (tgt := 51) dX1_tryOrders_114 (by decide) ?_
          cases h36
          exact G_lv [1, 2, 3, 4, 5, 6, 0] rfl (h18 _ rfl)
        · have h37 := ifn h35 h34
          refine G_aload X dX1_tryOrders_79 4 rfl ?_
          refine G_aload_n X dX1_tryOrders_81 1 rfl ?_
          obtain ⟨v38, h39, h40⟩ := bnd h37
          refine G1_callv X (As := [.ref a0]) (rest := []) (wr := [(h, .inr (1, [.ref h_steps, .ref h_tried, .ref h_best, .int s13.2.1])), (h_steps, .inl (cR, 4, .inr (.inr (.inr (.inr (fun j => some (h_steps_r j))))))), ((h_steps_r 3), .inr (3, [.ref (h_steps_a 3)])), ((h_steps_a 3), .inl (cI, 352, .inl s13.2.2.2.1)), (h_tried, .inl (cI, 4, .inl s13.2.2.2.2.1)), (h_best, .inl (cI, 4, .inl s13.2.2.2.2.2))]) (ws' := [(h, .inr (1, [.ref h_steps, .ref h_tried, .ref h_best, .int s13.2.1])), (h_steps, .inl (cR, 4, .inr (.inr (.inr (.inr (fun j => some (h_steps_r j))))))), ((h_steps_r 2), .inr (3, [.ref (h_steps_a 2)])), ((h_steps_a 2), .inl (cI, 352, .inl v38)), ((h_steps_r 3), .inr (3, [.ref (h_steps_a 3)])), ((h_steps_a 3), .inl (cI, 352, .inl s13.2.2.2.1)), (h_tried, .inl (cI, 4, .inl s13.2.2.2.2.1)), (h_best, .inl (cI, 4, .inl s13.2.2.2.2.2)), (a0, .inr (3, [.ref a0_numbers])), (a0_numbers, .inl (cI, 352, .inl f_a0_numbers))]) dX1_tryOrders_82 pkX3_copyFrom gX1_tryOrders_X3_copyFrom (kkX3_copyFrom l D cI cR (h_steps_r 2) (h_steps_a 2) a0 a0_numbers s13.2.2.1 f_a0_numbers v38 h39) ⟨rfl, rfl⟩ ⟨Nat.le_of_ble_eq_true rfl, Nat.le_of_ble_eq_true rfl⟩ rfl rfl (Nat.le_of_ble_eq_true rfl) 0 rfl rfl [2, 3, 8, 9] [0, 1, 4, 5, 6, 7] rfl rfl ⟨rfl, rfl, by decide⟩ ⟨Nat.zero_le _, Nat.zero_le _⟩ [0, 1, 6, 7, 2, 3, 4, 5, 8, 9] rfl rfl ?_
          refine G_aload_n X dX1_tryOrders_85 0 rfl ?_
          refine G_get X (i0 := 0) (ci := 1) (j := 1) (C := RX1) (ref := RX1) (T := TX1) (N := 4) dX1_tryOrders_86 rfl rfl hiX1_tryOrders_2_X1 (by decide) flX1_tryOrders_2_18 rfl rfl ?_
          refine G_iload_n X dX1_tryOrders_89 2 rfl ?_
          refine G_iload X dX1_tryOrders_90 6 rfl ?_
          obtain ⟨g41, h42, h43⟩ := bnd h40
          refine G_iast X (i0 := 6) (ws' := [(h, .inr (1, [.ref h_steps, .ref h_tried, .ref h_best, .int s13.2.1])), (h_steps, .inl (cR, 4, .inr (.inr (.inr (.inr (fun j => some (h_steps_r j))))))), ((h_steps_r 2), .inr (3, [.ref (h_steps_a 2)])), ((h_steps_a 2), .inl (cI, 352, .inl v38)), ((h_steps_r 3), .inr (3, [.ref (h_steps_a 3)])), ((h_steps_a 3), .inl (cI, 352, .inl s13.2.2.2.1)), (h_tried, .inl (cI, 4, .inl g41)), (h_best, .inl (cI, 4, .inl s13.2.2.2.2.2)), (a0, .inr (3, [.ref a0_numbers])), (a0_numbers, .inl (cI, 352, .inl f_a0_numbers))]) dX1_tryOrders_92 rfl h42 rfl ?_
          refine G_aload_n X dX1_tryOrders_93 0 rfl ?_
          refine G_aload X dX1_tryOrders_94 4 rfl ?_
          refine G_iload_n X dX1_tryOrders_96 2 rfl ?_
          refine G_iconst X (v := 1) dX1_tryOrders_97 (by decide) ?_
          refine G_iaddv X (v := 3) dX1_tryOrders_98 (by decide) ?_
          refine G_iload_n X dX1_tryOrders_99 3 rfl ?_
          refine G_aload X dX1_tryOrders_100 4 rfl ?_
          refine G_iload X dX1_tryOrders_102 6 rfl ?_
          obtain ⟨v44, h45, h46⟩ := bnd h43
          refine G1_calli X (As := [.int s13.1]) (rest := [.int x2, .int 3, .ref (h_steps_r 2), .ref h]) (wr := [(h, .inr (1, [.ref h_steps, .ref h_tried, .ref h_best, .int s13.2.1])), (h_steps, .inl (cR, 4, .inr (.inr (.inr (.inr (fun j => some (h_steps_r j))))))), ((h_steps_r 3), .inr (3, [.ref (h_steps_a 3)])), ((h_steps_a 3), .inl (cI, 352, .inl s13.2.2.2.1)), (h_tried, .inl (cI, 4, .inl g41)), (h_best, .inl (cI, 4, .inl s13.2.2.2.2.2)), (a0, .inr (3, [.ref a0_numbers])), (a0_numbers, .inl (cI, 352, .inl f_a0_numbers))]) (ws' := [(h, .inr (1, [.ref h_steps, .ref h_tried, .ref h_best, .int s13.2.1])), (h_steps, .inl (cR, 4, .inr (.inr (.inr (.inr (fun j => some (h_steps_r j))))))), ((h_steps_r 2), .inr (3, [.ref (h_steps_a 2)])), ((h_steps_a 2), .inl (cI, 352, .inl v44.2)), ((h_steps_r 3), .inr (3, [.ref (h_steps_a 3)])), ((h_steps_a 3), .inl (cI, 352, .inl s13.2.2.2.1)), (h_tried, .inl (cI, 4, .inl g41)), (h_best, .inl (cI, 4, .inl s13.2.2.2.2.2)), (a0, .inr (3, [.ref a0_numbers])), (a0_numbers, .inl (cI, 352, .inl f_a0_numbers))]) dX1_tryOrders_104 pkX3_mendRow gX1_tryOrders_X3_mendRow (kkX3_mendRow l D cI cR (h_steps_r 2) (h_steps_a 2) v38 s13.1 v44 h45) ⟨rfl, rfl⟩ ⟨Nat.le_of_ble_eq_true rfl, Nat.le_of_ble_eq_true rfl⟩ rfl rfl (Nat.le_of_ble_eq_true rfl) 0 rfl rfl [2, 3] [0, 1, 4, 5, 6, 7, 8, 9] rfl rfl ⟨rfl, rfl, by decide⟩ ⟨Nat.zero_le _, Nat.zero_le _⟩ [0, 1, 8, 9, 2, 3, 4, 5, 6, 7] rfl rfl ?_
          refine G_iadd X dX1_tryOrders_107 ?_
          obtain ⟨v47, h48, h49⟩ := bnd h46
          refine G1_callv X (As := [.ref (h_steps_r 2), .int 3, .int (x2 + v44.1)]) (rest := []) (wr := [(a0, .inr (3, [.ref a0_numbers])), (a0_numbers, .inl (cI, 352, .inl f_a0_numbers))]) (ws' := [(h, .inr (1, [.ref h_steps, .ref h_tried, .ref h_best, .int v47.1])), (h_steps, .inl (cR, 4, .inr (.inr (.inr (.inr (fun j => some (h_steps_r j))))))), ((h_steps_r 2), .inr (3, [.ref (h_steps_a 2)])), ((h_steps_a 2), .inl (cI, 352, .inl v44.2)), ((h_steps_r 3), .inr (3, [.ref (h_steps_a 3)])), ((h_steps_a 3), .inl (cI, 352, .inl v47.2.1)), (h_tried, .inl (cI, 4, .inl v47.2.2.1)), (h_best, .inl (cI, 4, .inl v47.2.2.2)), (a0, .inr (3, [.ref a0_numbers])), (a0_numbers, .inl (cI, 352, .inl f_a0_numbers))]) dX1_tryOrders_108 pkX1_tryOrders_3 gX1_tryOrders_X1_tryOrders (kkX1_tryOrders_3 l D cI cR h h_steps h_tried h_best (h_steps_r 2) (h_steps_a 2) h_steps_r h_steps_a s13.2.1 s13.2.2.2.1 g41 s13.2.2.2.2.2 v44.2 (x2 + v44.1) v47 h48) ⟨rfl, rfl⟩ ⟨Nat.le_of_ble_eq_true rfl, Nat.le_of_ble_eq_true rfl⟩ rfl rfl (Nat.le_of_ble_eq_true rfl) 0 rfl rfl [0, 1, 4, 5, 6, 7, 2, 3] [8, 9] rfl rfl ⟨rfl, rfl, by decide⟩ ⟨Nat.zero_le _, Nat.zero_le _⟩ [2, 3, 8, 9, 4, 5, 6, 7, 0, 1] rfl rfl ?_
          refine G_iinc X (v := (s13.1 + 1)) (lv' := [(6, .int (s13.1 + 1)), (0, .ref h), (1, .ref a0), (2, .int 2), (3, .int x2), (4, .ref (h_steps_r 2)), (5, .int (x2 + v10))]) dX1_tryOrders_111 6 rfl rfl (by decide) rfl ?_
          refine G_goto X (tgt := 51) dX1_tryOrders_114 (by decide) ?_
          cases h49
          exact G_lv [1, 2, 3, 4, 5, 6, 0] rfl (h18 _ rfl)
      · have h50 := ifn h33 h32
        refine G_iinc X (v := (s13.1 + 1)) (lv' := [(6, .int (s13.1 + 1)), (0, .ref h), (1, .ref a0), (2, .int 2), (3, .int x2), (4, .ref (h_steps_r 2)), (5, .int (x2 + v10))]) dX1_tryOrders_111 6 rfl rfl (by decide) rfl ?_
        refine G_goto X (tgt := 51) dX1_tryOrders_114 (by decide) ?_
        cases h50
        exact G_lv [1, 2, 3, 4, 5, 6, 0] rfl (h18 _ rfl)
def rmX1_tryOrders_1 : Room := { frames := 7, cells := 0, slots := 0, locals := 242 }
theorem pkX1_tryOrders_1 : cK yX1_tryOrders wsX1_tryOrders cX1_tryOrders 7 none 3 RX1 := ⟨⟨_, rfl⟩, by decide +kernel⟩
theorem hiX1_tryOrders_1_X1 : ∀ w ∈ wsX10, w ∈ wsX1_tryOrders := by decide +kernel
theorem flX1_tryOrders_1_13 : Cond.fieldLink RX1 13 "EchoMargins$Mending" "steps" "[LEchoMargins$Ring;" ∈ wsX1_tryOrders := by decide +kernel
theorem flX1_tryOrders_1_25 : Cond.fieldLink RX1 25 "EchoMargins$Mending" "sum" "I" ∈ wsX1_tryOrders := by decide +kernel
theorem flX1_tryOrders_1_18 : Cond.fieldLink RX1 18 "EchoMargins$Mending" "tried" "[I" ∈ wsX1_tryOrders := by decide +kernel
set_option maxHeartbeats 4000000 in
set_option maxRecDepth 100000 in
theorem kkX1_tryOrders_1 (l : Launch) (D : va_G) (cI cR : ClassId) (h h_steps h_tried h_best a0 a0_numbers : Nat) (h_steps_r h_steps_a : Nat → Nat) (i_h_sum : Int32) (f_h_steps_1 : Nat → Int32) (f_h_steps_2 : Nat → Int32) (f_h_steps_3 : Nat → Int32) (f_h_tried : Nat → Int32) (f_h_best : Nat → Int32) (f_a0_numbers : Nat → Int32) (x2 : Int32) (z : (Int32 × (Nat → Int32) × (Nat → Int32) × (Nat → Int32) × (Nat → Int32) × (Nat → Int32))) (hz : MX1_tryOrders_1 i_h_sum f_h_steps_1 f_h_steps_2 f_h_steps_3 f_h_tried f_h_best f_a0_numbers x2 = some z) : cV1 l yX1_tryOrders wsX1_tryOrders rmX1_tryOrders_1 D cI cR [.ref h, .ref a0, .int 1, .int x2] [(h, .inr (1, [.ref h_steps, .ref h_tried, .ref h_best, .int i_h_sum])), (h_steps, .inl (cR, 4, .inr (.inr (.inr (.inr (fun j => some (h_steps_r j))))))), ((h_steps_r 1), .inr (3, [.ref (h_steps_a 1)])), ((h_steps_a 1), .inl (cI, 352, .inl f_h_steps_1)), ((h_steps_r 2), .inr (3, [.ref (h_steps_a 2)])), ((h_steps_a 2), .inl (cI, 352, .inl f_h_steps_2)), ((h_steps_r 3), .inr (3, [.ref (h_steps_a 3)])), ((h_steps_a 3), .inl (cI, 352, .inl f_h_steps_3)), (h_tried, .inl (cI, 4, .inl f_h_tried)), (h_best, .inl (cI, 4, .inl f_h_best)), (a0, .inr (3, [.ref a0_numbers])), (a0_numbers, .inl (cI, 352, .inl f_a0_numbers))] [(h, .inr (1, [.ref h_steps, .ref h_tried, .ref h_best, .int z.1])), (h_steps, .inl (cR, 4, .inr (.inr (.inr (.inr (fun j => some (h_steps_r j))))))), ((h_steps_r 1), .inr (3, [.ref (h_steps_a 1)])), ((h_steps_a 1), .inl (cI, 352, .inl z.2.1)), ((h_steps_r 2), .inr (3, [.ref (h_steps_a 2)])), ((h_steps_a 2), .inl (cI, 352, .inl z.2.2.1)), ((h_steps_r 3), .inr (3, [.ref (h_steps_a 3)])), ((h_steps_a 3), .inl (cI, 352, .inl z.2.2.2.1)), (h_tried, .inl (cI, 4, .inl z.2.2.2.2.1)), (h_best, .inl (cI, 4, .inl z.2.2.2.2.2)), (a0, .inr (3, [.ref a0_numbers])), (a0_numbers, .inl (cI, 352, .inl f_a0_numbers))] := by
  unfold MX1_tryOrders_1 at hz
  refine kV_of (cc := cX1_tryOrders) (maxL := 7) (own := RX1) (by decide +kernel) rfl rfl (Nat.le_of_ble_eq_true rfl) (lv0 := [(0, .ref h), (1, .ref a0), (2, .int 1), (3, .int x2)]) rfl (fun p e s m args below meth c A Q X rt => ?_)
  refine G_aload_n X dX1_tryOrders_0 1 rfl ?_
  obtain ⟨v1, h2, h3⟩ := bnd hz
  refine G1_callsi X (As := [.ref a0]) (rest := []) (wr := [(h, .inr (1, [.ref h_steps, .ref h_tried, .ref h_best, .int i_h_sum])), (h_steps, .inl (cR, 4, .inr (.inr (.inr (.inr (fun j => some (h_steps_r j))))))), ((h_steps_r 1), .inr (3, [.ref (h_steps_a 1)])), ((h_steps_a 1), .inl (cI, 352, .inl f_h_steps_1)), ((h_steps_r 2), .inr (3, [.ref (h_steps_a 2)])), ((h_steps_a 2), .inl (cI, 352, .inl f_h_steps_2)), ((h_steps_r 3), .inr (3, [.ref (h_steps_a 3)])), ((h_steps_a 3), .inl (cI, 352, .inl f_h_steps_3)), (h_tried, .inl (cI, 4, .inl f_h_tried)), (h_best, .inl (cI, 4, .inl f_h_best))]) (ws' := [(h, .inr (1, [.ref h_steps, .ref h_tried, .ref h_best, .int i_h_sum])), (h_steps, .inl (cR, 4, .inr (.inr (.inr (.inr (fun j => some (h_steps_r j))))))), ((h_steps_r 1), .inr (3, [.ref (h_steps_a 1)])), ((h_steps_a 1), .inl (cI, 352, .inl f_h_steps_1)), ((h_steps_r 2), .inr (3, [.ref (h_steps_a 2)])), ((h_steps_a 2), .inl (cI, 352, .inl f_h_steps_2)), ((h_steps_r 3), .inr (3, [.ref (h_steps_a 3)])), ((h_steps_a 3), .inl (cI, 352, .inl f_h_steps_3)), (h_tried, .inl (cI, 4, .inl f_h_tried)), (h_best, .inl (cI, 4, .inl f_h_best)), (a0, .inr (3, [.ref a0_numbers])), (a0_numbers, .inl (cI, 352, .inl f_a0_numbers))]) dX1_tryOrders_1 pkX1_lostRows gX1_tryOrders_X1_lostRows (kkX1_lostRows l D cI cR a0 a0_numbers f_a0_numbers v1 h2) ⟨rfl, rfl⟩ ⟨Nat.le_of_ble_eq_true rfl, Nat.le_of_ble_eq_true rfl⟩ rfl rfl (Nat.le_of_ble_eq_true rfl) [10, 11] [0, 1, 2, 3, 4, 5, 6, 7, 8, 9] rfl rfl ⟨rfl, rfl, by decide⟩ ⟨Nat.zero_le _, Nat.zero_le _⟩ [0, 1, 2, 3, 4, 5, 6, 7, 8, 9, 10, 11] rfl rfl ?_
  refine G_if_ne X (tgt := 13) dX1_tryOrders_4 (by decide) (fun h4 => ?_) (fun h4 => ?_)
  · have h5 := ifp h4 h3
    refine G_aload_n X dX1_tryOrders_7 0 rfl ?_
    refine G_iload_n X dX1_tryOrders_8 3 rfl ?_
    obtain ⟨v6, h7, h8⟩ := bnd h5
    refine G1_callv X (As := [.int x2]) (rest := []) (wr := [(h_steps, .inl (cR, 4, .inr (.inr (.inr (.inr (fun j => some (h_steps_r j))))))), ((h_steps_r 1), .inr (3, [.ref (h_steps_a 1)])), ((h_steps_a 1), .inl (cI, 352, .inl f_h_steps_1)), ((h_steps_r 2), .inr (3, [.ref (h_steps_a 2)])), ((h_steps_a 2), .inl (cI, 352, .inl f_h_steps_2)), ((h_steps_r 3), .inr (3, [.ref (h_steps_a 3)])), ((h_steps_a 3), .inl (cI, 352, .inl f_h_steps_3)), (a0, .inr (3, [.ref a0_numbers])), (a0_numbers, .inl (cI, 352, .inl f_a0_numbers))]) (ws' := [(h, .inr (1, [.ref h_steps, .ref h_tried, .ref h_best, .int v6.1])), (h_steps, .inl (cR, 4, .inr (.inr (.inr (.inr (fun j => some (h_steps_r j))))))), ((h_steps_r 1), .inr (3, [.ref (h_steps_a 1)])), ((h_steps_a 1), .inl (cI, 352, .inl f_h_steps_1)), ((h_steps_r 2), .inr (3, [.ref (h_steps_a 2)])), ((h_steps_a 2), .inl (cI, 352, .inl f_h_steps_2)), ((h_steps_r 3), .inr (3, [.ref (h_steps_a 3)])), ((h_steps_a 3), .inl (cI, 352, .inl f_h_steps_3)), (h_tried, .inl (cI, 4, .inl f_h_tried)), (h_best, .inl (cI, 4, .inl v6.2)), (a0, .inr (3, [.ref a0_numbers])), (a0_numbers, .inl (cI, 352, .inl f_a0_numbers))]) dX1_tryOrders_9 pkX1_keepIfBetter gX1_tryOrders_X1_keepIfBetter (kkX1_keepIfBetter l D cI cR h h_steps h_tried h_best i_h_sum f_h_tried f_h_best x2 v6 h7) ⟨rfl, rfl⟩ ⟨Nat.le_of_ble_eq_true rfl, Nat.le_of_ble_eq_true rfl⟩ rfl rfl (Nat.le_of_ble_eq_true rfl) 0 rfl rfl [0, 8, 9] [1, 2, 3, 4, 5, 6, 7, 10, 11] rfl rfl ⟨rfl, rfl, by decide⟩ ⟨Nat.zero_le _, Nat.zero_le _⟩ [9, 0, 1, 2, 3, 4, 5, 6, 10, 11, 7, 8] rfl rfl ?_
    cases h8
    exact rt _ _ _ dX1_tryOrders_12 rfl
  · have h9 := ifn h4 h3
    refine G_iload_n X dX1_tryOrders_13 2 rfl ?_
    refine G_if_lt X (tgt := 31) dX1_tryOrders_14 (by decide) (fun q => absurd q (by decide)) (fun _ => ?_)
    refine G_iload_n X dX1_tryOrders_17 2 rfl ?_
    refine G_iconst X (v := 4) dX1_tryOrders_18 (by decide) ?_
    refine G_icmp_ge X (tgt := 31) dX1_tryOrders_19 (by decide) (fun q => absurd q (by decide)) (fun _ => ?_)
    refine G_aload_n X dX1_tryOrders_22 0 rfl ?_
    refine G_get X (i0 := 0) (ci := 1) (j := 0) (C := RX1) (ref := RX1) (T := TX1) (N := 4) dX1_tryOrders_23 rfl rfl hiX1_tryOrders_1_X1 (by decide) flX1_tryOrders_1_13 rfl rfl ?_
    refine G_iload_n X dX1_tryOrders_26 2 rfl ?_
    refine G_aald X (i0 := 1) (b := h_steps_r 1) (j := 1) dX1_tryOrders_27 rfl (by decide) (by decide) rfl ?_
    refine G_ifnonnull X (tgt := 32) dX1_tryOrders_28 (by decide) ?_
    refine G_aload_n X dX1_tryOrders_32 0 rfl ?_
    refine G_get X (i0 := 0) (ci := 1) (j := 0) (C := RX1) (ref := RX1) (T := TX1) (N := 4) dX1_tryOrders_33 rfl rfl hiX1_tryOrders_1_X1 (by decide) flX1_tryOrders_1_13 rfl rfl ?_
    refine G_iload_n X dX1_tryOrders_36 2 rfl ?_
    refine G_aald X (i0 := 1) (b := h_steps_r 1) (j := 1) dX1_tryOrders_37 rfl (by decide) (by decide) rfl ?_
    refine G_astore X (lv' := [(4, .ref (h_steps_r 1)), (0, .ref h), (1, .ref a0), (2, .int 1), (3, .int x2)]) dX1_tryOrders_38 (by decide) rfl ?_
    refine G_iload_n X dX1_tryOrders_40 4 rfl ?_
    refine G_aload_n X dX1_tryOrders_41 2 rfl ?_
    obtain ⟨v10, h11, h12⟩ := bnd h9
    refine G1_callsi X (As := [.ref a0]) (rest := [.int x2]) (wr := [(h, .inr (1, [.ref h_steps, .ref h_tried, .ref h_best, .int i_h_sum])), (h_steps, .inl (cR, 4, .inr (.inr (.inr (.inr (fun j => some (h_steps_r j))))))), ((h_steps_r 1), .inr (3, [.ref (h_steps_a 1)])), ((h_steps_a 1), .inl (cI, 352, .inl f_h_steps_1)), ((h_steps_r 2), .inr (3, [.ref (h_steps_a 2)])), ((h_steps_a 2), .inl (cI, 352, .inl f_h_steps_2)), ((h_steps_r 3), .inr (3, [.ref (h_steps_a 3)])), ((h_steps_a 3), .inl (cI, 352, .inl f_h_steps_3)), (h_tried, .inl (cI, 4, .inl f_h_tried)), (h_best, .inl (cI, 4, .inl f_h_best))]) (ws' := [(h, .inr (1, [.ref h_steps, .ref h_tried, .ref h_best, .int i_h_sum])), (h_steps, .inl (cR, 4, .inr (.inr (.inr (.inr (fun j => some (h_steps_r j))))))), ((h_steps_r 1), .inr (3, [.ref (h_steps_a 1)])), ((h_steps_a 1), .inl (cI, 352, .inl f_h_steps_1)), ((h_steps_r 2), .inr (3, [.ref (h_steps_a 2)])), ((h_steps_a 2), .inl (cI, 352, .inl f_h_steps_2)), ((h_steps_r 3), .inr (3, [.ref (h_steps_a 3)])), ((h_steps_a 3), .inl (cI, 352, .inl f_h_steps_3)), (h_tried, .inl (cI, 4, .inl f_h_tried)), (h_best, .inl (cI, 4, .inl f_h_best)), (a0, .inr (3, [.ref a0_numbers])), (a0_numbers, .inl (cI, 352, .inl f_a0_numbers))]) dX1_tryOrders_42 pkX1_stillComing gX1_tryOrders_X1_stillComing (kkX1_stillComing l D cI cR a0 a0_numbers f_a0_numbers v10 h11) ⟨rfl, rfl⟩ ⟨Nat.le_of_ble_eq_true rfl, Nat.le_of_ble_eq_true rfl⟩ rfl rfl (Nat.le_of_ble_eq_true rfl) [10, 11] [0, 1, 2, 3, 4, 5, 6, 7, 8, 9] rfl rfl ⟨rfl, rfl, by decide⟩ ⟨Nat.zero_le _, Nat.zero_le _⟩ [0, 1, 2, 3, 4, 5, 6, 7, 8, 9, 10, 11] rfl rfl ?_
    refine G_iadd X dX1_tryOrders_45 ?_
    refine G_istore X (lv' := [(5, .int (x2 + v10)), (4, .ref (h_steps_r 1)), (0, .ref h), (1, .ref a0), (2, .int 1), (3, .int x2)]) dX1_tryOrders_46 (by decide) rfl ?_
    refine G_iconst X (v := 0) dX1_tryOrders_48 (by decide) ?_
    refine G_istore X (lv' := [(6, .int 0), (5, .int (x2 + v10)), (4, .ref (h_steps_r 1)), (0, .ref h), (1, .ref a0), (2, .int 1), (3, .int x2)]) dX1_tryOrders_49 (by decide) rfl ?_
    obtain ⟨j14, h15, h16⟩ := bnd h12
    have J21 : G p l e rmX1_tryOrders_1 s m args below meth c D A 7 Q 0 0 117 [] [] [(h, .inr (1, [.ref h_steps, .ref h_tried, .ref h_best, .int j14.1])), (h_steps, .inl (cR, 4, .inr (.inr (.inr (.inr (fun j => some (h_steps_r j))))))), ((h_steps_r 1), .inr (3, [.ref (h_steps_a 1)])), ((h_steps_a 1), .inl (cI, 352, .inl j14.2.1)), ((h_steps_r 2), .inr (3, [.ref (h_steps_a 2)])), ((h_steps_a 2), .inl (cI, 352, .inl j14.2.2.1)), ((h_steps_r 3), .inr (3, [.ref (h_steps_a 3)])), ((h_steps_a 3), .inl (cI, 352, .inl j14.2.2.2.1)), (h_tried, .inl (cI, 4, .inl j14.2.2.2.2.1)), (h_best, .inl (cI, 4, .inl j14.2.2.2.2.2)), (a0, .inr (3, [.ref a0_numbers])), (a0_numbers, .inl (cI, 352, .inl f_a0_numbers))] := by
      cases h16
      exact rt _ _ _ dX1_tryOrders_117 rfl
    refine G_lv [3, 4, 5, 6, 2, 1, 0] rfl ?_
    refine itr_ind (P := fun s13 : (Int32 × Int32 × (Nat → Int32) × (Nat → Int32) × (Nat → Int32) × (Nat → Int32) × (Nat → Int32)) => G p l e rmX1_tryOrders_1 s m args below meth c D A 7 Q 0 0 51 [(0, .ref h), (1, .ref a0), (2, .int 1), (3, .int x2), (4, .ref (h_steps_r 1)), (5, .int (x2 + v10)), (6, .int s13.1)] [] [(h, .inr (1, [.ref h_steps, .ref h_tried, .ref h_best, .int s13.2.1])), (h_steps, .inl (cR, 4, .inr (.inr (.inr (.inr (fun j => some (h_steps_r j))))))), ((h_steps_r 1), .inr (3, [.ref (h_steps_a 1)])), ((h_steps_a 1), .inl (cI, 352, .inl s13.2.2.1)), ((h_steps_r 2), .inr (3, [.ref (h_steps_a 2)])), ((h_steps_a 2), .inl (cI, 352, .inl s13.2.2.2.1)), ((h_steps_r 3), .inr (3, [.ref (h_steps_a 3)])), ((h_steps_a 3), .inl (cI, 352, .inl s13.2.2.2.2.1)), (h_tried, .inl (cI, 4, .inl s13.2.2.2.2.2.1)), (h_best, .inl (cI, 4, .inl s13.2.2.2.2.2.2)), (a0, .inr (3, [.ref a0_numbers])), (a0_numbers, .inl (cI, 352, .inl f_a0_numbers))]) (fun s13 o20 h17 h18 h19 => ?_) FU _ h15
    unfold SX1_tryOrders_1_51 at h17
    refine G_iload X dX1_tryOrders_51 6 rfl ?_
    refine G_aload_n X dX1_tryOrders_53 1 rfl ?_
    refine G_iconst X (v := 1) dX1_tryOrders_54 (by decide) ?_
    obtain ⟨v23, h24, h25⟩ := bnd h17
    refine G1_calli X (As := [.int 1]) (rest := [.int s13.1]) (wr := [(h, .inr (1, [.ref h_steps, .ref h_tried, .ref h_best, .int s13.2.1])), (h_steps, .inl (cR, 4, .inr (.inr (.inr (.inr (fun j => some (h_steps_r j))))))), ((h_steps_r 1), .inr (3, [.ref (h_steps_a 1)])), ((h_steps_a 1), .inl (cI, 352, .inl s13.2.2.1)), ((h_steps_r 2), .inr (3, [.ref (h_steps_a 2)])), ((h_steps_a 2), .inl (cI, 352, .inl s13.2.2.2.1)), ((h_steps_r 3), .inr (3, [.ref (h_steps_a 3)])), ((h_steps_a 3), .inl (cI, 352, .inl s13.2.2.2.2.1)), (h_tried, .inl (cI, 4, .inl s13.2.2.2.2.2.1)), (h_best, .inl (cI, 4, .inl s13.2.2.2.2.2.2))]) (ws' := [(h, .inr (1, [.ref h_steps, .ref h_tried, .ref h_best, .int s13.2.1])), (h_steps, .inl (cR, 4, .inr (.inr (.inr (.inr (fun j => some (h_steps_r j))))))), ((h_steps_r 1), .inr (3, [.ref (h_steps_a 1)])), ((h_steps_a 1), .inl (cI, 352, .inl s13.2.2.1)), ((h_steps_r 2), .inr (3, [.ref (h_steps_a 2)])), ((h_steps_a 2), .inl (cI, 352, .inl s13.2.2.2.1)), ((h_steps_r 3), .inr (3, [.ref (h_steps_a 3)])), ((h_steps_a 3), .inl (cI, 352, .inl s13.2.2.2.2.1)), (h_tried, .inl (cI, 4, .inl s13.2.2.2.2.2.1)), (h_best, .inl (cI, 4, .inl s13.2.2.2.2.2.2)), (a0, .inr (3, [.ref a0_numbers])), (a0_numbers, .inl (cI, 352, .inl f_a0_numbers))]) dX1_tryOrders_55 pkX3_get gX1_tryOrders_X3_get (kkX3_get l D cI cR a0 a0_numbers f_a0_numbers 1 v23 h24) ⟨rfl, rfl⟩ ⟨Nat.le_of_ble_eq_true rfl, Nat.le_of_ble_eq_true rfl⟩ rfl rfl (Nat.le_of_ble_eq_true rfl) 0 rfl rfl [10, 11] [0, 1, 2, 3, 4, 5, 6, 7, 8, 9] rfl rfl ⟨rfl, rfl, by decide⟩ ⟨Nat.zero_le _, Nat.zero_le _⟩ [0, 1, 2, 3, 4, 5, 6, 7, 8, 9, 10, 11] rfl rfl ?_
    refine G_icmp_ge X (tgt := 117) dX1_tryOrders_58 (by decide) (fun h26 => ?_) (fun h26 => ?_)
    · have h27 := ifp h26 h25
      cases h27
      have h28 := h19 _ rfl
      subst h28
      exact G_lv [] rfl (J21)
    · have h29 := ifn h26 h25
      refine G_aload_n X dX1_tryOrders_61 1 rfl ?_
      refine G_iload X dX1_tryOrders_62 6 rfl ?_
      obtain ⟨v30, h31, h32⟩ := bnd h29
      refine G1_calli X (As := [.int s13.1]) (rest := []) (wr := [(h, .inr (1, [.ref h_steps, .ref h_tried, .ref h_best, .int s13.2.1])), (h_steps, .inl (cR, 4, .inr (.inr (.inr (.inr (fun j => some (h_steps_r j))))))), ((h_steps_r 1), .inr (3, [.ref (h_steps_a 1)])), ((h_steps_a 1), .inl (cI, 352, .inl s13.2.2.1)), ((h_steps_r 2), .inr (3, [.ref (h_steps_a 2)])), ((h_steps_a 2), .inl (cI, 352, .inl s13.2.2.2.1)), ((h_steps_r 3), .inr (3, [.ref (h_steps_a 3)])), ((h_steps_a 3), .inl (cI, 352, .inl s13.2.2.2.2.1)), (h_tried, .inl (cI, 4, .inl s13.2.2.2.2.2.1)), (h_best, .inl (cI, 4, .inl s13.2.2.2.2.2.2))]) (ws' := [(h, .inr (1, [.ref h_steps, .ref h_tried, .ref h_best, .int s13.2.1])), (h_steps, .inl (cR, 4, .inr (.inr (.inr (.inr (fun j => some (h_steps_r j))))))), ((h_steps_r 1), .inr (3, [.ref (h_steps_a 1)])), ((h_steps_a 1), .inl (cI, 352, .inl s13.2.2.1)), ((h_steps_r 2), .inr (3, [.ref (h_steps_a 2)])), ((h_steps_a 2), .inl (cI, 352, .inl s13.2.2.2.1)), ((h_steps_r 3), .inr (3, [.ref (h_steps_a 3)])), ((h_steps_a 3), .inl (cI, 352, .inl s13.2.2.2.2.1)), (h_tried, .inl (cI, 4, .inl s13.2.2.2.2.2.1)), (h_best, .inl (cI, 4, .inl s13.2.2.2.2.2.2)), (a0, .inr (3, [.ref a0_numbers])), (a0_numbers, .inl (cI, 352, .inl f_a0_numbers))]) dX1_tryOrders_64 pkX3_lives gX1_tryOrders_X3_lives (kkX3_lives l D cI cR a0 a0_numbers f_a0_numbers s13.1 v30 h31) ⟨rfl, rfl⟩ ⟨Nat.le_of_ble_eq_true rfl, Nat.le_of_ble_eq_true rfl⟩ rfl rfl (Nat.le_of_ble_eq_true rfl) 0 rfl rfl [10, 11] [0, 1, 2, 3, 4, 5, 6, 7, 8, 9] rfl rfl ⟨rfl, rfl, by decide⟩ ⟨Nat.zero_le _, Nat.zero_le _⟩ [0, 1, 2, 3, 4, 5, 6, 7, 8, 9, 10, 11] rfl rfl ?_
      refine G_if_ne X (tgt := 111) dX1_tryOrders_67 (by decide) (fun h33 => ?_) (fun h33 => ?_)
      · have h34 := ifp h33 h32
        refine G_iload X dX1_tryOrders_70 5 rfl ?_
        refine G_aload_n X dX1_tryOrders_72 0 rfl ?_
        refine G_get X (i0 := 0) (ci := 1) (j := 3) (C := RX1) (ref := RX1) (T := TX1) (N := 4) dX1_tryOrders_73 rfl rfl hiX1_tryOrders_1_X1 (by decide) flX1_tryOrders_1_25 rfl rfl ?_
        refine G_icmp_le X (tgt := 111) dX1_tryOrders_76 (by decide) (fun h35 => ?_) (fun h35 => ?_)
        · have h36 := ifp h35 h34
          refine G_iinc X (v := (s13.1 + 1)) (lv' := [(6, .int (s13.1 + 1)), (0, .ref h), (1, .ref a0), (2, .int 1), (3, .int x2), (4, .ref (h_steps_r 1)), (5, .int (x2 + v10))]) dX1_tryOrders_111 6 rfl rfl (by decide) rfl ?_
          refine G_goto X (tgt := 51) dX1_tryOrders_114 (by decide) ?_
          cases h36
          exact G_lv [1, 2, 3, 4, 5, 6, 0] rfl (h18 _ rfl)
        · have h37 := ifn h35 h34
          refine G_aload X dX1_tryOrders_79 4 rfl ?_
          refine G_aload_n X dX1_tryOrders_81 1 rfl ?_
          obtain ⟨v38, h39, h40⟩ := bnd h37
          refine G1_callv X (As := [.ref a0]) (rest := []) (wr := [(h, .inr (1, [.ref h_steps, .ref h_tried, .ref h_best, .int s13.2.1])), (h_steps, .inl (cR, 4, .inr (.inr (.inr (.inr (fun j => some (h_steps_r j))))))), ((h_steps_r 2), .inr (3, [.ref (h_steps_a 2)])), ((h_steps_a 2), .inl (cI, 352, .inl s13.2.2.2.1)), ((h_steps_r 3), .inr (3, [.ref (h_steps_a 3)])), ((h_steps_a 3), .inl (cI, 352, .inl s13.2.2.2.2.1)), (h_tried, .inl (cI, 4, .inl s13.2.2.2.2.2.1)), (h_best, .inl (cI, 4, .inl s13.2.2.2.2.2.2))]) (ws' := [(h, .inr (1, [.ref h_steps, .ref h_tried, .ref h_best, .int s13.2.1])), (h_steps, .inl (cR, 4, .inr (.inr (.inr (.inr (fun j => some (h_steps_r j))))))), ((h_steps_r 1), .inr (3, [.ref (h_steps_a 1)])), ((h_steps_a 1), .inl (cI, 352, .inl v38)), ((h_steps_r 2), .inr (3, [.ref (h_steps_a 2)])), ((h_steps_a 2), .inl (cI, 352, .inl s13.2.2.2.1)), ((h_steps_r 3), .inr (3, [.ref (h_steps_a 3)])), ((h_steps_a 3), .inl (cI, 352, .inl s13.2.2.2.2.1)), (h_tried, .inl (cI, 4, .inl s13.2.2.2.2.2.1)), (h_best, .inl (cI, 4, .inl s13.2.2.2.2.2.2)), (a0, .inr (3, [.ref a0_numbers])), (a0_numbers, .inl (cI, 352, .inl f_a0_numbers))]) dX1_tryOrders_82 pkX3_copyFrom gX1_tryOrders_X3_copyFrom (kkX3_copyFrom l D cI cR (h_steps_r 1) (h_steps_a 1) a0 a0_numbers s13.2.2.1 f_a0_numbers v38 h39) ⟨rfl, rfl⟩ ⟨Nat.le_of_ble_eq_true rfl, Nat.le_of_ble_eq_true rfl⟩ rfl rfl (Nat.le_of_ble_eq_true rfl) 0 rfl rfl [2, 3, 10, 11] [0, 1, 4, 5, 6, 7, 8, 9] rfl rfl ⟨rfl, rfl, by decide⟩ ⟨Nat.zero_le _, Nat.zero_le _⟩ [0, 1, 8, 9, 2, 3, 4, 5, 6, 7, 10, 11] rfl rfl ?_
          refine G_aload_n X dX1_tryOrders_85 0 rfl ?_
          refine G_get X (i0 := 0) (ci := 1) (j := 1) (C := RX1) (ref := RX1) (T := TX1) (N := 4) dX1_tryOrders_86 rfl rfl hiX1_tryOrders_1_X1 (by decide) flX1_tryOrders_1_18 rfl rfl ?_
          refine G_iload_n X dX1_tryOrders_89 2 rfl ?_
          refine G_iload X dX1_tryOrders_90 6 rfl ?_
          obtain ⟨g41, h42, h43⟩ := bnd h40
          refine G_iast X (i0 := 8) (ws' := [(h, .inr (1, [.ref h_steps, .ref h_tried, .ref h_best, .int s13.2.1])), (h_steps, .inl (cR, 4, .inr (.inr (.inr (.inr (fun j => some (h_steps_r j))))))), ((h_steps_r 1), .inr (3, [.ref (h_steps_a 1)])), ((h_steps_a 1), .inl (cI, 352, .inl v38)), ((h_steps_r 2), .inr (3, [.ref (h_steps_a 2)])), ((h_steps_a 2), .inl (cI, 352, .inl s13.2.2.2.1)), ((h_steps_r 3), .inr (3, [.ref (h_steps_a 3)])), ((h_steps_a 3), .inl (cI, 352, .inl s13.2.2.2.2.1)), (h_tried, .inl (cI, 4, .inl g41)), (h_best, .inl (cI, 4, .inl s13.2.2.2.2.2.2)), (a0, .inr (3, [.ref a0_numbers])), (a0_numbers, .inl (cI, 352, .inl f_a0_numbers))]) dX1_tryOrders_92 rfl h42 rfl ?_
          refine G_aload_n X dX1_tryOrders_93 0 rfl ?_
          refine G_aload X dX1_tryOrders_94 4 rfl ?_
          refine G_iload_n X dX1_tryOrders_96 2 rfl ?_
          refine G_iconst X (v := 1) dX1_tryOrders_97 (by decide) ?_
          refine G_iaddv X (v := 2) dX1_tryOrders_98 (by decide) ?_
          refine G_iload_n X dX1_tryOrders_99 3 rfl ?_
          refine G_aload X dX1_tryOrders_100 4 rfl ?_
          refine G_iload X dX1_tryOrders_102 6 rfl ?_
          obtain ⟨v44, h45, h46⟩ := bnd h43
          refine G1_calli X (As := [.int s13.1]) (rest := [.int x2, .int 2, .ref (h_steps_r 1), .ref h]) (wr := [(h, .inr (1, [.ref h_steps, .ref h_tried, .ref h_best, .int s13.2.1])), (h_steps, .inl (cR, 4, .inr (.inr (.inr (.inr (fun j => some (h_steps_r j))))))), ((h_steps_r 2), .inr (3, [.ref (h_steps_a 2)])), ((h_steps_a 2), .inl (cI, 352, .inl s13.2.2.2.1)), ((h_steps_r 3), .inr (3, [.ref (h_steps_a 3)])), ((h_steps_a 3), .inl (cI, 352, .inl s13.2.2.2.2.1)), (h_tried, .inl (cI, 4, .inl g41)), (h_best, .inl (cI, 4, .inl s13.2.2.2.2.2.2)), (a0, .inr (3, [.ref a0_numbers])), (a0_numbers, .inl (cI, 352, .inl f_a0_numbers))]) (ws' := [(h, .inr (1, [.ref h_steps, .ref h_tried, .ref h_best, .int s13.2.1])), (h_steps, .inl (cR, 4, .inr (.inr (.inr (.inr (fun j => some (h_steps_r j))))))), ((h_steps_r 1), .inr (3, [.ref (h_steps_a 1)])), ((h_steps_a 1), .inl (cI, 352, .inl v44.2)), ((h_steps_r 2), .inr (3, [.ref (h_steps_a 2)])), ((h_steps_a 2), .inl (cI, 352, .inl s13.2.2.2.1)), ((h_steps_r 3), .inr (3, [.ref (h_steps_a 3)])), ((h_steps_a 3), .inl (cI, 352, .inl s13.2.2.2.2.1)), (h_tried, .inl (cI, 4, .inl g41)), (h_best, .inl (cI, 4, .inl s13.2.2.2.2.2.2)), (a0, .inr (3, [.ref a0_numbers])), (a0_numbers, .inl (cI, 352, .inl f_a0_numbers))]) dX1_tryOrders_104 pkX3_mendRow gX1_tryOrders_X3_mendRow (kkX3_mendRow l D cI cR (h_steps_r 1) (h_steps_a 1) v38 s13.1 v44 h45) ⟨rfl, rfl⟩ ⟨Nat.le_of_ble_eq_true rfl, Nat.le_of_ble_eq_true rfl⟩ rfl rfl (Nat.le_of_ble_eq_true rfl) 0 rfl rfl [2, 3] [0, 1, 4, 5, 6, 7, 8, 9, 10, 11] rfl rfl ⟨rfl, rfl, by decide⟩ ⟨Nat.zero_le _, Nat.zero_le _⟩ [0, 1, 10, 11, 2, 3, 4, 5, 6, 7, 8, 9] rfl rfl ?_
          refine G_iadd X dX1_tryOrders_107 ?_
          obtain ⟨v47, h48, h49⟩ := bnd h46
          refine G1_callv X (As := [.ref (h_steps_r 1), .int 2, .int (x2 + v44.1)]) (rest := []) (wr := [(a0, .inr (3, [.ref a0_numbers])), (a0_numbers, .inl (cI, 352, .inl f_a0_numbers))]) (ws' := [(h, .inr (1, [.ref h_steps, .ref h_tried, .ref h_best, .int v47.1])), (h_steps, .inl (cR, 4, .inr (.inr (.inr (.inr (fun j => some (h_steps_r j))))))), ((h_steps_r 1), .inr (3, [.ref (h_steps_a 1)])), ((h_steps_a 1), .inl (cI, 352, .inl v44.2)), ((h_steps_r 2), .inr (3, [.ref (h_steps_a 2)])), ((h_steps_a 2), .inl (cI, 352, .inl v47.2.1)), ((h_steps_r 3), .inr (3, [.ref (h_steps_a 3)])), ((h_steps_a 3), .inl (cI, 352, .inl v47.2.2.1)), (h_tried, .inl (cI, 4, .inl v47.2.2.2.1)), (h_best, .inl (cI, 4, .inl v47.2.2.2.2)), (a0, .inr (3, [.ref a0_numbers])), (a0_numbers, .inl (cI, 352, .inl f_a0_numbers))]) dX1_tryOrders_108 pkX1_tryOrders_2 gX1_tryOrders_X1_tryOrders (kkX1_tryOrders_2 l D cI cR h h_steps h_tried h_best (h_steps_r 1) (h_steps_a 1) h_steps_r h_steps_a s13.2.1 s13.2.2.2.1 s13.2.2.2.2.1 g41 s13.2.2.2.2.2.2 v44.2 (x2 + v44.1) v47 h48) ⟨rfl, rfl⟩ ⟨Nat.le_of_ble_eq_true rfl, Nat.le_of_ble_eq_true rfl⟩ rfl rfl (Nat.le_of_ble_eq_true rfl) 0 rfl rfl [0, 1, 4, 5, 6, 7, 8, 9, 2, 3] [10, 11] rfl rfl ⟨rfl, rfl, by decide⟩ ⟨Nat.zero_le _, Nat.zero_le _⟩ [2, 3, 10, 11, 4, 5, 6, 7, 8, 9, 0, 1] rfl rfl ?_
          refine G_iinc X (v := (s13.1 + 1)) (lv' := [(6, .int (s13.1 + 1)), (0, .ref h), (1, .ref a0), (2, .int 1), (3, .int x2), (4, .ref (h_steps_r 1)), (5, .int (x2 + v10))]) dX1_tryOrders_111 6 rfl rfl (by decide) rfl ?_
          refine G_goto X (tgt := 51) dX1_tryOrders_114 (by decide) ?_
          cases h49
          exact G_lv [1, 2, 3, 4, 5, 6, 0] rfl (h18 _ rfl)
      · have h50 := ifn h33 h32
        refine G_iinc X (v := (s13.1 + 1)) (lv' := [(6, .int (s13.1 + 1)), (0, .ref h), (1, .ref a0), (2, .int 1), (3, .int x2), (4, .ref (h_steps_r 1)), (5, .int (x2 + v10))]) dX1_tryOrders_111 6 rfl rfl (by decide) rfl ?_
        refine G_goto X (tgt := 51) dX1_tryOrders_114 (by decide) ?_
        cases h50
        exact G_lv [1, 2, 3, 4, 5, 6, 0] rfl (h18 _ rfl)
def rmX1_tryOrders_0 : Room := { frames := 8, cells := 0, slots := 0, locals := 268 }
theorem pkX1_tryOrders_0 : cK yX1_tryOrders wsX1_tryOrders cX1_tryOrders 7 none 3 RX1 := ⟨⟨_, rfl⟩, by decide +kernel⟩
theorem hiX1_tryOrders_0_X1 : ∀ w ∈ wsX10, w ∈ wsX1_tryOrders := by decide +kernel
theorem flX1_tryOrders_0_13 : Cond.fieldLink RX1 13 "EchoMargins$Mending" "steps" "[LEchoMargins$Ring;" ∈ wsX1_tryOrders := by decide +kernel
theorem flX1_tryOrders_0_25 : Cond.fieldLink RX1 25 "EchoMargins$Mending" "sum" "I" ∈ wsX1_tryOrders := by decide +kernel
theorem flX1_tryOrders_0_18 : Cond.fieldLink RX1 18 "EchoMargins$Mending" "tried" "[I" ∈ wsX1_tryOrders := by decide +kernel
set_option maxHeartbeats 4000000 in
set_option maxRecDepth 100000 in
theorem kkX1_tryOrders_0 (l : Launch) (D : va_G) (cI cR : ClassId) (h h_steps h_tried h_best a0 a0_numbers : Nat) (h_steps_r h_steps_a : Nat → Nat) (i_h_sum : Int32) (f_h_steps_0 : Nat → Int32) (f_h_steps_1 : Nat → Int32) (f_h_steps_2 : Nat → Int32) (f_h_steps_3 : Nat → Int32) (f_h_tried : Nat → Int32) (f_h_best : Nat → Int32) (f_a0_numbers : Nat → Int32) (x2 : Int32) (z : (Int32 × (Nat → Int32) × (Nat → Int32) × (Nat → Int32) × (Nat → Int32) × (Nat → Int32) × (Nat → Int32))) (hz : MX1_tryOrders_0 i_h_sum f_h_steps_0 f_h_steps_1 f_h_steps_2 f_h_steps_3 f_h_tried f_h_best f_a0_numbers x2 = some z) : cV1 l yX1_tryOrders wsX1_tryOrders rmX1_tryOrders_0 D cI cR [.ref h, .ref a0, .int 0, .int x2] [(h, .inr (1, [.ref h_steps, .ref h_tried, .ref h_best, .int i_h_sum])), (h_steps, .inl (cR, 4, .inr (.inr (.inr (.inr (fun j => some (h_steps_r j))))))), ((h_steps_r 0), .inr (3, [.ref (h_steps_a 0)])), ((h_steps_a 0), .inl (cI, 352, .inl f_h_steps_0)), ((h_steps_r 1), .inr (3, [.ref (h_steps_a 1)])), ((h_steps_a 1), .inl (cI, 352, .inl f_h_steps_1)), ((h_steps_r 2), .inr (3, [.ref (h_steps_a 2)])), ((h_steps_a 2), .inl (cI, 352, .inl f_h_steps_2)), ((h_steps_r 3), .inr (3, [.ref (h_steps_a 3)])), ((h_steps_a 3), .inl (cI, 352, .inl f_h_steps_3)), (h_tried, .inl (cI, 4, .inl f_h_tried)), (h_best, .inl (cI, 4, .inl f_h_best)), (a0, .inr (3, [.ref a0_numbers])), (a0_numbers, .inl (cI, 352, .inl f_a0_numbers))] [(h, .inr (1, [.ref h_steps, .ref h_tried, .ref h_best, .int z.1])), (h_steps, .inl (cR, 4, .inr (.inr (.inr (.inr (fun j => some (h_steps_r j))))))), ((h_steps_r 0), .inr (3, [.ref (h_steps_a 0)])), ((h_steps_a 0), .inl (cI, 352, .inl z.2.1)), ((h_steps_r 1), .inr (3, [.ref (h_steps_a 1)])), ((h_steps_a 1), .inl (cI, 352, .inl z.2.2.1)), ((h_steps_r 2), .inr (3, [.ref (h_steps_a 2)])), ((h_steps_a 2), .inl (cI, 352, .inl z.2.2.2.1)), ((h_steps_r 3), .inr (3, [.ref (h_steps_a 3)])), ((h_steps_a 3), .inl (cI, 352, .inl z.2.2.2.2.1)), (h_tried, .inl (cI, 4, .inl z.2.2.2.2.2.1)), (h_best, .inl (cI, 4, .inl z.2.2.2.2.2.2)), (a0, .inr (3, [.ref a0_numbers])), (a0_numbers, .inl (cI, 352, .inl f_a0_numbers))] := by
  unfold MX1_tryOrders_0 at hz
  refine kV_of (cc := cX1_tryOrders) (maxL := 7) (own := RX1) (by decide +kernel) rfl rfl (Nat.le_of_ble_eq_true rfl) (lv0 := [(0, .ref h), (1, .ref a0), (2, .int 0), (3, .int x2)]) rfl (fun p e s m args below meth c A Q X rt => ?_)
  refine G_aload_n X dX1_tryOrders_0 1 rfl ?_
  obtain ⟨v1, h2, h3⟩ := bnd hz
  refine G1_callsi X (As := [.ref a0]) (rest := []) (wr := [(h, .inr (1, [.ref h_steps, .ref h_tried, .ref h_best, .int i_h_sum])), (h_steps, .inl (cR, 4, .inr (.inr (.inr (.inr (fun j => some (h_steps_r j))))))), ((h_steps_r 0), .inr (3, [.ref (h_steps_a 0)])), ((h_steps_a 0), .inl (cI, 352, .inl f_h_steps_0)), ((h_steps_r 1), .inr (3, [.ref (h_steps_a 1)])), ((h_steps_a 1), .inl (cI, 352, .inl f_h_steps_1)), ((h_steps_r 2), .inr (3, [.ref (h_steps_a 2)])), ((h_steps_a 2), .inl (cI, 352, .inl f_h_steps_2)), ((h_steps_r 3), .inr (3, [.ref (h_steps_a 3)])), ((h_steps_a 3), .inl (cI, 352, .inl f_h_steps_3)), (h_tried, .inl (cI, 4, .inl f_h_tried)), (h_best, .inl (cI, 4, .inl f_h_best))]) (ws' := [(h, .inr (1, [.ref h_steps, .ref h_tried, .ref h_best, .int i_h_sum])), (h_steps, .inl (cR, 4, .inr (.inr (.inr (.inr (fun j => some (h_steps_r j))))))), ((h_steps_r 0), .inr (3, [.ref (h_steps_a 0)])), ((h_steps_a 0), .inl (cI, 352, .inl f_h_steps_0)), ((h_steps_r 1), .inr (3, [.ref (h_steps_a 1)])), ((h_steps_a 1), .inl (cI, 352, .inl f_h_steps_1)), ((h_steps_r 2), .inr (3, [.ref (h_steps_a 2)])), ((h_steps_a 2), .inl (cI, 352, .inl f_h_steps_2)), ((h_steps_r 3), .inr (3, [.ref (h_steps_a 3)])), ((h_steps_a 3), .inl (cI, 352, .inl f_h_steps_3)), (h_tried, .inl (cI, 4, .inl f_h_tried)), (h_best, .inl (cI, 4, .inl f_h_best)), (a0, .inr (3, [.ref a0_numbers])), (a0_numbers, .inl (cI, 352, .inl f_a0_numbers))]) dX1_tryOrders_1 pkX1_lostRows gX1_tryOrders_X1_lostRows (kkX1_lostRows l D cI cR a0 a0_numbers f_a0_numbers v1 h2) ⟨rfl, rfl⟩ ⟨Nat.le_of_ble_eq_true rfl, Nat.le_of_ble_eq_true rfl⟩ rfl rfl (Nat.le_of_ble_eq_true rfl) [12, 13] [0, 1, 2, 3, 4, 5, 6, 7, 8, 9, 10, 11] rfl rfl ⟨rfl, rfl, by decide⟩ ⟨Nat.zero_le _, Nat.zero_le _⟩ [0, 1, 2, 3, 4, 5, 6, 7, 8, 9, 10, 11, 12, 13] rfl rfl ?_
  refine G_if_ne X (tgt := 13) dX1_tryOrders_4 (by decide) (fun h4 => ?_) (fun h4 => ?_)
  · have h5 := ifp h4 h3
    refine G_aload_n X dX1_tryOrders_7 0 rfl ?_
    refine G_iload_n X dX1_tryOrders_8 3 rfl ?_
    obtain ⟨v6, h7, h8⟩ := bnd h5
    refine G1_callv X (As := [.int x2]) (rest := []) (wr := [(h_steps, .inl (cR, 4, .inr (.inr (.inr (.inr (fun j => some (h_steps_r j))))))), ((h_steps_r 0), .inr (3, [.ref (h_steps_a 0)])), ((h_steps_a 0), .inl (cI, 352, .inl f_h_steps_0)), ((h_steps_r 1), .inr (3, [.ref (h_steps_a 1)])), ((h_steps_a 1), .inl (cI, 352, .inl f_h_steps_1)), ((h_steps_r 2), .inr (3, [.ref (h_steps_a 2)])), ((h_steps_a 2), .inl (cI, 352, .inl f_h_steps_2)), ((h_steps_r 3), .inr (3, [.ref (h_steps_a 3)])), ((h_steps_a 3), .inl (cI, 352, .inl f_h_steps_3)), (a0, .inr (3, [.ref a0_numbers])), (a0_numbers, .inl (cI, 352, .inl f_a0_numbers))]) (ws' := [(h, .inr (1, [.ref h_steps, .ref h_tried, .ref h_best, .int v6.1])), (h_steps, .inl (cR, 4, .inr (.inr (.inr (.inr (fun j => some (h_steps_r j))))))), ((h_steps_r 0), .inr (3, [.ref (h_steps_a 0)])), ((h_steps_a 0), .inl (cI, 352, .inl f_h_steps_0)), ((h_steps_r 1), .inr (3, [.ref (h_steps_a 1)])), ((h_steps_a 1), .inl (cI, 352, .inl f_h_steps_1)), ((h_steps_r 2), .inr (3, [.ref (h_steps_a 2)])), ((h_steps_a 2), .inl (cI, 352, .inl f_h_steps_2)), ((h_steps_r 3), .inr (3, [.ref (h_steps_a 3)])), ((h_steps_a 3), .inl (cI, 352, .inl f_h_steps_3)), (h_tried, .inl (cI, 4, .inl f_h_tried)), (h_best, .inl (cI, 4, .inl v6.2)), (a0, .inr (3, [.ref a0_numbers])), (a0_numbers, .inl (cI, 352, .inl f_a0_numbers))]) dX1_tryOrders_9 pkX1_keepIfBetter gX1_tryOrders_X1_keepIfBetter (kkX1_keepIfBetter l D cI cR h h_steps h_tried h_best i_h_sum f_h_tried f_h_best x2 v6 h7) ⟨rfl, rfl⟩ ⟨Nat.le_of_ble_eq_true rfl, Nat.le_of_ble_eq_true rfl⟩ rfl rfl (Nat.le_of_ble_eq_true rfl) 0 rfl rfl [0, 10, 11] [1, 2, 3, 4, 5, 6, 7, 8, 9, 12, 13] rfl rfl ⟨rfl, rfl, by decide⟩ ⟨Nat.zero_le _, Nat.zero_le _⟩ [11, 0, 1, 2, 3, 4, 5, 6, 7, 8, 12, 13, 9, 10] rfl rfl ?_
    cases h8
    exact rt _ _ _ dX1_tryOrders_12 rfl
  · have h9 := ifn h4 h3
    refine G_iload_n X dX1_tryOrders_13 2 rfl ?_
    refine G_if_lt X (tgt := 31) dX1_tryOrders_14 (by decide) (fun q => absurd q (by decide)) (fun _ => ?_)
    refine G_iload_n X dX1_tryOrders_17 2 rfl ?_
    refine G_iconst X (v := 4) dX1_tryOrders_18 (by decide) ?_
    refine G_icmp_ge X (tgt := 31) dX1_tryOrders_19 (by decide) (fun q => absurd q (by decide)) (fun _ => ?_)
    refine G_aload_n X dX1_tryOrders_22 0 rfl ?_
    refine G_get X (i0 := 0) (ci := 1) (j := 0) (C := RX1) (ref := RX1) (T := TX1) (N := 4) dX1_tryOrders_23 rfl rfl hiX1_tryOrders_0_X1 (by decide) flX1_tryOrders_0_13 rfl rfl ?_
    refine G_iload_n X dX1_tryOrders_26 2 rfl ?_
    refine G_aald X (i0 := 1) (b := h_steps_r 0) (j := 0) dX1_tryOrders_27 rfl (by decide) (by decide) rfl ?_
    refine G_ifnonnull X (tgt := 32) dX1_tryOrders_28 (by decide) ?_
    refine G_aload_n X dX1_tryOrders_32 0 rfl ?_
    refine G_get X (i0 := 0) (ci := 1) (j := 0) (C := RX1) (ref := RX1) (T := TX1) (N := 4) dX1_tryOrders_33 rfl rfl hiX1_tryOrders_0_X1 (by decide) flX1_tryOrders_0_13 rfl rfl ?_
    refine G_iload_n X dX1_tryOrders_36 2 rfl ?_
    refine G_aald X (i0 := 1) (b := h_steps_r 0) (j := 0) dX1_tryOrders_37 rfl (by decide) (by decide) rfl ?_
    refine G_astore X (lv' := [(4, .ref (h_steps_r 0)), (0, .ref h), (1, .ref a0), (2, .int 0), (3, .int x2)]) dX1_tryOrders_38 (by decide) rfl ?_
    refine G_iload_n X dX1_tryOrders_40 4 rfl ?_
    refine G_aload_n X dX1_tryOrders_41 2 rfl ?_
    obtain ⟨v10, h11, h12⟩ := bnd h9
    refine G1_callsi X (As := [.ref a0]) (rest := [.int x2]) (wr := [(h, .inr (1, [.ref h_steps, .ref h_tried, .ref h_best, .int i_h_sum])), (h_steps, .inl (cR, 4, .inr (.inr (.inr (.inr (fun j => some (h_steps_r j))))))), ((h_steps_r 0), .inr (3, [.ref (h_steps_a 0)])), ((h_steps_a 0), .inl (cI, 352, .inl f_h_steps_0)), ((h_steps_r 1), .inr (3, [.ref (h_steps_a 1)])), ((h_steps_a 1), .inl (cI, 352, .inl f_h_steps_1)), ((h_steps_r 2), .inr (3, [.ref (h_steps_a 2)])), ((h_steps_a 2), .inl (cI, 352, .inl f_h_steps_2)), ((h_steps_r 3), .inr (3, [.ref (h_steps_a 3)])), ((h_steps_a 3), .inl (cI, 352, .inl f_h_steps_3)), (h_tried, .inl (cI, 4, .inl f_h_tried)), (h_best, .inl (cI, 4, .inl f_h_best))]) (ws' := [(h, .inr (1, [.ref h_steps, .ref h_tried, .ref h_best, .int i_h_sum])), (h_steps, .inl (cR, 4, .inr (.inr (.inr (.inr (fun j => some (h_steps_r j))))))), ((h_steps_r 0), .inr (3, [.ref (h_steps_a 0)])), ((h_steps_a 0), .inl (cI, 352, .inl f_h_steps_0)), ((h_steps_r 1), .inr (3, [.ref (h_steps_a 1)])), ((h_steps_a 1), .inl (cI, 352, .inl f_h_steps_1)), ((h_steps_r 2), .inr (3, [.ref (h_steps_a 2)])), ((h_steps_a 2), .inl (cI, 352, .inl f_h_steps_2)), ((h_steps_r 3), .inr (3, [.ref (h_steps_a 3)])), ((h_steps_a 3), .inl (cI, 352, .inl f_h_steps_3)), (h_tried, .inl (cI, 4, .inl f_h_tried)), (h_best, .inl (cI, 4, .inl f_h_best)), (a0, .inr (3, [.ref a0_numbers])), (a0_numbers, .inl (cI, 352, .inl f_a0_numbers))]) dX1_tryOrders_42 pkX1_stillComing gX1_tryOrders_X1_stillComing (kkX1_stillComing l D cI cR a0 a0_numbers f_a0_numbers v10 h11) ⟨rfl, rfl⟩ ⟨Nat.le_of_ble_eq_true rfl, Nat.le_of_ble_eq_true rfl⟩ rfl rfl (Nat.le_of_ble_eq_true rfl) [12, 13] [0, 1, 2, 3, 4, 5, 6, 7, 8, 9, 10, 11] rfl rfl ⟨rfl, rfl, by decide⟩ ⟨Nat.zero_le _, Nat.zero_le _⟩ [0, 1, 2, 3, 4, 5, 6, 7, 8, 9, 10, 11, 12, 13] rfl rfl ?_
    refine G_iadd X dX1_tryOrders_45 ?_
    refine G_istore X (lv' := [(5, .int (x2 + v10)), (4, .ref (h_steps_r 0)), (0, .ref h), (1, .ref a0), (2, .int 0), (3, .int x2)]) dX1_tryOrders_46 (by decide) rfl ?_
    refine G_iconst X (v := 0) dX1_tryOrders_48 (by decide) ?_
    refine G_istore X (lv' := [(6, .int 0), (5, .int (x2 + v10)), (4, .ref (h_steps_r 0)), (0, .ref h), (1, .ref a0), (2, .int 0), (3, .int x2)]) dX1_tryOrders_49 (by decide) rfl ?_
    obtain ⟨j14, h15, h16⟩ := bnd h12
    have J21 : G p l e rmX1_tryOrders_0 s m args below meth c D A 7 Q 0 0 117 [] [] [(h, .inr (1, [.ref h_steps, .ref h_tried, .ref h_best, .int j14.1])), (h_steps, .inl (cR, 4, .inr (.inr (.inr (.inr (fun j => some (h_steps_r j))))))), ((h_steps_r 0), .inr (3, [.ref (h_steps_a 0)])), ((h_steps_a 0), .inl (cI, 352, .inl j14.2.1)), ((h_steps_r 1), .inr (3, [.ref (h_steps_a 1)])), ((h_steps_a 1), .inl (cI, 352, .inl j14.2.2.1)), ((h_steps_r 2), .inr (3, [.ref (h_steps_a 2)])), ((h_steps_a 2), .inl (cI, 352, .inl j14.2.2.2.1)), ((h_steps_r 3), .inr (3, [.ref (h_steps_a 3)])), ((h_steps_a 3), .inl (cI, 352, .inl j14.2.2.2.2.1)), (h_tried, .inl (cI, 4, .inl j14.2.2.2.2.2.1)), (h_best, .inl (cI, 4, .inl j14.2.2.2.2.2.2)), (a0, .inr (3, [.ref a0_numbers])), (a0_numbers, .inl (cI, 352, .inl f_a0_numbers))] := by
      cases h16
      exact rt _ _ _ dX1_tryOrders_117 rfl
    refine G_lv [3, 4, 5, 6, 2, 1, 0] rfl ?_
    refine itr_ind (P := fun s13 : (Int32 × Int32 × (Nat → Int32) × (Nat → Int32) × (Nat → Int32) × (Nat → Int32) × (Nat → Int32) × (Nat → Int32)) => G p l e rmX1_tryOrders_0 s m args below meth c D A 7 Q 0 0 51 [(0, .ref h), (1, .ref a0), (2, .int 0), (3, .int x2), (4, .ref (h_steps_r 0)), (5, .int (x2 + v10)), (6, .int s13.1)] [] [(h, .inr (1, [.ref h_steps, .ref h_tried, .ref h_best, .int s13.2.1])), (h_steps, .inl (cR, 4, .inr (.inr (.inr (.inr (fun j => some (h_steps_r j))))))), ((h_steps_r 0), .inr (3, [.ref (h_steps_a 0)])), ((h_steps_a 0), .inl (cI, 352, .inl s13.2.2.1)), ((h_steps_r 1), .inr (3, [.ref (h_steps_a 1)])), ((h_steps_a 1), .inl (cI, 352, .inl s13.2.2.2.1)), ((h_steps_r 2), .inr (3, [.ref (h_steps_a 2)])), ((h_steps_a 2), .inl (cI, 352, .inl s13.2.2.2.2.1)), ((h_steps_r 3), .inr (3, [.ref (h_steps_a 3)])), ((h_steps_a 3), .inl (cI, 352, .inl s13.2.2.2.2.2.1)), (h_tried, .inl (cI, 4, .inl s13.2.2.2.2.2.2.1)), (h_best, .inl (cI, 4, .inl s13.2.2.2.2.2.2.2)), (a0, .inr (3, [.ref a0_numbers])), (a0_numbers, .inl (cI, 352, .inl f_a0_numbers))]) (fun s13 o20 h17 h18 h19 => ?_) FU _ h15
    unfold SX1_tryOrders_0_51 at h17
    refine G_iload X dX1_tryOrders_51 6 rfl ?_
    refine G_aload_n X dX1_tryOrders_53 1 rfl ?_
    refine G_iconst X (v := 1) dX1_tryOrders_54 (by decide) ?_
    obtain ⟨v23, h24, h25⟩ := bnd h17
    refine G1_calli X (As := [.int 1]) (rest := [.int s13.1]) (wr := [(h, .inr (1, [.ref h_steps, .ref h_tried, .ref h_best, .int s13.2.1])), (h_steps, .inl (cR, 4, .inr (.inr (.inr (.inr (fun j => some (h_steps_r j))))))), ((h_steps_r 0), .inr (3, [.ref (h_steps_a 0)])), ((h_steps_a 0), .inl (cI, 352, .inl s13.2.2.1)), ((h_steps_r 1), .inr (3, [.ref (h_steps_a 1)])), ((h_steps_a 1), .inl (cI, 352, .inl s13.2.2.2.1)), ((h_steps_r 2), .inr (3, [.ref (h_steps_a 2)])), ((h_steps_a 2), .inl (cI, 352, .inl s13.2.2.2.2.1)), ((h_steps_r 3), .inr (3, [.ref (h_steps_a 3)])), ((h_steps_a 3), .inl (cI, 352, .inl s13.2.2.2.2.2.1)), (h_tried, .inl (cI, 4, .inl s13.2.2.2.2.2.2.1)), (h_best, .inl (cI, 4, .inl s13.2.2.2.2.2.2.2))]) (ws' := [(h, .inr (1, [.ref h_steps, .ref h_tried, .ref h_best, .int s13.2.1])), (h_steps, .inl (cR, 4, .inr (.inr (.inr (.inr (fun j => some (h_steps_r j))))))), ((h_steps_r 0), .inr (3, [.ref (h_steps_a 0)])), ((h_steps_a 0), .inl (cI, 352, .inl s13.2.2.1)), ((h_steps_r 1), .inr (3, [.ref (h_steps_a 1)])), ((h_steps_a 1), .inl (cI, 352, .inl s13.2.2.2.1)), ((h_steps_r 2), .inr (3, [.ref (h_steps_a 2)])), ((h_steps_a 2), .inl (cI, 352, .inl s13.2.2.2.2.1)), ((h_steps_r 3), .inr (3, [.ref (h_steps_a 3)])), ((h_steps_a 3), .inl (cI, 352, .inl s13.2.2.2.2.2.1)), (h_tried, .inl (cI, 4, .inl s13.2.2.2.2.2.2.1)), (h_best, .inl (cI, 4, .inl s13.2.2.2.2.2.2.2)), (a0, .inr (3, [.ref a0_numbers])), (a0_numbers, .inl (cI, 352, .inl f_a0_numbers))]) dX1_tryOrders_55 pkX3_get gX1_tryOrders_X3_get (kkX3_get l D cI cR a0 a0_numbers f_a0_numbers 1 v23 h24) ⟨rfl, rfl⟩ ⟨Nat.le_of_ble_eq_true rfl, Nat.le_of_ble_eq_true rfl⟩ rfl rfl (Nat.le_of_ble_eq_true rfl) 0 rfl rfl [12, 13] [0, 1, 2, 3, 4, 5, 6, 7, 8, 9, 10, 11] rfl rfl ⟨rfl, rfl, by decide⟩ ⟨Nat.zero_le _, Nat.zero_le _⟩ [0, 1, 2, 3, 4, 5, 6, 7, 8, 9, 10, 11, 12, 13] rfl rfl ?_
    refine G_icmp_ge X (tgt := 117) dX1_tryOrders_58 (by decide) (fun h26 => ?_) (fun h26 => ?_)
    · have h27 := ifp h26 h25
      cases h27
      have h28 := h19 _ rfl
      subst h28
      exact G_lv [] rfl (J21)
    · have h29 := ifn h26 h25
      refine G_aload_n X dX1_tryOrders_61 1 rfl ?_
      refine G_iload X dX1_tryOrders_62 6 rfl ?_
      obtain ⟨v30, h31, h32⟩ := bnd h29
      refine G1_calli X (As := [.int s13.1]) (rest := []) (wr := [(h, .inr (1, [.ref h_steps, .ref h_tried, .ref h_best, .int s13.2.1])), (h_steps, .inl (cR, 4, .inr (.inr (.inr (.inr (fun j => some (h_steps_r j))))))), ((h_steps_r 0), .inr (3, [.ref (h_steps_a 0)])), ((h_steps_a 0), .inl (cI, 352, .inl s13.2.2.1)), ((h_steps_r 1), .inr (3, [.ref (h_steps_a 1)])), ((h_steps_a 1), .inl (cI, 352, .inl s13.2.2.2.1)), ((h_steps_r 2), .inr (3, [.ref (h_steps_a 2)])), ((h_steps_a 2), .inl (cI, 352, .inl s13.2.2.2.2.1)), ((h_steps_r 3), .inr (3, [.ref (h_steps_a 3)])), ((h_steps_a 3), .inl (cI, 352, .inl s13.2.2.2.2.2.1)), (h_tried, .inl (cI, 4, .inl s13.2.2.2.2.2.2.1)), (h_best, .inl (cI, 4, .inl s13.2.2.2.2.2.2.2))]) (ws' := [(h, .inr (1, [.ref h_steps, .ref h_tried, .ref h_best, .int s13.2.1])), (h_steps, .inl (cR, 4, .inr (.inr (.inr (.inr (fun j => some (h_steps_r j))))))), ((h_steps_r 0), .inr (3, [.ref (h_steps_a 0)])), ((h_steps_a 0), .inl (cI, 352, .inl s13.2.2.1)), ((h_steps_r 1), .inr (3, [.ref (h_steps_a 1)])), ((h_steps_a 1), .inl (cI, 352, .inl s13.2.2.2.1)), ((h_steps_r 2), .inr (3, [.ref (h_steps_a 2)])), ((h_steps_a 2), .inl (cI, 352, .inl s13.2.2.2.2.1)), ((h_steps_r 3), .inr (3, [.ref (h_steps_a 3)])), ((h_steps_a 3), .inl (cI, 352, .inl s13.2.2.2.2.2.1)), (h_tried, .inl (cI, 4, .inl s13.2.2.2.2.2.2.1)), (h_best, .inl (cI, 4, .inl s13.2.2.2.2.2.2.2)), (a0, .inr (3, [.ref a0_numbers])), (a0_numbers, .inl (cI, 352, .inl f_a0_numbers))]) dX1_tryOrders_64 pkX3_lives gX1_tryOrders_X3_lives (kkX3_lives l D cI cR a0 a0_numbers f_a0_numbers s13.1 v30 h31) ⟨rfl, rfl⟩ ⟨Nat.le_of_ble_eq_true rfl, Nat.le_of_ble_eq_true rfl⟩ rfl rfl (Nat.le_of_ble_eq_true rfl) 0 rfl rfl [12, 13] [0, 1, 2, 3, 4, 5, 6, 7, 8, 9, 10, 11] rfl rfl ⟨rfl, rfl, by decide⟩ ⟨Nat.zero_le _, Nat.zero_le _⟩ [0, 1, 2, 3, 4, 5, 6, 7, 8, 9, 10, 11, 12, 13] rfl rfl ?_
      refine G_if_ne X (tgt := 111) dX1_tryOrders_67 (by decide) (fun h33 => ?_) (fun h33 => ?_)
      · have h34 := ifp h33 h32
        refine G_iload X dX1_tryOrders_70 5 rfl ?_
        refine G_aload_n X dX1_tryOrders_72 0 rfl ?_
        refine G_get X (i0 := 0) (ci := 1) (j := 3) (C := RX1) (ref := RX1) (T := TX1) (N := 4) dX1_tryOrders_73 rfl rfl hiX1_tryOrders_0_X1 (by decide) flX1_tryOrders_0_25 rfl rfl ?_
        refine G_icmp_le X (tgt := 111) dX1_tryOrders_76 (by decide) (fun h35 => ?_) (fun h35 => ?_)
        · have h36 := ifp h35 h34
          refine G_iinc X (v := (s13.1 + 1)) (lv' := [(6, .int (s13.1 + 1)), (0, .ref h), (1, .ref a0), (2, .int 0), (3, .int x2), (4, .ref (h_steps_r 0)), (5, .int (x2 + v10))]) dX1_tryOrders_111 6 rfl rfl (by decide) rfl ?_
          refine G_goto X (tgt := 51) dX1_tryOrders_114 (by decide) ?_
          cases h36
          exact G_lv [1, 2, 3, 4, 5, 6, 0] rfl (h18 _ rfl)
        · have h37 := ifn h35 h34
          refine G_aload X dX1_tryOrders_79 4 rfl ?_
          refine G_aload_n X dX1_tryOrders_81 1 rfl ?_
          obtain ⟨v38, h39, h40⟩ := bnd h37
          refine G1_callv X (As := [.ref a0]) (rest := []) (wr := [(h, .inr (1, [.ref h_steps, .ref h_tried, .ref h_best, .int s13.2.1])), (h_steps, .inl (cR, 4, .inr (.inr (.inr (.inr (fun j => some (h_steps_r j))))))), ((h_steps_r 1), .inr (3, [.ref (h_steps_a 1)])), ((h_steps_a 1), .inl (cI, 352, .inl s13.2.2.2.1)), ((h_steps_r 2), .inr (3, [.ref (h_steps_a 2)])), ((h_steps_a 2), .inl (cI, 352, .inl s13.2.2.2.2.1)), ((h_steps_r 3), .inr (3, [.ref (h_steps_a 3)])), ((h_steps_a 3), .inl (cI, 352, .inl s13.2.2.2.2.2.1)), (h_tried, .inl (cI, 4, .inl s13.2.2.2.2.2.2.1)), (h_best, .inl (cI, 4, .inl s13.2.2.2.2.2.2.2))]) (ws' := [(h, .inr (1, [.ref h_steps, .ref h_tried, .ref h_best, .int s13.2.1])), (h_steps, .inl (cR, 4, .inr (.inr (.inr (.inr (fun j => some (h_steps_r j))))))), ((h_steps_r 0), .inr (3, [.ref (h_steps_a 0)])), ((h_steps_a 0), .inl (cI, 352, .inl v38)), ((h_steps_r 1), .inr (3, [.ref (h_steps_a 1)])), ((h_steps_a 1), .inl (cI, 352, .inl s13.2.2.2.1)), ((h_steps_r 2), .inr (3, [.ref (h_steps_a 2)])), ((h_steps_a 2), .inl (cI, 352, .inl s13.2.2.2.2.1)), ((h_steps_r 3), .inr (3, [.ref (h_steps_a 3)])), ((h_steps_a 3), .inl (cI, 352, .inl s13.2.2.2.2.2.1)), (h_tried, .inl (cI, 4, .inl s13.2.2.2.2.2.2.1)), (h_best, .inl (cI, 4, .inl s13.2.2.2.2.2.2.2)), (a0, .inr (3, [.ref a0_numbers])), (a0_numbers, .inl (cI, 352, .inl f_a0_numbers))]) dX1_tryOrders_82 pkX3_copyFrom gX1_tryOrders_X3_copyFrom (kkX3_copyFrom l D cI cR (h_steps_r 0) (h_steps_a 0) a0 a0_numbers s13.2.2.1 f_a0_numbers v38 h39) ⟨rfl, rfl⟩ ⟨Nat.le_of_ble_eq_true rfl, Nat.le_of_ble_eq_true rfl⟩ rfl rfl (Nat.le_of_ble_eq_true rfl) 0 rfl rfl [2, 3, 12, 13] [0, 1, 4, 5, 6, 7, 8, 9, 10, 11] rfl rfl ⟨rfl, rfl, by decide⟩ ⟨Nat.zero_le _, Nat.zero_le _⟩ [0, 1, 10, 11, 2, 3, 4, 5, 6, 7, 8, 9, 12, 13] rfl rfl ?_
          refine G_aload_n X dX1_tryOrders_85 0 rfl ?_
          refine G_get X (i0 := 0) (ci := 1) (j := 1) (C := RX1) (ref := RX1) (T := TX1) (N := 4) dX1_tryOrders_86 rfl rfl hiX1_tryOrders_0_X1 (by decide) flX1_tryOrders_0_18 rfl rfl ?_
          refine G_iload_n X dX1_tryOrders_89 2 rfl ?_
          refine G_iload X dX1_tryOrders_90 6 rfl ?_
          obtain ⟨g41, h42, h43⟩ := bnd h40
          refine G_iast X (i0 := 10) (ws' := [(h, .inr (1, [.ref h_steps, .ref h_tried, .ref h_best, .int s13.2.1])), (h_steps, .inl (cR, 4, .inr (.inr (.inr (.inr (fun j => some (h_steps_r j))))))), ((h_steps_r 0), .inr (3, [.ref (h_steps_a 0)])), ((h_steps_a 0), .inl (cI, 352, .inl v38)), ((h_steps_r 1), .inr (3, [.ref (h_steps_a 1)])), ((h_steps_a 1), .inl (cI, 352, .inl s13.2.2.2.1)), ((h_steps_r 2), .inr (3, [.ref (h_steps_a 2)])), ((h_steps_a 2), .inl (cI, 352, .inl s13.2.2.2.2.1)), ((h_steps_r 3), .inr (3, [.ref (h_steps_a 3)])), ((h_steps_a 3), .inl (cI, 352, .inl s13.2.2.2.2.2.1)), (h_tried, .inl (cI, 4, .inl g41)), (h_best, .inl (cI, 4, .inl s13.2.2.2.2.2.2.2)), (a0, .inr (3, [.ref a0_numbers])), (a0_numbers, .inl (cI, 352, .inl f_a0_numbers))]) dX1_tryOrders_92 rfl h42 rfl ?_
          refine G_aload_n X dX1_tryOrders_93 0 rfl ?_
          refine G_aload X dX1_tryOrders_94 4 rfl ?_
          refine G_iload_n X dX1_tryOrders_96 2 rfl ?_
          refine G_iconst X (v := 1) dX1_tryOrders_97 (by decide) ?_
          refine G_iaddv X (v := 1) dX1_tryOrders_98 (by decide) ?_
          refine G_iload_n X dX1_tryOrders_99 3 rfl ?_
          refine G_aload X dX1_tryOrders_100 4 rfl ?_
          refine G_iload X dX1_tryOrders_102 6 rfl ?_
          obtain ⟨v44, h45, h46⟩ := bnd h43
          refine G1_calli X (As := [.int s13.1]) (rest := [.int x2, .int 1, .ref (h_steps_r 0), .ref h]) (wr := [(h, .inr (1, [.ref h_steps, .ref h_tried, .ref h_best, .int s13.2.1])), (h_steps, .inl (cR, 4, .inr (.inr (.inr (.inr (fun j => some (h_steps_r j))))))), ((h_steps_r 1), .inr (3, [.ref (h_steps_a 1)])), ((h_steps_a 1), .inl (cI, 352, .inl s13.2.2.2.1)), ((h_steps_r 2), .inr (3, [.ref (h_steps_a 2)])), ((h_steps_a 2), .inl (cI, 352, .inl s13.2.2.2.2.1)), ((h_steps_r 3), .inr (3, [.ref (h_steps_a 3)])), ((h_steps_a 3), .inl (cI, 352, .inl s13.2.2.2.2.2.1)), (h_tried, .inl (cI, 4, .inl g41)), (h_best, .inl (cI, 4, .inl s13.2.2.2.2.2.2.2)), (a0, .inr (3, [.ref a0_numbers])), (a0_numbers, .inl (cI, 352, .inl f_a0_numbers))]) (ws' := [(h, .inr (1, [.ref h_steps, .ref h_tried, .ref h_best, .int s13.2.1])), (h_steps, .inl (cR, 4, .inr (.inr (.inr (.inr (fun j => some (h_steps_r j))))))), ((h_steps_r 0), .inr (3, [.ref (h_steps_a 0)])), ((h_steps_a 0), .inl (cI, 352, .inl v44.2)), ((h_steps_r 1), .inr (3, [.ref (h_steps_a 1)])), ((h_steps_a 1), .inl (cI, 352, .inl s13.2.2.2.1)), ((h_steps_r 2), .inr (3, [.ref (h_steps_a 2)])), ((h_steps_a 2), .inl (cI, 352, .inl s13.2.2.2.2.1)), ((h_steps_r 3), .inr (3, [.ref (h_steps_a 3)])), ((h_steps_a 3), .inl (cI, 352, .inl s13.2.2.2.2.2.1)), (h_tried, .inl (cI, 4, .inl g41)), (h_best, .inl (cI, 4, .inl s13.2.2.2.2.2.2.2)), (a0, .inr (3, [.ref a0_numbers])), (a0_numbers, .inl (cI, 352, .inl f_a0_numbers))]) dX1_tryOrders_104 pkX3_mendRow gX1_tryOrders_X3_mendRow (kkX3_mendRow l D cI cR (h_steps_r 0) (h_steps_a 0) v38 s13.1 v44 h45) ⟨rfl, rfl⟩ ⟨Nat.le_of_ble_eq_true rfl, Nat.le_of_ble_eq_true rfl⟩ rfl rfl (Nat.le_of_ble_eq_true rfl) 0 rfl rfl [2, 3] [0, 1, 4, 5, 6, 7, 8, 9, 10, 11, 12, 13] rfl rfl ⟨rfl, rfl, by decide⟩ ⟨Nat.zero_le _, Nat.zero_le _⟩ [0, 1, 12, 13, 2, 3, 4, 5, 6, 7, 8, 9, 10, 11] rfl rfl ?_
          refine G_iadd X dX1_tryOrders_107 ?_
          obtain ⟨v47, h48, h49⟩ := bnd h46
          refine G1_callv X (As := [.ref (h_steps_r 0), .int 1, .int (x2 + v44.1)]) (rest := []) (wr := [(a0, .inr (3, [.ref a0_numbers])), (a0_numbers, .inl (cI, 352, .inl f_a0_numbers))]) (ws' := [(h, .inr (1, [.ref h_steps, .ref h_tried, .ref h_best, .int v47.1])), (h_steps, .inl (cR, 4, .inr (.inr (.inr (.inr (fun j => some (h_steps_r j))))))), ((h_steps_r 0), .inr (3, [.ref (h_steps_a 0)])), ((h_steps_a 0), .inl (cI, 352, .inl v44.2)), ((h_steps_r 1), .inr (3, [.ref (h_steps_a 1)])), ((h_steps_a 1), .inl (cI, 352, .inl v47.2.1)), ((h_steps_r 2), .inr (3, [.ref (h_steps_a 2)])), ((h_steps_a 2), .inl (cI, 352, .inl v47.2.2.1)), ((h_steps_r 3), .inr (3, [.ref (h_steps_a 3)])), ((h_steps_a 3), .inl (cI, 352, .inl v47.2.2.2.1)), (h_tried, .inl (cI, 4, .inl v47.2.2.2.2.1)), (h_best, .inl (cI, 4, .inl v47.2.2.2.2.2)), (a0, .inr (3, [.ref a0_numbers])), (a0_numbers, .inl (cI, 352, .inl f_a0_numbers))]) dX1_tryOrders_108 pkX1_tryOrders_1 gX1_tryOrders_X1_tryOrders (kkX1_tryOrders_1 l D cI cR h h_steps h_tried h_best (h_steps_r 0) (h_steps_a 0) h_steps_r h_steps_a s13.2.1 s13.2.2.2.1 s13.2.2.2.2.1 s13.2.2.2.2.2.1 g41 s13.2.2.2.2.2.2.2 v44.2 (x2 + v44.1) v47 h48) ⟨rfl, rfl⟩ ⟨Nat.le_of_ble_eq_true rfl, Nat.le_of_ble_eq_true rfl⟩ rfl rfl (Nat.le_of_ble_eq_true rfl) 0 rfl rfl [0, 1, 4, 5, 6, 7, 8, 9, 10, 11, 2, 3] [12, 13] rfl rfl ⟨rfl, rfl, by decide⟩ ⟨Nat.zero_le _, Nat.zero_le _⟩ [2, 3, 12, 13, 4, 5, 6, 7, 8, 9, 10, 11, 0, 1] rfl rfl ?_
          refine G_iinc X (v := (s13.1 + 1)) (lv' := [(6, .int (s13.1 + 1)), (0, .ref h), (1, .ref a0), (2, .int 0), (3, .int x2), (4, .ref (h_steps_r 0)), (5, .int (x2 + v10))]) dX1_tryOrders_111 6 rfl rfl (by decide) rfl ?_
          refine G_goto X (tgt := 51) dX1_tryOrders_114 (by decide) ?_
          cases h49
          exact G_lv [1, 2, 3, 4, 5, 6, 0] rfl (h18 _ rfl)
      · have h50 := ifn h33 h32
        refine G_iinc X (v := (s13.1 + 1)) (lv' := [(6, .int (s13.1 + 1)), (0, .ref h), (1, .ref a0), (2, .int 0), (3, .int x2), (4, .ref (h_steps_r 0)), (5, .int (x2 + v10))]) dX1_tryOrders_111 6 rfl rfl (by decide) rfl ?_
        refine G_goto X (tgt := 51) dX1_tryOrders_114 (by decide) ?_
        cases h50
        exact G_lv [1, 2, 3, 4, 5, 6, 0] rfl (h18 _ rfl)
def rmX1_findBest : Room := { frames := 9, cells := 0, slots := 0, locals := 294 }
theorem pkX1_findBest : cK yX1_findBest wsX1_findBest cX1_findBest 3 (some .int) 1 RX1 := ⟨⟨_, rfl⟩, by decide +kernel⟩
theorem hiX1_findBest_X1 : ∀ w ∈ wsX10, w ∈ wsX1_findBest := by decide +kernel
theorem flX1_findBest_25 : Cond.fieldLink RX1 25 "EchoMargins$Mending" "sum" "I" ∈ wsX1_findBest := by decide +kernel
theorem flX1_findBest_33 : Cond.constant RX1 33 (-1000003) ∈ wsX1_findBest := by decide +kernel
set_option maxHeartbeats 4000000 in
set_option maxRecDepth 100000 in
theorem kkX1_findBest (l : Launch) (D : va_G) (cI cR : ClassId) (h h_steps h_tried h_best a0 a0_numbers : Nat) (h_steps_r h_steps_a : Nat → Nat) (i_h_sum : Int32) (f_h_steps_0 : Nat → Int32) (f_h_steps_1 : Nat → Int32) (f_h_steps_2 : Nat → Int32) (f_h_steps_3 : Nat → Int32) (f_h_tried : Nat → Int32) (f_h_best : Nat → Int32) (f_a0_numbers : Nat → Int32) (z : (Int32 × Int32 × (Nat → Int32) × (Nat → Int32) × (Nat → Int32) × (Nat → Int32) × (Nat → Int32) × (Nat → Int32))) (hz : MX1_findBest i_h_sum f_h_steps_0 f_h_steps_1 f_h_steps_2 f_h_steps_3 f_h_tried f_h_best f_a0_numbers = some z) : cI1 l yX1_findBest wsX1_findBest rmX1_findBest D cI cR [.ref h, .ref a0] [(h, .inr (1, [.ref h_steps, .ref h_tried, .ref h_best, .int i_h_sum])), (h_steps, .inl (cR, 4, .inr (.inr (.inr (.inr (fun j => some (h_steps_r j))))))), ((h_steps_r 0), .inr (3, [.ref (h_steps_a 0)])), ((h_steps_a 0), .inl (cI, 352, .inl f_h_steps_0)), ((h_steps_r 1), .inr (3, [.ref (h_steps_a 1)])), ((h_steps_a 1), .inl (cI, 352, .inl f_h_steps_1)), ((h_steps_r 2), .inr (3, [.ref (h_steps_a 2)])), ((h_steps_a 2), .inl (cI, 352, .inl f_h_steps_2)), ((h_steps_r 3), .inr (3, [.ref (h_steps_a 3)])), ((h_steps_a 3), .inl (cI, 352, .inl f_h_steps_3)), (h_tried, .inl (cI, 4, .inl f_h_tried)), (h_best, .inl (cI, 4, .inl f_h_best)), (a0, .inr (3, [.ref a0_numbers])), (a0_numbers, .inl (cI, 352, .inl f_a0_numbers))] z.1 [(h, .inr (1, [.ref h_steps, .ref h_tried, .ref h_best, .int z.2.1])), (h_steps, .inl (cR, 4, .inr (.inr (.inr (.inr (fun j => some (h_steps_r j))))))), ((h_steps_r 0), .inr (3, [.ref (h_steps_a 0)])), ((h_steps_a 0), .inl (cI, 352, .inl z.2.2.1)), ((h_steps_r 1), .inr (3, [.ref (h_steps_a 1)])), ((h_steps_a 1), .inl (cI, 352, .inl z.2.2.2.1)), ((h_steps_r 2), .inr (3, [.ref (h_steps_a 2)])), ((h_steps_a 2), .inl (cI, 352, .inl z.2.2.2.2.1)), ((h_steps_r 3), .inr (3, [.ref (h_steps_a 3)])), ((h_steps_a 3), .inl (cI, 352, .inl z.2.2.2.2.2.1)), (h_tried, .inl (cI, 4, .inl z.2.2.2.2.2.2.1)), (h_best, .inl (cI, 4, .inl z.2.2.2.2.2.2.2)), (a0, .inr (3, [.ref a0_numbers])), (a0_numbers, .inl (cI, 352, .inl f_a0_numbers))] := by
  unfold MX1_findBest at hz
  refine kI_of (cc := cX1_findBest) (maxL := 3) (own := RX1) (by decide +kernel) rfl rfl (Nat.le_of_ble_eq_true rfl) (lv0 := [(0, .ref h), (1, .ref a0)]) rfl (fun p e s m args below meth c A Q X rt => ?_)
  refine G_aload_n X dX1_findBest_0 1 rfl ?_
  obtain ⟨v1, h2, h3⟩ := bnd hz
  refine G1_callsi X (As := [.ref a0]) (rest := []) (wr := [(h, .inr (1, [.ref h_steps, .ref h_tried, .ref h_best, .int i_h_sum])), (h_steps, .inl (cR, 4, .inr (.inr (.inr (.inr (fun j => some (h_steps_r j))))))), ((h_steps_r 0), .inr (3, [.ref (h_steps_a 0)])), ((h_steps_a 0), .inl (cI, 352, .inl f_h_steps_0)), ((h_steps_r 1), .inr (3, [.ref (h_steps_a 1)])), ((h_steps_a 1), .inl (cI, 352, .inl f_h_steps_1)), ((h_steps_r 2), .inr (3, [.ref (h_steps_a 2)])), ((h_steps_a 2), .inl (cI, 352, .inl f_h_steps_2)), ((h_steps_r 3), .inr (3, [.ref (h_steps_a 3)])), ((h_steps_a 3), .inl (cI, 352, .inl f_h_steps_3)), (h_tried, .inl (cI, 4, .inl f_h_tried)), (h_best, .inl (cI, 4, .inl f_h_best))]) (ws' := [(h, .inr (1, [.ref h_steps, .ref h_tried, .ref h_best, .int i_h_sum])), (h_steps, .inl (cR, 4, .inr (.inr (.inr (.inr (fun j => some (h_steps_r j))))))), ((h_steps_r 0), .inr (3, [.ref (h_steps_a 0)])), ((h_steps_a 0), .inl (cI, 352, .inl f_h_steps_0)), ((h_steps_r 1), .inr (3, [.ref (h_steps_a 1)])), ((h_steps_a 1), .inl (cI, 352, .inl f_h_steps_1)), ((h_steps_r 2), .inr (3, [.ref (h_steps_a 2)])), ((h_steps_a 2), .inl (cI, 352, .inl f_h_steps_2)), ((h_steps_r 3), .inr (3, [.ref (h_steps_a 3)])), ((h_steps_a 3), .inl (cI, 352, .inl f_h_steps_3)), (h_tried, .inl (cI, 4, .inl f_h_tried)), (h_best, .inl (cI, 4, .inl f_h_best)), (a0, .inr (3, [.ref a0_numbers])), (a0_numbers, .inl (cI, 352, .inl f_a0_numbers))]) dX1_findBest_1 pkX1_lostRows gX1_findBest_X1_lostRows (kkX1_lostRows l D cI cR a0 a0_numbers f_a0_numbers v1 h2) ⟨rfl, rfl⟩ ⟨Nat.le_of_ble_eq_true rfl, Nat.le_of_ble_eq_true rfl⟩ rfl rfl (Nat.le_of_ble_eq_true rfl) [12, 13] [0, 1, 2, 3, 4, 5, 6, 7, 8, 9, 10, 11] rfl rfl ⟨rfl, rfl, by decide⟩ ⟨Nat.zero_le _, Nat.zero_le _⟩ [0, 1, 2, 3, 4, 5, 6, 7, 8, 9, 10, 11, 12, 13] rfl rfl ?_
  refine G_istore_n X (lv' := [(2, .int v1), (0, .ref h), (1, .ref a0)]) dX1_findBest_4 (by decide) rfl ?_
  refine G_iload_n X dX1_findBest_5 0 rfl ?_
  refine G_iconst X (v := 4) dX1_findBest_6 (by decide) ?_
  refine G_icmp_le X (tgt := 13) dX1_findBest_7 (by decide) (fun h4 => ?_) (fun h4 => ?_)
  · have h5 := ifp h4 h3
    refine G_aload_n X dX1_findBest_13 1 rfl ?_
    refine G_iconst X (v := (-1)) dX1_findBest_14 (by decide) ?_
    refine G_put X (i0 := 0) (ci := 1) (j := 3) (C := RX1) (ref := RX1) (T := TX1) (N := 4) (ty := .int) (ws' := [(h, .inr (1, [.ref h_steps, .ref h_tried, .ref h_best, .int (-1)])), (h_steps, .inl (cR, 4, .inr (.inr (.inr (.inr (fun j => some (h_steps_r j))))))), ((h_steps_r 0), .inr (3, [.ref (h_steps_a 0)])), ((h_steps_a 0), .inl (cI, 352, .inl f_h_steps_0)), ((h_steps_r 1), .inr (3, [.ref (h_steps_a 1)])), ((h_steps_a 1), .inl (cI, 352, .inl f_h_steps_1)), ((h_steps_r 2), .inr (3, [.ref (h_steps_a 2)])), ((h_steps_a 2), .inl (cI, 352, .inl f_h_steps_2)), ((h_steps_r 3), .inr (3, [.ref (h_steps_a 3)])), ((h_steps_a 3), .inl (cI, 352, .inl f_h_steps_3)), (h_tried, .inl (cI, 4, .inl f_h_tried)), (h_best, .inl (cI, 4, .inl f_h_best)), (a0, .inr (3, [.ref a0_numbers])), (a0_numbers, .inl (cI, 352, .inl f_a0_numbers))]) tyX1 dX1_findBest_15 rfl rfl hiX1_findBest_X1 tyX1_ok nmX1 (by decide) flX1_findBest_25 rfl rfl rfl rfl rfl (Nat.le_of_ble_eq_true rfl) rfl ?_
    refine G_aload_n X dX1_findBest_18 1 rfl ?_
    refine G_aload_n X dX1_findBest_19 2 rfl ?_
    refine G_iconst X (v := 0) dX1_findBest_20 (by decide) ?_
    refine G_iconst X (v := 0) dX1_findBest_21 (by decide) ?_
    obtain ⟨v6, h7, h8⟩ := bnd h5
    refine G1_callv X (As := [.ref a0, .int 0, .int 0]) (rest := []) (wr := []) (ws' := [(h, .inr (1, [.ref h_steps, .ref h_tried, .ref h_best, .int v6.1])), (h_steps, .inl (cR, 4, .inr (.inr (.inr (.inr (fun j => some (h_steps_r j))))))), ((h_steps_r 0), .inr (3, [.ref (h_steps_a 0)])), ((h_steps_a 0), .inl (cI, 352, .inl v6.2.1)), ((h_steps_r 1), .inr (3, [.ref (h_steps_a 1)])), ((h_steps_a 1), .inl (cI, 352, .inl v6.2.2.1)), ((h_steps_r 2), .inr (3, [.ref (h_steps_a 2)])), ((h_steps_a 2), .inl (cI, 352, .inl v6.2.2.2.1)), ((h_steps_r 3), .inr (3, [.ref (h_steps_a 3)])), ((h_steps_a 3), .inl (cI, 352, .inl v6.2.2.2.2.1)), (h_tried, .inl (cI, 4, .inl v6.2.2.2.2.2.1)), (h_best, .inl (cI, 4, .inl v6.2.2.2.2.2.2)), (a0, .inr (3, [.ref a0_numbers])), (a0_numbers, .inl (cI, 352, .inl f_a0_numbers))]) dX1_findBest_22 pkX1_tryOrders_0 gX1_findBest_X1_tryOrders (kkX1_tryOrders_0 l D cI cR h h_steps h_tried h_best a0 a0_numbers h_steps_r h_steps_a (-1) f_h_steps_0 f_h_steps_1 f_h_steps_2 f_h_steps_3 f_h_tried f_h_best f_a0_numbers 0 v6 h7) ⟨rfl, rfl⟩ ⟨Nat.le_of_ble_eq_true rfl, Nat.le_of_ble_eq_true rfl⟩ rfl rfl (Nat.le_of_ble_eq_true rfl) 0 rfl rfl [0, 1, 2, 3, 4, 5, 6, 7, 8, 9, 10, 11, 12, 13] [] rfl rfl ⟨rfl, rfl, by decide⟩ ⟨Nat.zero_le _, Nat.zero_le _⟩ [0, 1, 2, 3, 4, 5, 6, 7, 8, 9, 10, 11, 12, 13] rfl rfl ?_
    refine G_iload_n X dX1_findBest_25 0 rfl ?_
    cases h8
    exact rt _ _ _ _ dX1_findBest_26 ⟨rfl, rfl⟩
  · have h9 := ifn h4 h3
    refine G_ldc X dX1_findBest_10 flX1_findBest_33 ?_
    cases h9
    exact rt _ _ _ _ dX1_findBest_12 ⟨rfl, rfl⟩
def rmX1_bestRow : Room := { frames := 0, cells := 0, slots := 0, locals := 0 }
theorem pkX1_bestRow : cK yX1_bestRow wsX1_bestRow cX1_bestRow 2 (some .int) 1 RX1 := ⟨⟨_, rfl⟩, by decide +kernel⟩
theorem hiX1_bestRow_X1 : ∀ w ∈ wsX10, w ∈ wsX1_bestRow := by decide +kernel
theorem flX1_bestRow_38 : Cond.constant RX1 38 (-1000004) ∈ wsX1_bestRow := by decide +kernel
theorem flX1_bestRow_22 : Cond.fieldLink RX1 22 "EchoMargins$Mending" "best" "[I" ∈ wsX1_bestRow := by decide +kernel
set_option maxHeartbeats 4000000 in
set_option maxRecDepth 100000 in
theorem kkX1_bestRow (l : Launch) (D : va_G) (cI cR : ClassId) (h h_steps h_tried h_best : Nat) (i_h_sum : Int32) (f_h_best : Nat → Int32) (x0 : Int32) (z : Int32) (hz : MX1_bestRow f_h_best x0 = some z) : cI1 l yX1_bestRow wsX1_bestRow rmX1_bestRow D cI cR [.ref h, .int x0] [(h, .inr (1, [.ref h_steps, .ref h_tried, .ref h_best, .int i_h_sum])), (h_best, .inl (cI, 4, .inl f_h_best))] z [(h, .inr (1, [.ref h_steps, .ref h_tried, .ref h_best, .int i_h_sum])), (h_best, .inl (cI, 4, .inl f_h_best))] := by
  unfold MX1_bestRow at hz
  refine kI_of (cc := cX1_bestRow) (maxL := 2) (own := RX1) (by decide +kernel) rfl rfl (Nat.le_of_ble_eq_true rfl) (lv0 := [(0, .ref h), (1, .int x0)]) rfl (fun p e s m args below meth c A Q X rt => ?_)
  refine G_iload_n X dX1_bestRow_0 1 rfl ?_
  refine G_if_lt X (tgt := 18) dX1_bestRow_1 (by decide) (fun h1 => ?_) (fun h1 => ?_)
  · have h2 := ifp h1 hz
    refine G_ldc X dX1_bestRow_18 flX1_bestRow_38 ?_
    cases h2
    exact rt _ _ _ _ dX1_bestRow_20 ⟨rfl, rfl⟩
  · have h3 := ifn h1 hz
    refine G_iload_n X dX1_bestRow_4 1 rfl ?_
    refine G_iconst X (v := 4) dX1_bestRow_5 (by decide) ?_
    refine G_icmp_ge X (tgt := 18) dX1_bestRow_6 (by decide) (fun h4 => ?_) (fun h4 => ?_)
    · have h5 := ifp h4 h3
      refine G_ldc X dX1_bestRow_18 flX1_bestRow_38 ?_
      cases h5
      exact rt _ _ _ _ dX1_bestRow_20 ⟨rfl, rfl⟩
    · have h6 := ifn h4 h3
      refine G_aload_n X dX1_bestRow_9 0 rfl ?_
      refine G_get X (i0 := 0) (ci := 1) (j := 2) (C := RX1) (ref := RX1) (T := TX1) (N := 4) dX1_bestRow_10 rfl rfl hiX1_bestRow_X1 (by decide) flX1_bestRow_22 rfl rfl ?_
      refine G_iload_n X dX1_bestRow_13 1 rfl ?_
      obtain ⟨v7, h8, h9⟩ := bnd h6
      refine G_iald X (i0 := 1) dX1_bestRow_14 rfl h8 ?_
      refine G_goto X (tgt := 20) dX1_bestRow_15 (by decide) ?_
      cases h9
      exact rt _ _ _ _ dX1_bestRow_20 ⟨rfl, rfl⟩
def rmX1_bestSum : Room := { frames := 0, cells := 0, slots := 0, locals := 0 }
theorem pkX1_bestSum : cK yX1_bestSum wsX1_bestSum cX1_bestSum 1 (some .int) 0 RX1 := ⟨⟨_, rfl⟩, by decide +kernel⟩
theorem hiX1_bestSum_X1 : ∀ w ∈ wsX10, w ∈ wsX1_bestSum := by decide +kernel
theorem flX1_bestSum_25 : Cond.fieldLink RX1 25 "EchoMargins$Mending" "sum" "I" ∈ wsX1_bestSum := by decide +kernel
set_option maxHeartbeats 4000000 in
set_option maxRecDepth 100000 in
theorem kkX1_bestSum (l : Launch) (D : va_G) (cI cR : ClassId) (h h_steps h_tried h_best : Nat) (i_h_sum : Int32) (z : Int32) (hz : MX1_bestSum i_h_sum = some z) : cI1 l yX1_bestSum wsX1_bestSum rmX1_bestSum D cI cR [.ref h] [(h, .inr (1, [.ref h_steps, .ref h_tried, .ref h_best, .int i_h_sum]))] z [(h, .inr (1, [.ref h_steps, .ref h_tried, .ref h_best, .int i_h_sum]))] := by
  unfold MX1_bestSum at hz
  refine kI_of (cc := cX1_bestSum) (maxL := 1) (own := RX1) (by decide +kernel) rfl rfl (Nat.le_of_ble_eq_true rfl) (lv0 := [(0, .ref h)]) rfl (fun p e s m args below meth c A Q X rt => ?_)
  refine G_aload_n X dX1_bestSum_0 0 rfl ?_
  refine G_get X (i0 := 0) (ci := 1) (j := 3) (C := RX1) (ref := RX1) (T := TX1) (N := 4) dX1_bestSum_1 rfl rfl hiX1_bestSum_X1 (by decide) flX1_bestSum_25 rfl rfl ?_
  cases hz
  exact rt _ _ _ _ dX1_bestSum_4 ⟨rfl, rfl⟩
