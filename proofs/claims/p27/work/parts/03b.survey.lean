def rmX4_ofCell : Room := { frames := 3, cells := 0, slots := 0, locals := 72 }
theorem pkX4_ofCell : cK yX4_ofCell wsX4_ofCell cX4_ofCell 8 (some .int) 3 RX4 := ⟨⟨_, rfl⟩, by decide +kernel⟩
theorem hiX4_ofCell_X4 : ∀ w ∈ wsX40, w ∈ wsX4_ofCell := by decide +kernel
theorem flX4_ofCell_9 : Cond.fieldLink RX4 9 "EchoMargins$Survey" "ring" "LEchoMargins$Ring;" ∈ wsX4_ofCell := by decide +kernel
theorem flX4_ofCell_24 : Cond.constant RX4 24 (-1000001) ∈ wsX4_ofCell := by decide +kernel
theorem flX4_ofCell_36 : Cond.constant RX4 36 (-1000004) ∈ wsX4_ofCell := by decide +kernel
set_option maxHeartbeats 4000000 in
set_option maxRecDepth 100000 in
theorem kkX4_ofCell (l : Launch) (D : va_G) (cI cR : ClassId) (h h_ring h_ring_numbers : Nat) (f_h_ring_numbers : Nat → Int32) (x0 : Int32) (x1 : Int32) (x2 : Int32) (z : Int32) (hz : MX4_ofCell f_h_ring_numbers x0 x1 x2 = some z) : cI1 l yX4_ofCell wsX4_ofCell rmX4_ofCell D cI cR [.ref h, .int x0, .int x1, .int x2] [(h, .inr (4, [.ref h_ring])), (h_ring, .inr (3, [.ref h_ring_numbers])), (h_ring_numbers, .inl (cI, 352, .inl f_h_ring_numbers))] z [(h, .inr (4, [.ref h_ring])), (h_ring, .inr (3, [.ref h_ring_numbers])), (h_ring_numbers, .inl (cI, 352, .inl f_h_ring_numbers))] := by
  unfold MX4_ofCell at hz
  refine kI_of (cc := cX4_ofCell) (maxL := 8) (own := RX4) (by decide +kernel) rfl rfl (Nat.le_of_ble_eq_true rfl) (lv0 := [(0, .ref h), (1, .int x0), (2, .int x1), (3, .int x2)]) rfl (fun p e s m args below meth c A Q X rt => ?_)
  refine G_aload_n X dX4_ofCell_0 0 rfl ?_
  refine G_get X (i0 := 0) (ci := 4) (j := 0) (C := RX4) (ref := RX4) (T := TX4) (N := 1) dX4_ofCell_1 rfl rfl hiX4_ofCell_X4 (by decide) flX4_ofCell_9 rfl rfl ?_
  refine G_iload_n X dX4_ofCell_4 1 rfl ?_
  obtain ⟨v1, h2, h3⟩ := bnd hz
  refine G1_calli X (As := [.int x0]) (rest := []) (wr := [(h, .inr (4, [.ref h_ring]))]) (ws' := [(h, .inr (4, [.ref h_ring])), (h_ring, .inr (3, [.ref h_ring_numbers])), (h_ring_numbers, .inl (cI, 352, .inl f_h_ring_numbers))]) dX4_ofCell_5 pkX3_hasRow gX4_ofCell_X3_hasRow (kkX3_hasRow l D cI cR h_ring h_ring_numbers f_h_ring_numbers x0 v1 h2) ⟨rfl, rfl⟩ ⟨Nat.le_of_ble_eq_true rfl, Nat.le_of_ble_eq_true rfl⟩ rfl rfl (Nat.le_of_ble_eq_true rfl) 0 rfl rfl [1, 2] [0] rfl rfl ⟨rfl, rfl, by decide⟩ ⟨Nat.zero_le _, Nat.zero_le _⟩ [0, 1, 2] rfl rfl ?_
  refine G_if_eq X (tgt := 18) dX4_ofCell_8 (by decide) (fun h4 => ?_) (fun h4 => ?_)
  · have h5 := ifp h4 h3
    refine G_ldc X dX4_ofCell_18 flX4_ofCell_24 ?_
    cases h5
    exact rt _ _ _ _ dX4_ofCell_20 ⟨rfl, rfl⟩
  · have h6 := ifn h4 h3
    refine G_iload_n X dX4_ofCell_11 2 rfl ?_
    obtain ⟨v7, h8, h9⟩ := bnd h6
    refine G1_callsi X (As := [.int x1]) (rest := []) (wr := [(h, .inr (4, [.ref h_ring])), (h_ring, .inr (3, [.ref h_ring_numbers])), (h_ring_numbers, .inl (cI, 352, .inl f_h_ring_numbers))]) (ws' := [(h, .inr (4, [.ref h_ring])), (h_ring, .inr (3, [.ref h_ring_numbers])), (h_ring_numbers, .inl (cI, 352, .inl f_h_ring_numbers))]) dX4_ofCell_12 pkX3_isCell gX4_ofCell_X3_isCell (kkX3_isCell l D cI cR x1 v7 h8) ⟨rfl, rfl⟩ ⟨Nat.le_of_ble_eq_true rfl, Nat.le_of_ble_eq_true rfl⟩ rfl rfl (Nat.le_of_ble_eq_true rfl) [] [0, 1, 2] rfl rfl ⟨rfl, rfl, by decide⟩ ⟨Nat.zero_le _, Nat.zero_le _⟩ [0, 1, 2] rfl rfl ?_
    refine G_if_ne X (tgt := 21) dX4_ofCell_15 (by decide) (fun h10 => ?_) (fun h10 => ?_)
    · have h11 := ifp h10 h9
      refine G_ldc X dX4_ofCell_18 flX4_ofCell_24 ?_
      cases h11
      exact rt _ _ _ _ dX4_ofCell_20 ⟨rfl, rfl⟩
    · have h12 := ifn h10 h9
      refine G_iload_n X dX4_ofCell_21 1 rfl ?_
      refine G_bipush X (v := 8) dX4_ofCell_22 (by decide) ?_
      refine G_imul X dX4_ofCell_24 ?_
      refine G_iload_n X dX4_ofCell_25 2 rfl ?_
      refine G_iadd X dX4_ofCell_26 ?_
      refine G_istore X (lv' := [(4, .int ((x0 * 8) + x1)), (0, .ref h), (1, .int x0), (2, .int x1), (3, .int x2)]) dX4_ofCell_27 (by decide) rfl ?_
      refine G_aload_n X dX4_ofCell_29 1 rfl ?_
      refine G_get X (i0 := 0) (ci := 4) (j := 0) (C := RX4) (ref := RX4) (T := TX4) (N := 1) dX4_ofCell_30 rfl rfl hiX4_ofCell_X4 (by decide) flX4_ofCell_9 rfl rfl ?_
      refine G_iload_n X dX4_ofCell_33 2 rfl ?_
      obtain ⟨v13, h14, h15⟩ := bnd h12
      refine G1_calli X (As := [.int x0]) (rest := []) (wr := [(h, .inr (4, [.ref h_ring]))]) (ws' := [(h, .inr (4, [.ref h_ring])), (h_ring, .inr (3, [.ref h_ring_numbers])), (h_ring_numbers, .inl (cI, 352, .inl f_h_ring_numbers))]) dX4_ofCell_34 pkX3_lives gX4_ofCell_X3_lives (kkX3_lives l D cI cR h_ring h_ring_numbers f_h_ring_numbers x0 v13 h14) ⟨rfl, rfl⟩ ⟨Nat.le_of_ble_eq_true rfl, Nat.le_of_ble_eq_true rfl⟩ rfl rfl (Nat.le_of_ble_eq_true rfl) 0 rfl rfl [1, 2] [0] rfl rfl ⟨rfl, rfl, by decide⟩ ⟨Nat.zero_le _, Nat.zero_le _⟩ [0, 1, 2] rfl rfl ?_
      obtain ⟨j16, h17, h18⟩ := bnd h15
      have J19 : G p l e rmX4_ofCell s m args below meth c D A 8 Q 0 0 56 [(0, .ref h), (1, .int x0), (2, .int x1), (3, .int x2), (4, .int ((x0 * 8) + x1))] [.int j16] [(h, .inr (4, [.ref h_ring])), (h_ring, .inr (3, [.ref h_ring_numbers])), (h_ring_numbers, .inl (cI, 352, .inl f_h_ring_numbers))] := by
        refine G_istore X (lv' := [(5, .int j16), (0, .ref h), (1, .int x0), (2, .int x1), (3, .int x2), (4, .int ((x0 * 8) + x1))]) dX4_ofCell_56 (by decide) rfl ?_
        refine G_aload_n X dX4_ofCell_58 1 rfl ?_
        refine G_get X (i0 := 0) (ci := 4) (j := 0) (C := RX4) (ref := RX4) (T := TX4) (N := 1) dX4_ofCell_59 rfl rfl hiX4_ofCell_X4 (by decide) flX4_ofCell_9 rfl rfl ?_
        refine G_iload_n X dX4_ofCell_62 2 rfl ?_
        refine G_iload_n X dX4_ofCell_63 3 rfl ?_
        obtain ⟨v20, h21, h22⟩ := bnd h18
        refine G1_calli X (As := [.int x0, .int x1]) (rest := []) (wr := [(h, .inr (4, [.ref h_ring]))]) (ws' := [(h, .inr (4, [.ref h_ring])), (h_ring, .inr (3, [.ref h_ring_numbers])), (h_ring_numbers, .inl (cI, 352, .inl f_h_ring_numbers))]) dX4_ofCell_64 pkX3_freshEcho gX4_ofCell_X3_freshEcho (kkX3_freshEcho l D cI cR h_ring h_ring_numbers f_h_ring_numbers x0 x1 v20 h21) ⟨rfl, rfl⟩ ⟨Nat.le_of_ble_eq_true rfl, Nat.le_of_ble_eq_true rfl⟩ rfl rfl (Nat.le_of_ble_eq_true rfl) 0 rfl rfl [1, 2] [0] rfl rfl ⟨rfl, rfl, by decide⟩ ⟨Nat.zero_le _, Nat.zero_le _⟩ [0, 1, 2] rfl rfl ?_
        refine G_istore X (lv' := [(6, .int v20), (5, .int j16), (0, .ref h), (1, .int x0), (2, .int x1), (3, .int x2), (4, .int ((x0 * 8) + x1))]) dX4_ofCell_67 (by decide) rfl ?_
        refine G_iload X dX4_ofCell_69 0 rfl ?_
        refine G_iconst X (v := (-1)) dX4_ofCell_71 (by decide) ?_
        obtain ⟨j23, h24, h25⟩ := bnd h22
        have J26 : G p l e rmX4_ofCell s m args below meth c D A 8 Q 0 0 80 [(0, .ref h), (3, .int x2), (4, .int ((x0 * 8) + x1)), (5, .int j16), (6, .int v20)] [.int j23] [(h, .inr (4, [.ref h_ring])), (h_ring, .inr (3, [.ref h_ring_numbers])), (h_ring_numbers, .inl (cI, 352, .inl f_h_ring_numbers))] := by
          refine G_istore X (lv' := [(7, .int j23), (0, .ref h), (3, .int x2), (4, .int ((x0 * 8) + x1)), (5, .int j16), (6, .int v20)]) dX4_ofCell_80 (by decide) rfl ?_
          refine G_iload_n X dX4_ofCell_82 2 rfl ?_
          by_cases h27 : x2 = 0
          · have h28 := ifp h27 h25
            refine G_tableIn X (off := 33) (tgt := 116) dX4_ofCell_83 (by rw [h27]; decide) (by rw [h27]; decide) (by rw [h27]; rfl) (by decide) ?_
            refine G_iload X dX4_ofCell_116 4 rfl ?_
            refine G_iconst X (v := (-1)) dX4_ofCell_118 (by decide) ?_
            refine G_icmp_ne X (tgt := 127) dX4_ofCell_119 (by decide) (fun h30 => ?_) (fun h30 => ?_)
            · have h31 := ifp h30 h28
              refine G_ldc X dX4_ofCell_122 flX4_ofCell_36 ?_
              refine G_goto X (tgt := 129) dX4_ofCell_124 (by decide) ?_
              cases h31
              exact rt _ _ _ _ dX4_ofCell_129 ⟨rfl, rfl⟩
            · have h32 := ifn h30 h28
              refine G_iload X dX4_ofCell_127 4 rfl ?_
              cases h32
              exact rt _ _ _ _ dX4_ofCell_129 ⟨rfl, rfl⟩
          · have h29 := ifn h27 h25
            by_cases h33 : x2 = 1
            · have h34 := ifp h33 h29
              refine G_tableIn X (off := 47) (tgt := 130) dX4_ofCell_83 (by rw [h33]; decide) (by rw [h33]; decide) (by rw [h33]; rfl) (by decide) ?_
              refine G_aload_n X dX4_ofCell_130 1 rfl ?_
              refine G_get X (i0 := 0) (ci := 4) (j := 0) (C := RX4) (ref := RX4) (T := TX4) (N := 1) dX4_ofCell_131 rfl rfl hiX4_ofCell_X4 (by decide) flX4_ofCell_9 rfl rfl ?_
              refine G_sipush X (v := 136) dX4_ofCell_134 (by decide) ?_
              refine G_iload X dX4_ofCell_137 3 rfl ?_
              refine G_iadd X dX4_ofCell_139 ?_
              obtain ⟨v36, h37, h38⟩ := bnd h34
              refine G1_calli X (As := [.int (136 + ((x0 * 8) + x1))]) (rest := []) (wr := [(h, .inr (4, [.ref h_ring]))]) (ws' := [(h, .inr (4, [.ref h_ring])), (h_ring, .inr (3, [.ref h_ring_numbers])), (h_ring_numbers, .inl (cI, 352, .inl f_h_ring_numbers))]) dX4_ofCell_140 pkX3_get gX4_ofCell_X3_get (kkX3_get l D cI cR h_ring h_ring_numbers f_h_ring_numbers (136 + ((x0 * 8) + x1)) v36 h37) ⟨rfl, rfl⟩ ⟨Nat.le_of_ble_eq_true rfl, Nat.le_of_ble_eq_true rfl⟩ rfl rfl (Nat.le_of_ble_eq_true rfl) 0 rfl rfl [1, 2] [0] rfl rfl ⟨rfl, rfl, by decide⟩ ⟨Nat.zero_le _, Nat.zero_le _⟩ [0, 1, 2] rfl rfl ?_
              cases h38
              exact rt _ _ _ _ dX4_ofCell_143 ⟨rfl, rfl⟩
            · have h35 := ifn h33 h29
              by_cases h39 : x2 = 2
              · have h40 := ifp h39 h35
                refine G_tableIn X (off := 61) (tgt := 144) dX4_ofCell_83 (by rw [h39]; decide) (by rw [h39]; decide) (by rw [h39]; rfl) (by decide) ?_
                refine G_iload X dX4_ofCell_144 0 rfl ?_
                refine G_if_eq X (tgt := 157) dX4_ofCell_146 (by decide) (fun h42 => ?_) (fun h42 => ?_)
                · have h43 := ifp h42 h40
                  refine G_ldc X dX4_ofCell_157 flX4_ofCell_36 ?_
                  cases h43
                  exact rt _ _ _ _ dX4_ofCell_159 ⟨rfl, rfl⟩
                · have h44 := ifn h42 h40
                  refine G_iload X dX4_ofCell_149 5 rfl ?_
                  obtain ⟨v45, h46, h47⟩ := bnd h44
                  refine G1_callsi X (As := [.int v20]) (rest := []) (wr := [(h, .inr (4, [.ref h_ring])), (h_ring, .inr (3, [.ref h_ring_numbers])), (h_ring_numbers, .inl (cI, 352, .inl f_h_ring_numbers))]) (ws' := [(h, .inr (4, [.ref h_ring])), (h_ring, .inr (3, [.ref h_ring_numbers])), (h_ring_numbers, .inl (cI, 352, .inl f_h_ring_numbers))]) dX4_ofCell_151 pkX3_valueOf gX4_ofCell_X3_valueOf (kkX3_valueOf l D cI cR v20 v45 h46) ⟨rfl, rfl⟩ ⟨Nat.le_of_ble_eq_true rfl, Nat.le_of_ble_eq_true rfl⟩ rfl rfl (Nat.le_of_ble_eq_true rfl) [] [0, 1, 2] rfl rfl ⟨rfl, rfl, by decide⟩ ⟨Nat.zero_le _, Nat.zero_le _⟩ [0, 1, 2] rfl rfl ?_
                  refine G_goto X (tgt := 159) dX4_ofCell_154 (by decide) ?_
                  cases h47
                  exact rt _ _ _ _ dX4_ofCell_159 ⟨rfl, rfl⟩
              · have h41 := ifn h39 h35
                by_cases h48 : x2 = 3
                · have h49 := ifp h48 h41
                  refine G_tableIn X (off := 77) (tgt := 160) dX4_ofCell_83 (by rw [h48]; decide) (by rw [h48]; decide) (by rw [h48]; rfl) (by decide) ?_
                  refine G_iload X dX4_ofCell_160 0 rfl ?_
                  refine G_if_eq X (tgt := 177) dX4_ofCell_162 (by decide) (fun h51 => ?_) (fun h51 => ?_)
                  · have h52 := ifp h51 h49
                    refine G_ldc X dX4_ofCell_177 flX4_ofCell_36 ?_
                    cases h52
                    exact rt _ _ _ _ dX4_ofCell_179 ⟨rfl, rfl⟩
                  · have h53 := ifn h51 h49
                    refine G_aload_n X dX4_ofCell_165 1 rfl ?_
                    refine G_get X (i0 := 0) (ci := 4) (j := 0) (C := RX4) (ref := RX4) (T := TX4) (N := 1) dX4_ofCell_166 rfl rfl hiX4_ofCell_X4 (by decide) flX4_ofCell_9 rfl rfl ?_
                    refine G_iload X dX4_ofCell_169 5 rfl ?_
                    obtain ⟨v54, h55, h56⟩ := bnd h53
                    refine G1_calli X (As := [.int v20]) (rest := []) (wr := [(h, .inr (4, [.ref h_ring]))]) (ws' := [(h, .inr (4, [.ref h_ring])), (h_ring, .inr (3, [.ref h_ring_numbers])), (h_ring_numbers, .inl (cI, 352, .inl f_h_ring_numbers))]) dX4_ofCell_171 pkX3_ageOf gX4_ofCell_X3_ageOf (kkX3_ageOf l D cI cR h_ring h_ring_numbers f_h_ring_numbers v20 v54 h55) ⟨rfl, rfl⟩ ⟨Nat.le_of_ble_eq_true rfl, Nat.le_of_ble_eq_true rfl⟩ rfl rfl (Nat.le_of_ble_eq_true rfl) 0 rfl rfl [1, 2] [0] rfl rfl ⟨rfl, rfl, by decide⟩ ⟨Nat.zero_le _, Nat.zero_le _⟩ [0, 1, 2] rfl rfl ?_
                    refine G_goto X (tgt := 179) dX4_ofCell_174 (by decide) ?_
                    cases h56
                    exact rt _ _ _ _ dX4_ofCell_179 ⟨rfl, rfl⟩
                · have h50 := ifn h48 h41
                  by_cases h57 : x2 = 4
                  · have h58 := ifp h57 h50
                    refine G_tableIn X (off := 97) (tgt := 180) dX4_ofCell_83 (by rw [h57]; decide) (by rw [h57]; decide) (by rw [h57]; rfl) (by decide) ?_
                    refine G_iload X dX4_ofCell_180 0 rfl ?_
                    refine G_if_eq X (tgt := 199) dX4_ofCell_182 (by decide) (fun h60 => ?_) (fun h60 => ?_)
                    · have h61 := ifp h60 h58
                      refine G_iconst X (v := 0) dX4_ofCell_199 (by decide) ?_
                      cases h61
                      exact rt _ _ _ _ dX4_ofCell_200 ⟨rfl, rfl⟩
                    · have h62 := ifn h60 h58
                      refine G_iload X dX4_ofCell_185 5 rfl ?_
                      obtain ⟨v63, h64, h65⟩ := bnd h62
                      refine G1_callsi X (As := [.int v20]) (rest := []) (wr := [(h, .inr (4, [.ref h_ring])), (h_ring, .inr (3, [.ref h_ring_numbers])), (h_ring_numbers, .inl (cI, 352, .inl f_h_ring_numbers))]) (ws' := [(h, .inr (4, [.ref h_ring])), (h_ring, .inr (3, [.ref h_ring_numbers])), (h_ring_numbers, .inl (cI, 352, .inl f_h_ring_numbers))]) dX4_ofCell_187 pkX3_valueOf gX4_ofCell_X3_valueOf (kkX3_valueOf l D cI cR v20 v63 h64) ⟨rfl, rfl⟩ ⟨Nat.le_of_ble_eq_true rfl, Nat.le_of_ble_eq_true rfl⟩ rfl rfl (Nat.le_of_ble_eq_true rfl) [] [0, 1, 2] rfl rfl ⟨rfl, rfl, by decide⟩ ⟨Nat.zero_le _, Nat.zero_le _⟩ [0, 1, 2] rfl rfl ?_
                      refine G_iload X dX4_ofCell_190 4 rfl ?_
                      refine G_icmp_ne X (tgt := 199) dX4_ofCell_192 (by decide) (fun h66 => ?_) (fun h66 => ?_)
                      · have h67 := ifp h66 h65
                        refine G_iconst X (v := 1) dX4_ofCell_195 (by decide) ?_
                        refine G_goto X (tgt := 200) dX4_ofCell_196 (by decide) ?_
                        cases h67
                        exact rt _ _ _ _ dX4_ofCell_200 ⟨rfl, rfl⟩
                      · have h68 := ifn h66 h65
                        refine G_iconst X (v := 0) dX4_ofCell_199 (by decide) ?_
                        cases h68
                        exact rt _ _ _ _ dX4_ofCell_200 ⟨rfl, rfl⟩
                  · have h59 := ifn h57 h50
                    have h27 : ¬ (x2).toInt = 0 := fun q => h27 (Int32.toInt_inj.mp (q.trans (by decide)))
                    have h33 : ¬ (x2).toInt = 1 := fun q => h33 (Int32.toInt_inj.mp (q.trans (by decide)))
                    have h39 : ¬ (x2).toInt = 2 := fun q => h39 (Int32.toInt_inj.mp (q.trans (by decide)))
                    have h48 : ¬ (x2).toInt = 3 := fun q => h48 (Int32.toInt_inj.mp (q.trans (by decide)))
                    have h57 : ¬ (x2).toInt = 4 := fun q => h57 (Int32.toInt_inj.mp (q.trans (by decide)))
                    refine G_tableOut X (tgt := 201) dX4_ofCell_83 (by omega) (by decide) ?_
                    refine G_ldc X dX4_ofCell_201 flX4_ofCell_24 ?_
                    cases h59
                    exact rt _ _ _ _ dX4_ofCell_203 ⟨rfl, rfl⟩
        refine G_icmp_eq X (tgt := 79) dX4_ofCell_72 (by decide) (fun h69 => ?_) (fun h69 => ?_)
        · have h70 := ifp h69 h24
          refine G_iconst X (v := 0) dX4_ofCell_79 (by decide) ?_
          cases h70
          exact G_lv [2, 5, 6, 1, 0] rfl (J26)
        · have h71 := ifn h69 h24
          refine G_iconst X (v := 1) dX4_ofCell_75 (by decide) ?_
          refine G_goto X (tgt := 80) dX4_ofCell_76 (by decide) ?_
          cases h71
          exact G_lv [2, 5, 6, 1, 0] rfl (J26)
      refine G_if_eq X (tgt := 55) dX4_ofCell_37 (by decide) (fun h72 => ?_) (fun h72 => ?_)
      · have h73 := ifp h72 h17
        refine G_iconst X (v := (-1)) dX4_ofCell_55 (by decide) ?_
        cases h73
        exact G_lv [1, 2, 3, 4, 0] rfl (J19)
      · have h74 := ifn h72 h17
        refine G_aload_n X dX4_ofCell_40 1 rfl ?_
        refine G_get X (i0 := 0) (ci := 4) (j := 0) (C := RX4) (ref := RX4) (T := TX4) (N := 1) dX4_ofCell_41 rfl rfl hiX4_ofCell_X4 (by decide) flX4_ofCell_9 rfl rfl ?_
        refine G_bipush X (v := 64) dX4_ofCell_44 (by decide) ?_
        refine G_iload X dX4_ofCell_46 0 rfl ?_
        refine G_iadd X dX4_ofCell_48 ?_
        obtain ⟨v75, h76, h77⟩ := bnd h74
        refine G1_calli X (As := [.int (64 + ((x0 * 8) + x1))]) (rest := []) (wr := [(h, .inr (4, [.ref h_ring]))]) (ws' := [(h, .inr (4, [.ref h_ring])), (h_ring, .inr (3, [.ref h_ring_numbers])), (h_ring_numbers, .inl (cI, 352, .inl f_h_ring_numbers))]) dX4_ofCell_49 pkX3_get gX4_ofCell_X3_get (kkX3_get l D cI cR h_ring h_ring_numbers f_h_ring_numbers (64 + ((x0 * 8) + x1)) v75 h76) ⟨rfl, rfl⟩ ⟨Nat.le_of_ble_eq_true rfl, Nat.le_of_ble_eq_true rfl⟩ rfl rfl (Nat.le_of_ble_eq_true rfl) 0 rfl rfl [1, 2] [0] rfl rfl ⟨rfl, rfl, by decide⟩ ⟨Nat.zero_le _, Nat.zero_le _⟩ [0, 1, 2] rfl rfl ?_
        refine G_goto X (tgt := 56) dX4_ofCell_52 (by decide) ?_
        cases h77
        exact G_lv [1, 2, 3, 4, 0] rfl (J19)
def rmX4_echoIn : Room := { frames := 1, cells := 0, slots := 0, locals := 21 }
theorem pkX4_echoIn : cK yX4_echoIn wsX4_echoIn cX4_echoIn 3 (some .int) 2 RX4 := ⟨⟨_, rfl⟩, by decide +kernel⟩
theorem hiX4_echoIn_X4 : ∀ w ∈ wsX40, w ∈ wsX4_echoIn := by decide +kernel
theorem flX4_echoIn_9 : Cond.fieldLink RX4 9 "EchoMargins$Survey" "ring" "LEchoMargins$Ring;" ∈ wsX4_echoIn := by decide +kernel
set_option maxHeartbeats 4000000 in
set_option maxRecDepth 100000 in
theorem kkX4_echoIn (l : Launch) (D : va_G) (cI cR : ClassId) (h h_ring h_ring_numbers : Nat) (f_h_ring_numbers : Nat → Int32) (x0 : Int32) (x1 : Int32) (z : Int32) (hz : MX4_echoIn f_h_ring_numbers x0 x1 = some z) : cI1 l yX4_echoIn wsX4_echoIn rmX4_echoIn D cI cR [.ref h, .int x0, .int x1] [(h, .inr (4, [.ref h_ring])), (h_ring, .inr (3, [.ref h_ring_numbers])), (h_ring_numbers, .inl (cI, 352, .inl f_h_ring_numbers))] z [(h, .inr (4, [.ref h_ring])), (h_ring, .inr (3, [.ref h_ring_numbers])), (h_ring_numbers, .inl (cI, 352, .inl f_h_ring_numbers))] := by
  unfold MX4_echoIn at hz
  refine kI_of (cc := cX4_echoIn) (maxL := 3) (own := RX4) (by decide +kernel) rfl rfl (Nat.le_of_ble_eq_true rfl) (lv0 := [(0, .ref h), (1, .int x0), (2, .int x1)]) rfl (fun p e s m args below meth c A Q X rt => ?_)
  refine G_aload_n X dX4_echoIn_0 0 rfl ?_
  refine G_get X (i0 := 0) (ci := 4) (j := 0) (C := RX4) (ref := RX4) (T := TX4) (N := 1) dX4_echoIn_1 rfl rfl hiX4_echoIn_X4 (by decide) flX4_echoIn_9 rfl rfl ?_
  refine G_sipush X (v := 208) dX4_echoIn_4 (by decide) ?_
  refine G_iload_n X dX4_echoIn_7 1 rfl ?_
  refine G_bipush X (v := 16) dX4_echoIn_8 (by decide) ?_
  refine G_imul X dX4_echoIn_10 ?_
  refine G_iadd X dX4_echoIn_11 ?_
  refine G_iload_n X dX4_echoIn_12 2 rfl ?_
  refine G_iadd X dX4_echoIn_13 ?_
  obtain ⟨v1, h2, h3⟩ := bnd hz
  refine G1_calli X (As := [.int ((208 + (x0 * 16)) + x1)]) (rest := []) (wr := [(h, .inr (4, [.ref h_ring]))]) (ws' := [(h, .inr (4, [.ref h_ring])), (h_ring, .inr (3, [.ref h_ring_numbers])), (h_ring_numbers, .inl (cI, 352, .inl f_h_ring_numbers))]) dX4_echoIn_14 pkX3_get gX4_echoIn_X3_get (kkX3_get l D cI cR h_ring h_ring_numbers f_h_ring_numbers ((208 + (x0 * 16)) + x1) v1 h2) ⟨rfl, rfl⟩ ⟨Nat.le_of_ble_eq_true rfl, Nat.le_of_ble_eq_true rfl⟩ rfl rfl (Nat.le_of_ble_eq_true rfl) 0 rfl rfl [1, 2] [0] rfl rfl ⟨rfl, rfl, by decide⟩ ⟨Nat.zero_le _, Nat.zero_le _⟩ [0, 1, 2] rfl rfl ?_
  cases h3
  exact rt _ _ _ _ dX4_echoIn_17 ⟨rfl, rfl⟩
def rmX4_ofMargin : Room := { frames := 2, cells := 0, slots := 0, locals := 43 }
theorem pkX4_ofMargin : cK yX4_ofMargin wsX4_ofMargin cX4_ofMargin 5 (some .int) 3 RX4 := ⟨⟨_, rfl⟩, by decide +kernel⟩
theorem hiX4_ofMargin_X4 : ∀ w ∈ wsX40, w ∈ wsX4_ofMargin := by decide +kernel
theorem flX4_ofMargin_9 : Cond.fieldLink RX4 9 "EchoMargins$Survey" "ring" "LEchoMargins$Ring;" ∈ wsX4_ofMargin := by decide +kernel
theorem flX4_ofMargin_24 : Cond.constant RX4 24 (-1000001) ∈ wsX4_ofMargin := by decide +kernel
theorem flX4_ofMargin_36 : Cond.constant RX4 36 (-1000004) ∈ wsX4_ofMargin := by decide +kernel
set_option maxHeartbeats 4000000 in
set_option maxRecDepth 100000 in
theorem kkX4_ofMargin (l : Launch) (D : va_G) (cI cR : ClassId) (h h_ring h_ring_numbers : Nat) (f_h_ring_numbers : Nat → Int32) (x0 : Int32) (x1 : Int32) (x2 : Int32) (z : Int32) (hz : MX4_ofMargin f_h_ring_numbers x0 x1 x2 = some z) : cI1 l yX4_ofMargin wsX4_ofMargin rmX4_ofMargin D cI cR [.ref h, .int x0, .int x1, .int x2] [(h, .inr (4, [.ref h_ring])), (h_ring, .inr (3, [.ref h_ring_numbers])), (h_ring_numbers, .inl (cI, 352, .inl f_h_ring_numbers))] z [(h, .inr (4, [.ref h_ring])), (h_ring, .inr (3, [.ref h_ring_numbers])), (h_ring_numbers, .inl (cI, 352, .inl f_h_ring_numbers))] := by
  unfold MX4_ofMargin at hz
  refine kI_of (cc := cX4_ofMargin) (maxL := 5) (own := RX4) (by decide +kernel) rfl rfl (Nat.le_of_ble_eq_true rfl) (lv0 := [(0, .ref h), (1, .int x0), (2, .int x1), (3, .int x2)]) rfl (fun p e s m args below meth c A Q X rt => ?_)
  refine G_aload_n X dX4_ofMargin_0 0 rfl ?_
  refine G_get X (i0 := 0) (ci := 4) (j := 0) (C := RX4) (ref := RX4) (T := TX4) (N := 1) dX4_ofMargin_1 rfl rfl hiX4_ofMargin_X4 (by decide) flX4_ofMargin_9 rfl rfl ?_
  refine G_iload_n X dX4_ofMargin_4 1 rfl ?_
  obtain ⟨v1, h2, h3⟩ := bnd hz
  refine G1_calli X (As := [.int x0]) (rest := []) (wr := [(h, .inr (4, [.ref h_ring]))]) (ws' := [(h, .inr (4, [.ref h_ring])), (h_ring, .inr (3, [.ref h_ring_numbers])), (h_ring_numbers, .inl (cI, 352, .inl f_h_ring_numbers))]) dX4_ofMargin_5 pkX3_hasRow gX4_ofMargin_X3_hasRow (kkX3_hasRow l D cI cR h_ring h_ring_numbers f_h_ring_numbers x0 v1 h2) ⟨rfl, rfl⟩ ⟨Nat.le_of_ble_eq_true rfl, Nat.le_of_ble_eq_true rfl⟩ rfl rfl (Nat.le_of_ble_eq_true rfl) 0 rfl rfl [1, 2] [0] rfl rfl ⟨rfl, rfl, by decide⟩ ⟨Nat.zero_le _, Nat.zero_le _⟩ [0, 1, 2] rfl rfl ?_
  refine G_if_eq X (tgt := 24) dX4_ofMargin_8 (by decide) (fun h4 => ?_) (fun h4 => ?_)
  · have h5 := ifp h4 h3
    refine G_ldc X dX4_ofMargin_24 flX4_ofMargin_24 ?_
    cases h5
    exact rt _ _ _ _ dX4_ofMargin_26 ⟨rfl, rfl⟩
  · have h6 := ifn h4 h3
    refine G_iload_n X dX4_ofMargin_11 2 rfl ?_
    refine G_if_lt X (tgt := 24) dX4_ofMargin_12 (by decide) (fun h7 => ?_) (fun h7 => ?_)
    · have h8 := ifp h7 h6
      refine G_ldc X dX4_ofMargin_24 flX4_ofMargin_24 ?_
      cases h8
      exact rt _ _ _ _ dX4_ofMargin_26 ⟨rfl, rfl⟩
    · have h9 := ifn h7 h6
      refine G_iload_n X dX4_ofMargin_15 3 rfl ?_
      refine G_if_lt X (tgt := 24) dX4_ofMargin_16 (by decide) (fun h10 => ?_) (fun h10 => ?_)
      · have h11 := ifp h10 h9
        refine G_ldc X dX4_ofMargin_24 flX4_ofMargin_24 ?_
        cases h11
        exact rt _ _ _ _ dX4_ofMargin_26 ⟨rfl, rfl⟩
      · have h12 := ifn h10 h9
        refine G_iload_n X dX4_ofMargin_19 3 rfl ?_
        refine G_iconst X (v := 4) dX4_ofMargin_20 (by decide) ?_
        refine G_icmp_le X (tgt := 27) dX4_ofMargin_21 (by decide) (fun h13 => ?_) (fun h13 => ?_)
        · have h14 := ifp h13 h12
          refine G_iload_n X dX4_ofMargin_27 2 rfl ?_
          refine G_aload_n X dX4_ofMargin_28 0 rfl ?_
          refine G_get X (i0 := 0) (ci := 4) (j := 0) (C := RX4) (ref := RX4) (T := TX4) (N := 1) dX4_ofMargin_29 rfl rfl hiX4_ofMargin_X4 (by decide) flX4_ofMargin_9 rfl rfl ?_
          refine G_bipush X (v := 55) dX4_ofMargin_32 (by decide) ?_
          refine G_iload_n X dX4_ofMargin_34 1 rfl ?_
          refine G_iadd X dX4_ofMargin_35 ?_
          obtain ⟨v15, h16, h17⟩ := bnd h14
          refine G1_calli X (As := [.int (55 + x0)]) (rest := [.int x1]) (wr := [(h, .inr (4, [.ref h_ring]))]) (ws' := [(h, .inr (4, [.ref h_ring])), (h_ring, .inr (3, [.ref h_ring_numbers])), (h_ring_numbers, .inl (cI, 352, .inl f_h_ring_numbers))]) dX4_ofMargin_36 pkX3_get gX4_ofMargin_X3_get (kkX3_get l D cI cR h_ring h_ring_numbers f_h_ring_numbers (55 + x0) v15 h16) ⟨rfl, rfl⟩ ⟨Nat.le_of_ble_eq_true rfl, Nat.le_of_ble_eq_true rfl⟩ rfl rfl (Nat.le_of_ble_eq_true rfl) 0 rfl rfl [1, 2] [0] rfl rfl ⟨rfl, rfl, by decide⟩ ⟨Nat.zero_le _, Nat.zero_le _⟩ [0, 1, 2] rfl rfl ?_
          refine G_icmp_lt X (tgt := 45) dX4_ofMargin_39 (by decide) (fun h18 => ?_) (fun h18 => ?_)
          · have h19 := ifp h18 h17
            refine G_aload_n X dX4_ofMargin_45 0 rfl ?_
            refine G_iload_n X dX4_ofMargin_46 1 rfl ?_
            refine G_iload_n X dX4_ofMargin_47 2 rfl ?_
            obtain ⟨v20, h21, h22⟩ := bnd h19
            refine G1_calli X (As := [.int x0, .int x1]) (rest := []) (wr := []) (ws' := [(h, .inr (4, [.ref h_ring])), (h_ring, .inr (3, [.ref h_ring_numbers])), (h_ring_numbers, .inl (cI, 352, .inl f_h_ring_numbers))]) dX4_ofMargin_48 pkX4_echoIn gX4_ofMargin_X4_echoIn (kkX4_echoIn l D cI cR h h_ring h_ring_numbers f_h_ring_numbers x0 x1 v20 h21) ⟨rfl, rfl⟩ ⟨Nat.le_of_ble_eq_true rfl, Nat.le_of_ble_eq_true rfl⟩ rfl rfl (Nat.le_of_ble_eq_true rfl) 0 rfl rfl [0, 1, 2] [] rfl rfl ⟨rfl, rfl, by decide⟩ ⟨Nat.zero_le _, Nat.zero_le _⟩ [0, 1, 2] rfl rfl ?_
            refine G_istore X (lv' := [(4, .int v20), (0, .ref h), (1, .int x0), (2, .int x1), (3, .int x2)]) dX4_ofMargin_51 (by decide) rfl ?_
            refine G_iload_n X dX4_ofMargin_53 4 rfl ?_
            by_cases h23 : x2 = 0
            · have h24 := ifp h23 h22
              refine G_tableIn X (off := 30) (tgt := 84) dX4_ofMargin_54 (by rw [h23]; decide) (by rw [h23]; decide) (by rw [h23]; rfl) (by decide) ?_
              refine G_iload X dX4_ofMargin_84 0 rfl ?_
              obtain ⟨v26, h27, h28⟩ := bnd h24
              refine G1_callsi X (As := [.int v20]) (rest := []) (wr := [(h, .inr (4, [.ref h_ring])), (h_ring, .inr (3, [.ref h_ring_numbers])), (h_ring_numbers, .inl (cI, 352, .inl f_h_ring_numbers))]) (ws' := [(h, .inr (4, [.ref h_ring])), (h_ring, .inr (3, [.ref h_ring_numbers])), (h_ring_numbers, .inl (cI, 352, .inl f_h_ring_numbers))]) dX4_ofMargin_86 pkX3_ownerOf gX4_ofMargin_X3_ownerOf (kkX3_ownerOf l D cI cR v20 v26 h27) ⟨rfl, rfl⟩ ⟨Nat.le_of_ble_eq_true rfl, Nat.le_of_ble_eq_true rfl⟩ rfl rfl (Nat.le_of_ble_eq_true rfl) [] [0, 1, 2] rfl rfl ⟨rfl, rfl, by decide⟩ ⟨Nat.zero_le _, Nat.zero_le _⟩ [0, 1, 2] rfl rfl ?_
              refine G_bipush X (v := 8) dX4_ofMargin_89 (by decide) ?_
              refine G_idiv X dX4_ofMargin_91 (by decide) ?_
              cases h28
              exact rt _ _ _ _ dX4_ofMargin_92 ⟨rfl, rfl⟩
            · have h25 := ifn h23 h22
              by_cases h29 : x2 = 1
              · have h30 := ifp h29 h25
                refine G_tableIn X (off := 39) (tgt := 93) dX4_ofMargin_54 (by rw [h29]; decide) (by rw [h29]; decide) (by rw [h29]; rfl) (by decide) ?_
                refine G_iload X dX4_ofMargin_93 0 rfl ?_
                obtain ⟨v32, h33, h34⟩ := bnd h30
                refine G1_callsi X (As := [.int v20]) (rest := []) (wr := [(h, .inr (4, [.ref h_ring])), (h_ring, .inr (3, [.ref h_ring_numbers])), (h_ring_numbers, .inl (cI, 352, .inl f_h_ring_numbers))]) (ws' := [(h, .inr (4, [.ref h_ring])), (h_ring, .inr (3, [.ref h_ring_numbers])), (h_ring_numbers, .inl (cI, 352, .inl f_h_ring_numbers))]) dX4_ofMargin_95 pkX3_ownerOf gX4_ofMargin_X3_ownerOf (kkX3_ownerOf l D cI cR v20 v32 h33) ⟨rfl, rfl⟩ ⟨Nat.le_of_ble_eq_true rfl, Nat.le_of_ble_eq_true rfl⟩ rfl rfl (Nat.le_of_ble_eq_true rfl) [] [0, 1, 2] rfl rfl ⟨rfl, rfl, by decide⟩ ⟨Nat.zero_le _, Nat.zero_le _⟩ [0, 1, 2] rfl rfl ?_
                refine G_bipush X (v := 8) dX4_ofMargin_98 (by decide) ?_
                refine G_irem X dX4_ofMargin_100 (by decide) ?_
                cases h34
                exact rt _ _ _ _ dX4_ofMargin_101 ⟨rfl, rfl⟩
              · have h31 := ifn h29 h25
                by_cases h35 : x2 = 2
                · have h36 := ifp h35 h31
                  refine G_tableIn X (off := 48) (tgt := 102) dX4_ofMargin_54 (by rw [h35]; decide) (by rw [h35]; decide) (by rw [h35]; rfl) (by decide) ?_
                  refine G_iload X dX4_ofMargin_102 0 rfl ?_
                  obtain ⟨v38, h39, h40⟩ := bnd h36
                  refine G1_callsi X (As := [.int v20]) (rest := []) (wr := [(h, .inr (4, [.ref h_ring])), (h_ring, .inr (3, [.ref h_ring_numbers])), (h_ring_numbers, .inl (cI, 352, .inl f_h_ring_numbers))]) (ws' := [(h, .inr (4, [.ref h_ring])), (h_ring, .inr (3, [.ref h_ring_numbers])), (h_ring_numbers, .inl (cI, 352, .inl f_h_ring_numbers))]) dX4_ofMargin_104 pkX3_valueOf gX4_ofMargin_X3_valueOf (kkX3_valueOf l D cI cR v20 v38 h39) ⟨rfl, rfl⟩ ⟨Nat.le_of_ble_eq_true rfl, Nat.le_of_ble_eq_true rfl⟩ rfl rfl (Nat.le_of_ble_eq_true rfl) [] [0, 1, 2] rfl rfl ⟨rfl, rfl, by decide⟩ ⟨Nat.zero_le _, Nat.zero_le _⟩ [0, 1, 2] rfl rfl ?_
                  cases h40
                  exact rt _ _ _ _ dX4_ofMargin_107 ⟨rfl, rfl⟩
                · have h37 := ifn h35 h31
                  by_cases h41 : x2 = 3
                  · have h42 := ifp h41 h37
                    refine G_tableIn X (off := 54) (tgt := 108) dX4_ofMargin_54 (by rw [h41]; decide) (by rw [h41]; decide) (by rw [h41]; rfl) (by decide) ?_
                    refine G_aload_n X dX4_ofMargin_108 1 rfl ?_
                    refine G_get X (i0 := 0) (ci := 4) (j := 0) (C := RX4) (ref := RX4) (T := TX4) (N := 1) dX4_ofMargin_109 rfl rfl hiX4_ofMargin_X4 (by decide) flX4_ofMargin_9 rfl rfl ?_
                    refine G_iload X dX4_ofMargin_112 0 rfl ?_
                    obtain ⟨v44, h45, h46⟩ := bnd h42
                    refine G1_calli X (As := [.int v20]) (rest := []) (wr := [(h, .inr (4, [.ref h_ring]))]) (ws' := [(h, .inr (4, [.ref h_ring])), (h_ring, .inr (3, [.ref h_ring_numbers])), (h_ring_numbers, .inl (cI, 352, .inl f_h_ring_numbers))]) dX4_ofMargin_114 pkX3_ageOf gX4_ofMargin_X3_ageOf (kkX3_ageOf l D cI cR h_ring h_ring_numbers f_h_ring_numbers v20 v44 h45) ⟨rfl, rfl⟩ ⟨Nat.le_of_ble_eq_true rfl, Nat.le_of_ble_eq_true rfl⟩ rfl rfl (Nat.le_of_ble_eq_true rfl) 0 rfl rfl [1, 2] [0] rfl rfl ⟨rfl, rfl, by decide⟩ ⟨Nat.zero_le _, Nat.zero_le _⟩ [0, 1, 2] rfl rfl ?_
                    cases h46
                    exact rt _ _ _ _ dX4_ofMargin_117 ⟨rfl, rfl⟩
                  · have h43 := ifn h41 h37
                    have h23 : ¬ (x2).toInt = 0 := fun q => h23 (Int32.toInt_inj.mp (q.trans (by decide)))
                    have h29 : ¬ (x2).toInt = 1 := fun q => h29 (Int32.toInt_inj.mp (q.trans (by decide)))
                    have h35 : ¬ (x2).toInt = 2 := fun q => h35 (Int32.toInt_inj.mp (q.trans (by decide)))
                    have h41 : ¬ (x2).toInt = 3 := fun q => h41 (Int32.toInt_inj.mp (q.trans (by decide)))
                    refine G_tableOut X (tgt := 118) dX4_ofMargin_54 (by omega) (by decide) ?_
                    refine G_aload_n X dX4_ofMargin_118 1 rfl ?_
                    refine G_get X (i0 := 0) (ci := 4) (j := 0) (C := RX4) (ref := RX4) (T := TX4) (N := 1) dX4_ofMargin_119 rfl rfl hiX4_ofMargin_X4 (by decide) flX4_ofMargin_9 rfl rfl ?_
                    refine G_iload X dX4_ofMargin_122 0 rfl ?_
                    obtain ⟨v47, h48, h49⟩ := bnd h43
                    refine G1_calli X (As := [.int v20]) (rest := []) (wr := [(h, .inr (4, [.ref h_ring]))]) (ws' := [(h, .inr (4, [.ref h_ring])), (h_ring, .inr (3, [.ref h_ring_numbers])), (h_ring_numbers, .inl (cI, 352, .inl f_h_ring_numbers))]) dX4_ofMargin_124 pkX3_isFaded gX4_ofMargin_X3_isFaded (kkX3_isFaded l D cI cR h_ring h_ring_numbers f_h_ring_numbers v20 v47 h48) ⟨rfl, rfl⟩ ⟨Nat.le_of_ble_eq_true rfl, Nat.le_of_ble_eq_true rfl⟩ rfl rfl (Nat.le_of_ble_eq_true rfl) 0 rfl rfl [1, 2] [0] rfl rfl ⟨rfl, rfl, by decide⟩ ⟨Nat.zero_le _, Nat.zero_le _⟩ [0, 1, 2] rfl rfl ?_
                    refine G_if_eq X (tgt := 134) dX4_ofMargin_127 (by decide) (fun h50 => ?_) (fun h50 => ?_)
                    · have h51 := ifp h50 h49
                      refine G_iconst X (v := 0) dX4_ofMargin_134 (by decide) ?_
                      cases h51
                      exact rt _ _ _ _ dX4_ofMargin_135 ⟨rfl, rfl⟩
                    · have h52 := ifn h50 h49
                      refine G_iconst X (v := 1) dX4_ofMargin_130 (by decide) ?_
                      refine G_goto X (tgt := 135) dX4_ofMargin_131 (by decide) ?_
                      cases h52
                      exact rt _ _ _ _ dX4_ofMargin_135 ⟨rfl, rfl⟩
          · have h53 := ifn h18 h17
            refine G_ldc X dX4_ofMargin_42 flX4_ofMargin_36 ?_
            cases h53
            exact rt _ _ _ _ dX4_ofMargin_44 ⟨rfl, rfl⟩
        · have h54 := ifn h13 h12
          refine G_ldc X dX4_ofMargin_24 flX4_ofMargin_24 ?_
          cases h54
          exact rt _ _ _ _ dX4_ofMargin_26 ⟨rfl, rfl⟩
def rmX4_isKnown : Room := { frames := 1, cells := 0, slots := 0, locals := 21 }
theorem pkX4_isKnown : cK yX4_isKnown wsX4_isKnown cX4_isKnown 3 (some .boolean) 2 RX4 := ⟨⟨_, rfl⟩, by decide +kernel⟩
theorem hiX4_isKnown_X4 : ∀ w ∈ wsX40, w ∈ wsX4_isKnown := by decide +kernel
theorem flX4_isKnown_9 : Cond.fieldLink RX4 9 "EchoMargins$Survey" "ring" "LEchoMargins$Ring;" ∈ wsX4_isKnown := by decide +kernel
set_option maxHeartbeats 4000000 in
set_option maxRecDepth 100000 in
theorem kkX4_isKnown (l : Launch) (D : va_G) (cI cR : ClassId) (h h_ring h_ring_numbers : Nat) (f_h_ring_numbers : Nat → Int32) (x0 : Int32) (x1 : Int32) (z : Int32) (hz : MX4_isKnown f_h_ring_numbers x0 x1 = some z) : cI1 l yX4_isKnown wsX4_isKnown rmX4_isKnown D cI cR [.ref h, .int x0, .int x1] [(h, .inr (4, [.ref h_ring])), (h_ring, .inr (3, [.ref h_ring_numbers])), (h_ring_numbers, .inl (cI, 352, .inl f_h_ring_numbers))] z [(h, .inr (4, [.ref h_ring])), (h_ring, .inr (3, [.ref h_ring_numbers])), (h_ring_numbers, .inl (cI, 352, .inl f_h_ring_numbers))] := by
  unfold MX4_isKnown at hz
  refine kZ_of (cc := cX4_isKnown) (maxL := 3) (own := RX4) (by decide +kernel) rfl rfl (Nat.le_of_ble_eq_true rfl) (lv0 := [(0, .ref h), (1, .int x0), (2, .int x1)]) rfl (fun p e s m args below meth c A Q X rt => ?_)
  refine G_aload_n X dX4_isKnown_0 0 rfl ?_
  refine G_get X (i0 := 0) (ci := 4) (j := 0) (C := RX4) (ref := RX4) (T := TX4) (N := 1) dX4_isKnown_1 rfl rfl hiX4_isKnown_X4 (by decide) flX4_isKnown_9 rfl rfl ?_
  refine G_bipush X (v := 64) dX4_isKnown_4 (by decide) ?_
  refine G_iload_n X dX4_isKnown_6 1 rfl ?_
  refine G_bipush X (v := 8) dX4_isKnown_7 (by decide) ?_
  refine G_imul X dX4_isKnown_9 ?_
  refine G_iadd X dX4_isKnown_10 ?_
  refine G_iload_n X dX4_isKnown_11 2 rfl ?_
  refine G_iadd X dX4_isKnown_12 ?_
  obtain ⟨v1, h2, h3⟩ := bnd hz
  refine G1_calli X (As := [.int ((64 + (x0 * 8)) + x1)]) (rest := []) (wr := [(h, .inr (4, [.ref h_ring]))]) (ws' := [(h, .inr (4, [.ref h_ring])), (h_ring, .inr (3, [.ref h_ring_numbers])), (h_ring_numbers, .inl (cI, 352, .inl f_h_ring_numbers))]) dX4_isKnown_13 pkX3_get gX4_isKnown_X3_get (kkX3_get l D cI cR h_ring h_ring_numbers f_h_ring_numbers ((64 + (x0 * 8)) + x1) v1 h2) ⟨rfl, rfl⟩ ⟨Nat.le_of_ble_eq_true rfl, Nat.le_of_ble_eq_true rfl⟩ rfl rfl (Nat.le_of_ble_eq_true rfl) 0 rfl rfl [1, 2] [0] rfl rfl ⟨rfl, rfl, by decide⟩ ⟨Nat.zero_le _, Nat.zero_le _⟩ [0, 1, 2] rfl rfl ?_
  refine G_iconst X (v := (-1)) dX4_isKnown_16 (by decide) ?_
  refine G_icmp_eq X (tgt := 24) dX4_isKnown_17 (by decide) (fun h4 => ?_) (fun h4 => ?_)
  · have h5 := ifp h4 h3
    refine G_iconst X (v := 0) dX4_isKnown_24 (by decide) ?_
    cases h5
    exact rt _ _ _ _ dX4_isKnown_25 rfl ⟨rfl, rfl⟩
  · have h6 := ifn h4 h3
    refine G_iconst X (v := 1) dX4_isKnown_20 (by decide) ?_
    refine G_goto X (tgt := 25) dX4_isKnown_21 (by decide) ?_
    cases h6
    exact rt _ _ _ _ dX4_isKnown_25 rfl ⟨rfl, rfl⟩
def rmX4_unknownCells : Room := { frames := 2, cells := 0, slots := 0, locals := 43 }
theorem pkX4_unknownCells : cK yX4_unknownCells wsX4_unknownCells cX4_unknownCells 4 (some .int) 1 RX4 := ⟨⟨_, rfl⟩, by decide +kernel⟩
set_option maxHeartbeats 4000000 in
set_option maxRecDepth 100000 in
theorem kkX4_unknownCells (l : Launch) (D : va_G) (cI cR : ClassId) (h h_ring h_ring_numbers : Nat) (f_h_ring_numbers : Nat → Int32) (x0 : Int32) (z : Int32) (hz : MX4_unknownCells f_h_ring_numbers x0 = some z) : cI1 l yX4_unknownCells wsX4_unknownCells rmX4_unknownCells D cI cR [.ref h, .int x0] [(h, .inr (4, [.ref h_ring])), (h_ring, .inr (3, [.ref h_ring_numbers])), (h_ring_numbers, .inl (cI, 352, .inl f_h_ring_numbers))] z [(h, .inr (4, [.ref h_ring])), (h_ring, .inr (3, [.ref h_ring_numbers])), (h_ring_numbers, .inl (cI, 352, .inl f_h_ring_numbers))] := by
  unfold MX4_unknownCells at hz
  refine kI_of (cc := cX4_unknownCells) (maxL := 4) (own := RX4) (by decide +kernel) rfl rfl (Nat.le_of_ble_eq_true rfl) (lv0 := [(0, .ref h), (1, .int x0)]) rfl (fun p e s m args below meth c A Q X rt => ?_)
  refine G_iconst X (v := 0) dX4_unknownCells_0 (by decide) ?_
  refine G_istore_n X (lv' := [(2, .int 0), (0, .ref h), (1, .int x0)]) dX4_unknownCells_1 (by decide) rfl ?_
  refine G_iconst X (v := 0) dX4_unknownCells_2 (by decide) ?_
  refine G_istore_n X (lv' := [(3, .int 0), (2, .int 0), (0, .ref h), (1, .int x0)]) dX4_unknownCells_3 (by decide) rfl ?_
  obtain ⟨j2, h3, h4⟩ := bnd hz
  have J9 : G p l e rmX4_unknownCells s m args below meth c D A 4 Q 0 0 33 [(2, .int j2)] [] [(h, .inr (4, [.ref h_ring])), (h_ring, .inr (3, [.ref h_ring_numbers])), (h_ring_numbers, .inl (cI, 352, .inl f_h_ring_numbers))] := by
    refine G_iload_n X dX4_unknownCells_33 0 rfl ?_
    cases h4
    exact rt _ _ _ _ dX4_unknownCells_34 ⟨rfl, rfl⟩
  refine G_lv [2, 3, 1, 0] rfl ?_
  refine itr_ind (P := fun s1 : (Int32 × Int32) => G p l e rmX4_unknownCells s m args below meth c D A 4 Q 0 0 4 [(0, .ref h), (1, .int x0), (2, .int s1.1), (3, .int s1.2)] [] [(h, .inr (4, [.ref h_ring])), (h_ring, .inr (3, [.ref h_ring_numbers])), (h_ring_numbers, .inl (cI, 352, .inl f_h_ring_numbers))]) (fun s1 o8 h5 h6 h7 => ?_) FU _ h3
  unfold SX4_unknownCells_4 at h5
  refine G_iload_n X dX4_unknownCells_4 3 rfl ?_
  refine G_bipush X (v := 8) dX4_unknownCells_5 (by decide) ?_
  refine G_icmp_ge X (tgt := 33) dX4_unknownCells_7 (by decide) (fun h11 => ?_) (fun h11 => ?_)
  · have h12 := ifp h11 h5
    cases h12
    have h13 := h7 _ rfl
    subst h13
    exact G_lv [2] rfl (J9)
  · have h14 := ifn h11 h5
    refine G_iload_n X dX4_unknownCells_10 2 rfl ?_
    refine G_aload_n X dX4_unknownCells_11 0 rfl ?_
    refine G_iload_n X dX4_unknownCells_12 1 rfl ?_
    refine G_iload_n X dX4_unknownCells_13 3 rfl ?_
    obtain ⟨v15, h16, h17⟩ := bnd h14
    refine G1_calli X (As := [.int x0, .int s1.2]) (rest := [.int s1.1]) (wr := []) (ws' := [(h, .inr (4, [.ref h_ring])), (h_ring, .inr (3, [.ref h_ring_numbers])), (h_ring_numbers, .inl (cI, 352, .inl f_h_ring_numbers))]) dX4_unknownCells_14 pkX4_isKnown gX4_unknownCells_X4_isKnown (kkX4_isKnown l D cI cR h h_ring h_ring_numbers f_h_ring_numbers x0 s1.2 v15 h16) ⟨rfl, rfl⟩ ⟨Nat.le_of_ble_eq_true rfl, Nat.le_of_ble_eq_true rfl⟩ rfl rfl (Nat.le_of_ble_eq_true rfl) 0 rfl rfl [0, 1, 2] [] rfl rfl ⟨rfl, rfl, by decide⟩ ⟨Nat.zero_le _, Nat.zero_le _⟩ [0, 1, 2] rfl rfl ?_
    refine G_if_eq X (tgt := 24) dX4_unknownCells_17 (by decide) (fun h18 => ?_) (fun h18 => ?_)
    · have h19 := ifp h18 h17
      refine G_iconst X (v := 1) dX4_unknownCells_24 (by decide) ?_
      refine G_iadd X dX4_unknownCells_25 ?_
      refine G_istore_n X (lv' := [(2, .int (s1.1 + 1)), (0, .ref h), (1, .int x0), (3, .int s1.2)]) dX4_unknownCells_26 (by decide) rfl ?_
      refine G_iinc X (v := (s1.2 + 1)) (lv' := [(3, .int (s1.2 + 1)), (2, .int (s1.1 + 1)), (0, .ref h), (1, .int x0)]) dX4_unknownCells_27 3 rfl rfl (by decide) rfl ?_
      refine G_goto X (tgt := 4) dX4_unknownCells_30 (by decide) ?_
      cases h19
      exact G_lv [2, 3, 1, 0] rfl (h6 _ rfl)
    · have h20 := ifn h18 h17
      refine G_iconst X (v := 0) dX4_unknownCells_20 (by decide) ?_
      refine G_goto X (tgt := 25) dX4_unknownCells_21 (by decide) ?_
      refine G_iadd X dX4_unknownCells_25 ?_
      refine G_istore_n X (lv' := [(2, .int (s1.1 + 0)), (0, .ref h), (1, .int x0), (3, .int s1.2)]) dX4_unknownCells_26 (by decide) rfl ?_
      refine G_iinc X (v := (s1.2 + 1)) (lv' := [(3, .int (s1.2 + 1)), (2, .int (s1.1 + 0)), (0, .ref h), (1, .int x0)]) dX4_unknownCells_27 3 rfl rfl (by decide) rfl ?_
      refine G_goto X (tgt := 4) dX4_unknownCells_30 (by decide) ?_
      cases h20
      exact G_lv [2, 3, 1, 0] rfl (h6 _ rfl)
def rmX4_wrongCells : Room := { frames := 1, cells := 0, slots := 0, locals := 21 }
theorem pkX4_wrongCells : cK yX4_wrongCells wsX4_wrongCells cX4_wrongCells 4 (some .int) 1 RX4 := ⟨⟨_, rfl⟩, by decide +kernel⟩
theorem hiX4_wrongCells_X4 : ∀ w ∈ wsX40, w ∈ wsX4_wrongCells := by decide +kernel
theorem flX4_wrongCells_9 : Cond.fieldLink RX4 9 "EchoMargins$Survey" "ring" "LEchoMargins$Ring;" ∈ wsX4_wrongCells := by decide +kernel
set_option maxHeartbeats 4000000 in
set_option maxRecDepth 100000 in
theorem kkX4_wrongCells (l : Launch) (D : va_G) (cI cR : ClassId) (h h_ring h_ring_numbers : Nat) (f_h_ring_numbers : Nat → Int32) (x0 : Int32) (z : Int32) (hz : MX4_wrongCells f_h_ring_numbers x0 = some z) : cI1 l yX4_wrongCells wsX4_wrongCells rmX4_wrongCells D cI cR [.ref h, .int x0] [(h, .inr (4, [.ref h_ring])), (h_ring, .inr (3, [.ref h_ring_numbers])), (h_ring_numbers, .inl (cI, 352, .inl f_h_ring_numbers))] z [(h, .inr (4, [.ref h_ring])), (h_ring, .inr (3, [.ref h_ring_numbers])), (h_ring_numbers, .inl (cI, 352, .inl f_h_ring_numbers))] := by
  unfold MX4_wrongCells at hz
  refine kI_of (cc := cX4_wrongCells) (maxL := 4) (own := RX4) (by decide +kernel) rfl rfl (Nat.le_of_ble_eq_true rfl) (lv0 := [(0, .ref h), (1, .int x0)]) rfl (fun p e s m args below meth c A Q X rt => ?_)
  refine G_iconst X (v := 0) dX4_wrongCells_0 (by decide) ?_
  refine G_istore_n X (lv' := [(2, .int 0), (0, .ref h), (1, .int x0)]) dX4_wrongCells_1 (by decide) rfl ?_
  refine G_iconst X (v := 0) dX4_wrongCells_2 (by decide) ?_
  refine G_istore_n X (lv' := [(3, .int 0), (2, .int 0), (0, .ref h), (1, .int x0)]) dX4_wrongCells_3 (by decide) rfl ?_
  obtain ⟨j2, h3, h4⟩ := bnd hz
  have J9 : G p l e rmX4_wrongCells s m args below meth c D A 4 Q 0 0 36 [(2, .int j2)] [] [(h, .inr (4, [.ref h_ring])), (h_ring, .inr (3, [.ref h_ring_numbers])), (h_ring_numbers, .inl (cI, 352, .inl f_h_ring_numbers))] := by
    refine G_iload_n X dX4_wrongCells_36 0 rfl ?_
    cases h4
    exact rt _ _ _ _ dX4_wrongCells_37 ⟨rfl, rfl⟩
  refine G_lv [2, 3, 1, 0] rfl ?_
  refine itr_ind (P := fun s1 : (Int32 × Int32) => G p l e rmX4_wrongCells s m args below meth c D A 4 Q 0 0 4 [(0, .ref h), (1, .int x0), (2, .int s1.1), (3, .int s1.2)] [] [(h, .inr (4, [.ref h_ring])), (h_ring, .inr (3, [.ref h_ring_numbers])), (h_ring_numbers, .inl (cI, 352, .inl f_h_ring_numbers))]) (fun s1 o8 h5 h6 h7 => ?_) FU _ h3
  unfold SX4_wrongCells_4 at h5
  refine G_iload_n X dX4_wrongCells_4 3 rfl ?_
  refine G_bipush X (v := 8) dX4_wrongCells_5 (by decide) ?_
  refine G_icmp_ge X (tgt := 36) dX4_wrongCells_7 (by decide) (fun h11 => ?_) (fun h11 => ?_)
  · have h12 := ifp h11 h5
    cases h12
    have h13 := h7 _ rfl
    subst h13
    exact G_lv [2] rfl (J9)
  · have h14 := ifn h11 h5
    refine G_iload_n X dX4_wrongCells_10 2 rfl ?_
    refine G_aload_n X dX4_wrongCells_11 0 rfl ?_
    refine G_get X (i0 := 0) (ci := 4) (j := 0) (C := RX4) (ref := RX4) (T := TX4) (N := 1) dX4_wrongCells_12 rfl rfl hiX4_wrongCells_X4 (by decide) flX4_wrongCells_9 rfl rfl ?_
    refine G_sipush X (v := 136) dX4_wrongCells_15 (by decide) ?_
    refine G_iload_n X dX4_wrongCells_18 1 rfl ?_
    refine G_bipush X (v := 8) dX4_wrongCells_19 (by decide) ?_
    refine G_imul X dX4_wrongCells_21 ?_
    refine G_iadd X dX4_wrongCells_22 ?_
    refine G_iload_n X dX4_wrongCells_23 3 rfl ?_
    refine G_iadd X dX4_wrongCells_24 ?_
    obtain ⟨v15, h16, h17⟩ := bnd h14
    refine G1_calli X (As := [.int ((136 + (x0 * 8)) + s1.2)]) (rest := [.int s1.1]) (wr := [(h, .inr (4, [.ref h_ring]))]) (ws' := [(h, .inr (4, [.ref h_ring])), (h_ring, .inr (3, [.ref h_ring_numbers])), (h_ring_numbers, .inl (cI, 352, .inl f_h_ring_numbers))]) dX4_wrongCells_25 pkX3_get gX4_wrongCells_X3_get (kkX3_get l D cI cR h_ring h_ring_numbers f_h_ring_numbers ((136 + (x0 * 8)) + s1.2) v15 h16) ⟨rfl, rfl⟩ ⟨Nat.le_of_ble_eq_true rfl, Nat.le_of_ble_eq_true rfl⟩ rfl rfl (Nat.le_of_ble_eq_true rfl) 0 rfl rfl [1, 2] [0] rfl rfl ⟨rfl, rfl, by decide⟩ ⟨Nat.zero_le _, Nat.zero_le _⟩ [0, 1, 2] rfl rfl ?_
    refine G_iadd X dX4_wrongCells_28 ?_
    refine G_istore_n X (lv' := [(2, .int (s1.1 + v15)), (0, .ref h), (1, .int x0), (3, .int s1.2)]) dX4_wrongCells_29 (by decide) rfl ?_
    refine G_iinc X (v := (s1.2 + 1)) (lv' := [(3, .int (s1.2 + 1)), (2, .int (s1.1 + v15)), (0, .ref h), (1, .int x0)]) dX4_wrongCells_30 3 rfl rfl (by decide) rfl ?_
    refine G_goto X (tgt := 4) dX4_wrongCells_33 (by decide) ?_
    cases h17
    exact G_lv [2, 3, 1, 0] rfl (h6 _ rfl)
def rmX4_ofRow : Room := { frames := 4, cells := 0, slots := 0, locals := 96 }
theorem pkX4_ofRow : cK yX4_ofRow wsX4_ofRow cX4_ofRow 3 (some .int) 2 RX4 := ⟨⟨_, rfl⟩, by decide +kernel⟩
theorem hiX4_ofRow_X4 : ∀ w ∈ wsX40, w ∈ wsX4_ofRow := by decide +kernel
theorem flX4_ofRow_9 : Cond.fieldLink RX4 9 "EchoMargins$Survey" "ring" "LEchoMargins$Ring;" ∈ wsX4_ofRow := by decide +kernel
theorem flX4_ofRow_24 : Cond.constant RX4 24 (-1000001) ∈ wsX4_ofRow := by decide +kernel
set_option maxHeartbeats 4000000 in
set_option maxRecDepth 100000 in
theorem kkX4_ofRow (l : Launch) (D : va_G) (cI cR : ClassId) (h h_ring h_ring_numbers : Nat) (f_h_ring_numbers : Nat → Int32) (x0 : Int32) (x1 : Int32) (z : Int32) (hz : MX4_ofRow f_h_ring_numbers x0 x1 = some z) : cI1 l yX4_ofRow wsX4_ofRow rmX4_ofRow D cI cR [.ref h, .int x0, .int x1] [(h, .inr (4, [.ref h_ring])), (h_ring, .inr (3, [.ref h_ring_numbers])), (h_ring_numbers, .inl (cI, 352, .inl f_h_ring_numbers))] z [(h, .inr (4, [.ref h_ring])), (h_ring, .inr (3, [.ref h_ring_numbers])), (h_ring_numbers, .inl (cI, 352, .inl f_h_ring_numbers))] := by
  unfold MX4_ofRow at hz
  refine kI_of (cc := cX4_ofRow) (maxL := 3) (own := RX4) (by decide +kernel) rfl rfl (Nat.le_of_ble_eq_true rfl) (lv0 := [(0, .ref h), (1, .int x0), (2, .int x1)]) rfl (fun p e s m args below meth c A Q X rt => ?_)
  refine G_aload_n X dX4_ofRow_0 0 rfl ?_
  refine G_get X (i0 := 0) (ci := 4) (j := 0) (C := RX4) (ref := RX4) (T := TX4) (N := 1) dX4_ofRow_1 rfl rfl hiX4_ofRow_X4 (by decide) flX4_ofRow_9 rfl rfl ?_
  refine G_iload_n X dX4_ofRow_4 1 rfl ?_
  obtain ⟨v1, h2, h3⟩ := bnd hz
  refine G1_calli X (As := [.int x0]) (rest := []) (wr := [(h, .inr (4, [.ref h_ring]))]) (ws' := [(h, .inr (4, [.ref h_ring])), (h_ring, .inr (3, [.ref h_ring_numbers])), (h_ring_numbers, .inl (cI, 352, .inl f_h_ring_numbers))]) dX4_ofRow_5 pkX3_hasRow gX4_ofRow_X3_hasRow (kkX3_hasRow l D cI cR h_ring h_ring_numbers f_h_ring_numbers x0 v1 h2) ⟨rfl, rfl⟩ ⟨Nat.le_of_ble_eq_true rfl, Nat.le_of_ble_eq_true rfl⟩ rfl rfl (Nat.le_of_ble_eq_true rfl) 0 rfl rfl [1, 2] [0] rfl rfl ⟨rfl, rfl, by decide⟩ ⟨Nat.zero_le _, Nat.zero_le _⟩ [0, 1, 2] rfl rfl ?_
  refine G_if_ne X (tgt := 14) dX4_ofRow_8 (by decide) (fun h4 => ?_) (fun h4 => ?_)
  · have h5 := ifp h4 h3
    refine G_ldc X dX4_ofRow_11 flX4_ofRow_24 ?_
    cases h5
    exact rt _ _ _ _ dX4_ofRow_13 ⟨rfl, rfl⟩
  · have h6 := ifn h4 h3
    refine G_iload_n X dX4_ofRow_14 2 rfl ?_
    by_cases h7 : x1 = 0
    · have h8 := ifp h7 h6
      refine G_tableIn X (off := 53) (tgt := 68) dX4_ofRow_15 (by rw [h7]; decide) (by rw [h7]; decide) (by rw [h7]; rfl) (by decide) ?_
      refine G_aload_n X dX4_ofRow_68 0 rfl ?_
      refine G_get X (i0 := 0) (ci := 4) (j := 0) (C := RX4) (ref := RX4) (T := TX4) (N := 1) dX4_ofRow_69 rfl rfl hiX4_ofRow_X4 (by decide) flX4_ofRow_9 rfl rfl ?_
      refine G_bipush X (v := 10) dX4_ofRow_72 (by decide) ?_
      refine G_iload_n X dX4_ofRow_74 1 rfl ?_
      refine G_iadd X dX4_ofRow_75 ?_
      obtain ⟨v10, h11, h12⟩ := bnd h8
      refine G1_calli X (As := [.int (10 + x0)]) (rest := []) (wr := [(h, .inr (4, [.ref h_ring]))]) (ws' := [(h, .inr (4, [.ref h_ring])), (h_ring, .inr (3, [.ref h_ring_numbers])), (h_ring_numbers, .inl (cI, 352, .inl f_h_ring_numbers))]) dX4_ofRow_76 pkX3_get gX4_ofRow_X3_get (kkX3_get l D cI cR h_ring h_ring_numbers f_h_ring_numbers (10 + x0) v10 h11) ⟨rfl, rfl⟩ ⟨Nat.le_of_ble_eq_true rfl, Nat.le_of_ble_eq_true rfl⟩ rfl rfl (Nat.le_of_ble_eq_true rfl) 0 rfl rfl [1, 2] [0] rfl rfl ⟨rfl, rfl, by decide⟩ ⟨Nat.zero_le _, Nat.zero_le _⟩ [0, 1, 2] rfl rfl ?_
      cases h12
      exact rt _ _ _ _ dX4_ofRow_79 ⟨rfl, rfl⟩
    · have h9 := ifn h7 h6
      by_cases h13 : x1 = 1
      · have h14 := ifp h13 h9
        refine G_tableIn X (off := 65) (tgt := 80) dX4_ofRow_15 (by rw [h13]; decide) (by rw [h13]; decide) (by rw [h13]; rfl) (by decide) ?_
        refine G_aload_n X dX4_ofRow_80 0 rfl ?_
        refine G_get X (i0 := 0) (ci := 4) (j := 0) (C := RX4) (ref := RX4) (T := TX4) (N := 1) dX4_ofRow_81 rfl rfl hiX4_ofRow_X4 (by decide) flX4_ofRow_9 rfl rfl ?_
        refine G_bipush X (v := 28) dX4_ofRow_84 (by decide) ?_
        refine G_iload_n X dX4_ofRow_86 1 rfl ?_
        refine G_iadd X dX4_ofRow_87 ?_
        obtain ⟨v16, h17, h18⟩ := bnd h14
        refine G1_calli X (As := [.int (28 + x0)]) (rest := []) (wr := [(h, .inr (4, [.ref h_ring]))]) (ws' := [(h, .inr (4, [.ref h_ring])), (h_ring, .inr (3, [.ref h_ring_numbers])), (h_ring_numbers, .inl (cI, 352, .inl f_h_ring_numbers))]) dX4_ofRow_88 pkX3_get gX4_ofRow_X3_get (kkX3_get l D cI cR h_ring h_ring_numbers f_h_ring_numbers (28 + x0) v16 h17) ⟨rfl, rfl⟩ ⟨Nat.le_of_ble_eq_true rfl, Nat.le_of_ble_eq_true rfl⟩ rfl rfl (Nat.le_of_ble_eq_true rfl) 0 rfl rfl [1, 2] [0] rfl rfl ⟨rfl, rfl, by decide⟩ ⟨Nat.zero_le _, Nat.zero_le _⟩ [0, 1, 2] rfl rfl ?_
        cases h18
        exact rt _ _ _ _ dX4_ofRow_91 ⟨rfl, rfl⟩
      · have h15 := ifn h13 h9
        by_cases h19 : x1 = 2
        · have h20 := ifp h19 h15
          refine G_tableIn X (off := 77) (tgt := 92) dX4_ofRow_15 (by rw [h19]; decide) (by rw [h19]; decide) (by rw [h19]; rfl) (by decide) ?_
          refine G_aload_n X dX4_ofRow_92 0 rfl ?_
          refine G_get X (i0 := 0) (ci := 4) (j := 0) (C := RX4) (ref := RX4) (T := TX4) (N := 1) dX4_ofRow_93 rfl rfl hiX4_ofRow_X4 (by decide) flX4_ofRow_9 rfl rfl ?_
          refine G_iload_n X dX4_ofRow_96 1 rfl ?_
          refine G_iconst X (v := (-1)) dX4_ofRow_97 (by decide) ?_
          obtain ⟨v22, h23, h24⟩ := bnd h20
          refine G1_calli X (As := [.int x0, .int (-1)]) (rest := []) (wr := [(h, .inr (4, [.ref h_ring]))]) (ws' := [(h, .inr (4, [.ref h_ring])), (h_ring, .inr (3, [.ref h_ring_numbers])), (h_ring_numbers, .inl (cI, 352, .inl f_h_ring_numbers))]) dX4_ofRow_98 pkX3_neighbour gX4_ofRow_X3_neighbour (kkX3_neighbour l D cI cR h_ring h_ring_numbers f_h_ring_numbers x0 (-1) v22 h23) ⟨rfl, rfl⟩ ⟨Nat.le_of_ble_eq_true rfl, Nat.le_of_ble_eq_true rfl⟩ rfl rfl (Nat.le_of_ble_eq_true rfl) 0 rfl rfl [1, 2] [0] rfl rfl ⟨rfl, rfl, by decide⟩ ⟨Nat.zero_le _, Nat.zero_le _⟩ [0, 1, 2] rfl rfl ?_
          cases h24
          exact rt _ _ _ _ dX4_ofRow_101 ⟨rfl, rfl⟩
        · have h21 := ifn h19 h15
          by_cases h25 : x1 = 3
          · have h26 := ifp h25 h21
            refine G_tableIn X (off := 87) (tgt := 102) dX4_ofRow_15 (by rw [h25]; decide) (by rw [h25]; decide) (by rw [h25]; rfl) (by decide) ?_
            refine G_aload_n X dX4_ofRow_102 0 rfl ?_
            refine G_get X (i0 := 0) (ci := 4) (j := 0) (C := RX4) (ref := RX4) (T := TX4) (N := 1) dX4_ofRow_103 rfl rfl hiX4_ofRow_X4 (by decide) flX4_ofRow_9 rfl rfl ?_
            refine G_iload_n X dX4_ofRow_106 1 rfl ?_
            refine G_iconst X (v := 1) dX4_ofRow_107 (by decide) ?_
            obtain ⟨v28, h29, h30⟩ := bnd h26
            refine G1_calli X (As := [.int x0, .int 1]) (rest := []) (wr := [(h, .inr (4, [.ref h_ring]))]) (ws' := [(h, .inr (4, [.ref h_ring])), (h_ring, .inr (3, [.ref h_ring_numbers])), (h_ring_numbers, .inl (cI, 352, .inl f_h_ring_numbers))]) dX4_ofRow_108 pkX3_neighbour gX4_ofRow_X3_neighbour (kkX3_neighbour l D cI cR h_ring h_ring_numbers f_h_ring_numbers x0 1 v28 h29) ⟨rfl, rfl⟩ ⟨Nat.le_of_ble_eq_true rfl, Nat.le_of_ble_eq_true rfl⟩ rfl rfl (Nat.le_of_ble_eq_true rfl) 0 rfl rfl [1, 2] [0] rfl rfl ⟨rfl, rfl, by decide⟩ ⟨Nat.zero_le _, Nat.zero_le _⟩ [0, 1, 2] rfl rfl ?_
            cases h30
            exact rt _ _ _ _ dX4_ofRow_111 ⟨rfl, rfl⟩
          · have h27 := ifn h25 h21
            by_cases h31 : x1 = 4
            · have h32 := ifp h31 h27
              refine G_tableIn X (off := 97) (tgt := 112) dX4_ofRow_15 (by rw [h31]; decide) (by rw [h31]; decide) (by rw [h31]; rfl) (by decide) ?_
              refine G_aload_n X dX4_ofRow_112 0 rfl ?_
              refine G_get X (i0 := 0) (ci := 4) (j := 0) (C := RX4) (ref := RX4) (T := TX4) (N := 1) dX4_ofRow_113 rfl rfl hiX4_ofRow_X4 (by decide) flX4_ofRow_9 rfl rfl ?_
              refine G_bipush X (v := 55) dX4_ofRow_116 (by decide) ?_
              refine G_iload_n X dX4_ofRow_118 1 rfl ?_
              refine G_iadd X dX4_ofRow_119 ?_
              obtain ⟨v34, h35, h36⟩ := bnd h32
              refine G1_calli X (As := [.int (55 + x0)]) (rest := []) (wr := [(h, .inr (4, [.ref h_ring]))]) (ws' := [(h, .inr (4, [.ref h_ring])), (h_ring, .inr (3, [.ref h_ring_numbers])), (h_ring_numbers, .inl (cI, 352, .inl f_h_ring_numbers))]) dX4_ofRow_120 pkX3_get gX4_ofRow_X3_get (kkX3_get l D cI cR h_ring h_ring_numbers f_h_ring_numbers (55 + x0) v34 h35) ⟨rfl, rfl⟩ ⟨Nat.le_of_ble_eq_true rfl, Nat.le_of_ble_eq_true rfl⟩ rfl rfl (Nat.le_of_ble_eq_true rfl) 0 rfl rfl [1, 2] [0] rfl rfl ⟨rfl, rfl, by decide⟩ ⟨Nat.zero_le _, Nat.zero_le _⟩ [0, 1, 2] rfl rfl ?_
              cases h36
              exact rt _ _ _ _ dX4_ofRow_123 ⟨rfl, rfl⟩
            · have h33 := ifn h31 h27
              by_cases h37 : x1 = 5
              · have h38 := ifp h37 h33
                refine G_tableIn X (off := 109) (tgt := 124) dX4_ofRow_15 (by rw [h37]; decide) (by rw [h37]; decide) (by rw [h37]; rfl) (by decide) ?_
                refine G_aload_n X dX4_ofRow_124 0 rfl ?_
                refine G_get X (i0 := 0) (ci := 4) (j := 0) (C := RX4) (ref := RX4) (T := TX4) (N := 1) dX4_ofRow_125 rfl rfl hiX4_ofRow_X4 (by decide) flX4_ofRow_9 rfl rfl ?_
                refine G_iload_n X dX4_ofRow_128 1 rfl ?_
                obtain ⟨v40, h41, h42⟩ := bnd h38
                refine G1_calli X (As := [.int x0]) (rest := []) (wr := [(h, .inr (4, [.ref h_ring]))]) (ws' := [(h, .inr (4, [.ref h_ring])), (h_ring, .inr (3, [.ref h_ring_numbers])), (h_ring_numbers, .inl (cI, 352, .inl f_h_ring_numbers))]) dX4_ofRow_129 pkX3_lives gX4_ofRow_X3_lives (kkX3_lives l D cI cR h_ring h_ring_numbers f_h_ring_numbers x0 v40 h41) ⟨rfl, rfl⟩ ⟨Nat.le_of_ble_eq_true rfl, Nat.le_of_ble_eq_true rfl⟩ rfl rfl (Nat.le_of_ble_eq_true rfl) 0 rfl rfl [1, 2] [0] rfl rfl ⟨rfl, rfl, by decide⟩ ⟨Nat.zero_le _, Nat.zero_le _⟩ [0, 1, 2] rfl rfl ?_
                refine G_if_eq X (tgt := 143) dX4_ofRow_132 (by decide) (fun h43 => ?_) (fun h43 => ?_)
                · have h44 := ifp h43 h42
                  refine G_bipush X (v := 8) dX4_ofRow_143 (by decide) ?_
                  cases h44
                  exact rt _ _ _ _ dX4_ofRow_145 ⟨rfl, rfl⟩
                · have h45 := ifn h43 h42
                  refine G_aload_n X dX4_ofRow_135 0 rfl ?_
                  refine G_iload_n X dX4_ofRow_136 1 rfl ?_
                  obtain ⟨v46, h47, h48⟩ := bnd h45
                  refine G1_calli X (As := [.int x0]) (rest := []) (wr := []) (ws' := [(h, .inr (4, [.ref h_ring])), (h_ring, .inr (3, [.ref h_ring_numbers])), (h_ring_numbers, .inl (cI, 352, .inl f_h_ring_numbers))]) dX4_ofRow_137 pkX4_unknownCells gX4_ofRow_X4_unknownCells (kkX4_unknownCells l D cI cR h h_ring h_ring_numbers f_h_ring_numbers x0 v46 h47) ⟨rfl, rfl⟩ ⟨Nat.le_of_ble_eq_true rfl, Nat.le_of_ble_eq_true rfl⟩ rfl rfl (Nat.le_of_ble_eq_true rfl) 0 rfl rfl [0, 1, 2] [] rfl rfl ⟨rfl, rfl, by decide⟩ ⟨Nat.zero_le _, Nat.zero_le _⟩ [0, 1, 2] rfl rfl ?_
                  refine G_goto X (tgt := 145) dX4_ofRow_140 (by decide) ?_
                  cases h48
                  exact rt _ _ _ _ dX4_ofRow_145 ⟨rfl, rfl⟩
              · have h39 := ifn h37 h33
                by_cases h49 : x1 = 6
                · have h50 := ifp h49 h39
                  refine G_tableIn X (off := 131) (tgt := 146) dX4_ofRow_15 (by rw [h49]; decide) (by rw [h49]; decide) (by rw [h49]; rfl) (by decide) ?_
                  refine G_aload_n X dX4_ofRow_146 0 rfl ?_
                  refine G_iload_n X dX4_ofRow_147 1 rfl ?_
                  obtain ⟨v52, h53, h54⟩ := bnd h50
                  refine G1_calli X (As := [.int x0]) (rest := []) (wr := []) (ws' := [(h, .inr (4, [.ref h_ring])), (h_ring, .inr (3, [.ref h_ring_numbers])), (h_ring_numbers, .inl (cI, 352, .inl f_h_ring_numbers))]) dX4_ofRow_148 pkX4_wrongCells gX4_ofRow_X4_wrongCells (kkX4_wrongCells l D cI cR h h_ring h_ring_numbers f_h_ring_numbers x0 v52 h53) ⟨rfl, rfl⟩ ⟨Nat.le_of_ble_eq_true rfl, Nat.le_of_ble_eq_true rfl⟩ rfl rfl (Nat.le_of_ble_eq_true rfl) 0 rfl rfl [0, 1, 2] [] rfl rfl ⟨rfl, rfl, by decide⟩ ⟨Nat.zero_le _, Nat.zero_le _⟩ [0, 1, 2] rfl rfl ?_
                  cases h54
                  exact rt _ _ _ _ dX4_ofRow_151 ⟨rfl, rfl⟩
                · have h51 := ifn h49 h39
                  by_cases h55 : x1 = 7
                  · have h56 := ifp h55 h51
                    refine G_tableIn X (off := 137) (tgt := 152) dX4_ofRow_15 (by rw [h55]; decide) (by rw [h55]; decide) (by rw [h55]; rfl) (by decide) ?_
                    refine G_aload_n X dX4_ofRow_152 0 rfl ?_
                    refine G_get X (i0 := 0) (ci := 4) (j := 0) (C := RX4) (ref := RX4) (T := TX4) (N := 1) dX4_ofRow_153 rfl rfl hiX4_ofRow_X4 (by decide) flX4_ofRow_9 rfl rfl ?_
                    refine G_iload_n X dX4_ofRow_156 1 rfl ?_
                    obtain ⟨v58, h59, h60⟩ := bnd h56
                    refine G1_calli X (As := [.int x0]) (rest := []) (wr := [(h, .inr (4, [.ref h_ring]))]) (ws' := [(h, .inr (4, [.ref h_ring])), (h_ring, .inr (3, [.ref h_ring_numbers])), (h_ring_numbers, .inl (cI, 352, .inl f_h_ring_numbers))]) dX4_ofRow_157 pkX3_comingBack gX4_ofRow_X3_comingBack (kkX3_comingBack l D cI cR h_ring h_ring_numbers f_h_ring_numbers x0 v58 h59) ⟨rfl, rfl⟩ ⟨Nat.le_of_ble_eq_true rfl, Nat.le_of_ble_eq_true rfl⟩ rfl rfl (Nat.le_of_ble_eq_true rfl) 0 rfl rfl [1, 2] [0] rfl rfl ⟨rfl, rfl, by decide⟩ ⟨Nat.zero_le _, Nat.zero_le _⟩ [0, 1, 2] rfl rfl ?_
                    cases h60
                    exact rt _ _ _ _ dX4_ofRow_160 ⟨rfl, rfl⟩
                  · have h57 := ifn h55 h51
                    by_cases h61 : x1 = 8
                    · have h62 := ifp h61 h57
                      refine G_tableIn X (off := 146) (tgt := 161) dX4_ofRow_15 (by rw [h61]; decide) (by rw [h61]; decide) (by rw [h61]; rfl) (by decide) ?_
                      refine G_aload_n X dX4_ofRow_161 0 rfl ?_
                      refine G_get X (i0 := 0) (ci := 4) (j := 0) (C := RX4) (ref := RX4) (T := TX4) (N := 1) dX4_ofRow_162 rfl rfl hiX4_ofRow_X4 (by decide) flX4_ofRow_9 rfl rfl ?_
                      refine G_bipush X (v := 37) dX4_ofRow_165 (by decide) ?_
                      refine G_iload_n X dX4_ofRow_167 1 rfl ?_
                      refine G_iadd X dX4_ofRow_168 ?_
                      obtain ⟨v64, h65, h66⟩ := bnd h62
                      refine G1_calli X (As := [.int (37 + x0)]) (rest := []) (wr := [(h, .inr (4, [.ref h_ring]))]) (ws' := [(h, .inr (4, [.ref h_ring])), (h_ring, .inr (3, [.ref h_ring_numbers])), (h_ring_numbers, .inl (cI, 352, .inl f_h_ring_numbers))]) dX4_ofRow_169 pkX3_get gX4_ofRow_X3_get (kkX3_get l D cI cR h_ring h_ring_numbers f_h_ring_numbers (37 + x0) v64 h65) ⟨rfl, rfl⟩ ⟨Nat.le_of_ble_eq_true rfl, Nat.le_of_ble_eq_true rfl⟩ rfl rfl (Nat.le_of_ble_eq_true rfl) 0 rfl rfl [1, 2] [0] rfl rfl ⟨rfl, rfl, by decide⟩ ⟨Nat.zero_le _, Nat.zero_le _⟩ [0, 1, 2] rfl rfl ?_
                      cases h66
                      exact rt _ _ _ _ dX4_ofRow_172 ⟨rfl, rfl⟩
                    · have h63 := ifn h61 h57
                      by_cases h67 : x1 = 9
                      · have h68 := ifp h67 h63
                        refine G_tableIn X (off := 158) (tgt := 173) dX4_ofRow_15 (by rw [h67]; decide) (by rw [h67]; decide) (by rw [h67]; rfl) (by decide) ?_
                        refine G_aload_n X dX4_ofRow_173 0 rfl ?_
                        refine G_get X (i0 := 0) (ci := 4) (j := 0) (C := RX4) (ref := RX4) (T := TX4) (N := 1) dX4_ofRow_174 rfl rfl hiX4_ofRow_X4 (by decide) flX4_ofRow_9 rfl rfl ?_
                        refine G_bipush X (v := 46) dX4_ofRow_177 (by decide) ?_
                        refine G_iload_n X dX4_ofRow_179 1 rfl ?_
                        refine G_iadd X dX4_ofRow_180 ?_
                        obtain ⟨v70, h71, h72⟩ := bnd h68
                        refine G1_calli X (As := [.int (46 + x0)]) (rest := []) (wr := [(h, .inr (4, [.ref h_ring]))]) (ws' := [(h, .inr (4, [.ref h_ring])), (h_ring, .inr (3, [.ref h_ring_numbers])), (h_ring_numbers, .inl (cI, 352, .inl f_h_ring_numbers))]) dX4_ofRow_181 pkX3_get gX4_ofRow_X3_get (kkX3_get l D cI cR h_ring h_ring_numbers f_h_ring_numbers (46 + x0) v70 h71) ⟨rfl, rfl⟩ ⟨Nat.le_of_ble_eq_true rfl, Nat.le_of_ble_eq_true rfl⟩ rfl rfl (Nat.le_of_ble_eq_true rfl) 0 rfl rfl [1, 2] [0] rfl rfl ⟨rfl, rfl, by decide⟩ ⟨Nat.zero_le _, Nat.zero_le _⟩ [0, 1, 2] rfl rfl ?_
                        cases h72
                        exact rt _ _ _ _ dX4_ofRow_184 ⟨rfl, rfl⟩
                      · have h69 := ifn h67 h63
                        have h7 : ¬ (x1).toInt = 0 := fun q => h7 (Int32.toInt_inj.mp (q.trans (by decide)))
                        have h13 : ¬ (x1).toInt = 1 := fun q => h13 (Int32.toInt_inj.mp (q.trans (by decide)))
                        have h19 : ¬ (x1).toInt = 2 := fun q => h19 (Int32.toInt_inj.mp (q.trans (by decide)))
                        have h25 : ¬ (x1).toInt = 3 := fun q => h25 (Int32.toInt_inj.mp (q.trans (by decide)))
                        have h31 : ¬ (x1).toInt = 4 := fun q => h31 (Int32.toInt_inj.mp (q.trans (by decide)))
                        have h37 : ¬ (x1).toInt = 5 := fun q => h37 (Int32.toInt_inj.mp (q.trans (by decide)))
                        have h49 : ¬ (x1).toInt = 6 := fun q => h49 (Int32.toInt_inj.mp (q.trans (by decide)))
                        have h55 : ¬ (x1).toInt = 7 := fun q => h55 (Int32.toInt_inj.mp (q.trans (by decide)))
                        have h61 : ¬ (x1).toInt = 8 := fun q => h61 (Int32.toInt_inj.mp (q.trans (by decide)))
                        have h67 : ¬ (x1).toInt = 9 := fun q => h67 (Int32.toInt_inj.mp (q.trans (by decide)))
                        refine G_tableOut X (tgt := 185) dX4_ofRow_15 (by omega) (by decide) ?_
                        refine G_ldc X dX4_ofRow_185 flX4_ofRow_24 ?_
                        cases h69
                        exact rt _ _ _ _ dX4_ofRow_187 ⟨rfl, rfl⟩
def rmX4_ofMending : Room := { frames := 4, cells := 0, slots := 0, locals := 96 }
theorem pkX4_ofMending : cK yX4_ofMending wsX4_ofMending cX4_ofMending 8 (some .int) 2 RX4 := ⟨⟨_, rfl⟩, by decide +kernel⟩
theorem hiX4_ofMending_X4 : ∀ w ∈ wsX40, w ∈ wsX4_ofMending := by decide +kernel
theorem flX4_ofMending_9 : Cond.fieldLink RX4 9 "EchoMargins$Survey" "ring" "LEchoMargins$Ring;" ∈ wsX4_ofMending := by decide +kernel
theorem flX4_ofMending_24 : Cond.constant RX4 24 (-1000001) ∈ wsX4_ofMending := by decide +kernel
theorem flX4_ofMending_36 : Cond.constant RX4 36 (-1000004) ∈ wsX4_ofMending := by decide +kernel
theorem flX4_ofMending_m_max : Cond.methodLink RX4 65 Lib.Math.max.name ∈ wsX4_ofMending := by decide +kernel
theorem flX4_ofMending_s_max : Cond.static Lib.Math.max.name ∈ wsX4_ofMending := by decide +kernel
theorem flX4_ofMending_im : Cond.initialized "java/lang/Math" ∈ wsX4_ofMending := by decide +kernel
theorem flX4_ofMending_c_max : Cond.code Lib.Math.max.name Lib.Math.max.code 2 (some .int) ∈ wsX4_ofMending := by decide +kernel
theorem flX4_ofMending_64 : Cond.constant RX4 64 (-1000002) ∈ wsX4_ofMending := by decide +kernel
set_option maxHeartbeats 4000000 in
set_option maxRecDepth 100000 in
theorem kkX4_ofMending (l : Launch) (D : va_G) (cI cR : ClassId) (h h_ring h_ring_numbers : Nat) (f_h_ring_numbers : Nat → Int32) (x0 : Int32) (x1 : Int32) (z : Int32) (hz : MX4_ofMending f_h_ring_numbers x0 x1 = some z) : cI1 l yX4_ofMending wsX4_ofMending rmX4_ofMending D cI cR [.ref h, .int x0, .int x1] [(h, .inr (4, [.ref h_ring])), (h_ring, .inr (3, [.ref h_ring_numbers])), (h_ring_numbers, .inl (cI, 352, .inl f_h_ring_numbers))] z [(h, .inr (4, [.ref h_ring])), (h_ring, .inr (3, [.ref h_ring_numbers])), (h_ring_numbers, .inl (cI, 352, .inl f_h_ring_numbers))] := by
  unfold MX4_ofMending at hz
  refine kI_of (cc := cX4_ofMending) (maxL := 8) (own := RX4) (by decide +kernel) rfl rfl (Nat.le_of_ble_eq_true rfl) (lv0 := [(0, .ref h), (1, .int x0), (2, .int x1)]) rfl (fun p e s m args below meth c A Q X rt => ?_)
  refine G_aload_n X dX4_ofMending_0 0 rfl ?_
  refine G_get X (i0 := 0) (ci := 4) (j := 0) (C := RX4) (ref := RX4) (T := TX4) (N := 1) dX4_ofMending_1 rfl rfl hiX4_ofMending_X4 (by decide) flX4_ofMending_9 rfl rfl ?_
  refine G_iload_n X dX4_ofMending_4 1 rfl ?_
  obtain ⟨v1, h2, h3⟩ := bnd hz
  refine G1_calli X (As := [.int x0]) (rest := []) (wr := [(h, .inr (4, [.ref h_ring]))]) (ws' := [(h, .inr (4, [.ref h_ring])), (h_ring, .inr (3, [.ref h_ring_numbers])), (h_ring_numbers, .inl (cI, 352, .inl f_h_ring_numbers))]) dX4_ofMending_5 pkX3_hasRow gX4_ofMending_X3_hasRow (kkX3_hasRow l D cI cR h_ring h_ring_numbers f_h_ring_numbers x0 v1 h2) ⟨rfl, rfl⟩ ⟨Nat.le_of_ble_eq_true rfl, Nat.le_of_ble_eq_true rfl⟩ rfl rfl (Nat.le_of_ble_eq_true rfl) 0 rfl rfl [1, 2] [0] rfl rfl ⟨rfl, rfl, by decide⟩ ⟨Nat.zero_le _, Nat.zero_le _⟩ [0, 1, 2] rfl rfl ?_
  refine G_if_eq X (tgt := 20) dX4_ofMending_8 (by decide) (fun h4 => ?_) (fun h4 => ?_)
  · have h5 := ifp h4 h3
    refine G_ldc X dX4_ofMending_20 flX4_ofMending_24 ?_
    cases h5
    exact rt _ _ _ _ dX4_ofMending_22 ⟨rfl, rfl⟩
  · have h6 := ifn h4 h3
    refine G_iload_n X dX4_ofMending_11 2 rfl ?_
    refine G_if_lt X (tgt := 20) dX4_ofMending_12 (by decide) (fun h7 => ?_) (fun h7 => ?_)
    · have h8 := ifp h7 h6
      refine G_ldc X dX4_ofMending_20 flX4_ofMending_24 ?_
      cases h8
      exact rt _ _ _ _ dX4_ofMending_22 ⟨rfl, rfl⟩
    · have h9 := ifn h7 h6
      refine G_iload_n X dX4_ofMending_15 2 rfl ?_
      refine G_iconst X (v := 3) dX4_ofMending_16 (by decide) ?_
      refine G_icmp_le X (tgt := 23) dX4_ofMending_17 (by decide) (fun h10 => ?_) (fun h10 => ?_)
      · have h11 := ifp h10 h9
        refine G_aload_n X dX4_ofMending_23 0 rfl ?_
        refine G_get X (i0 := 0) (ci := 4) (j := 0) (C := RX4) (ref := RX4) (T := TX4) (N := 1) dX4_ofMending_24 rfl rfl hiX4_ofMending_X4 (by decide) flX4_ofMending_9 rfl rfl ?_
        refine G_iload_n X dX4_ofMending_27 1 rfl ?_
        obtain ⟨v12, h13, h14⟩ := bnd h11
        refine G1_calli X (As := [.int x0]) (rest := []) (wr := [(h, .inr (4, [.ref h_ring]))]) (ws' := [(h, .inr (4, [.ref h_ring])), (h_ring, .inr (3, [.ref h_ring_numbers])), (h_ring_numbers, .inl (cI, 352, .inl f_h_ring_numbers))]) dX4_ofMending_28 pkX3_lives gX4_ofMending_X3_lives (kkX3_lives l D cI cR h_ring h_ring_numbers f_h_ring_numbers x0 v12 h13) ⟨rfl, rfl⟩ ⟨Nat.le_of_ble_eq_true rfl, Nat.le_of_ble_eq_true rfl⟩ rfl rfl (Nat.le_of_ble_eq_true rfl) 0 rfl rfl [1, 2] [0] rfl rfl ⟨rfl, rfl, by decide⟩ ⟨Nat.zero_le _, Nat.zero_le _⟩ [0, 1, 2] rfl rfl ?_
        refine G_if_eq X (tgt := 37) dX4_ofMending_31 (by decide) (fun h15 => ?_) (fun h15 => ?_)
        · have h16 := ifp h15 h14
          refine G_aload_n X dX4_ofMending_37 0 rfl ?_
          refine G_get X (i0 := 0) (ci := 4) (j := 0) (C := RX4) (ref := RX4) (T := TX4) (N := 1) dX4_ofMending_38 rfl rfl hiX4_ofMending_X4 (by decide) flX4_ofMending_9 rfl rfl ?_
          refine G_iload_n X dX4_ofMending_41 1 rfl ?_
          obtain ⟨v17, h18, h19⟩ := bnd h16
          refine G1_calli X (As := [.int x0]) (rest := []) (wr := [(h, .inr (4, [.ref h_ring]))]) (ws' := [(h, .inr (4, [.ref h_ring])), (h_ring, .inr (3, [.ref h_ring_numbers])), (h_ring_numbers, .inl (cI, 352, .inl f_h_ring_numbers))]) dX4_ofMending_42 pkX3_comingBack gX4_ofMending_X3_comingBack (kkX3_comingBack l D cI cR h_ring h_ring_numbers f_h_ring_numbers x0 v17 h18) ⟨rfl, rfl⟩ ⟨Nat.le_of_ble_eq_true rfl, Nat.le_of_ble_eq_true rfl⟩ rfl rfl (Nat.le_of_ble_eq_true rfl) 0 rfl rfl [1, 2] [0] rfl rfl ⟨rfl, rfl, by decide⟩ ⟨Nat.zero_le _, Nat.zero_le _⟩ [0, 1, 2] rfl rfl ?_
          refine G_istore_n X (lv' := [(3, .int v17), (0, .ref h), (1, .int x0), (2, .int x1)]) dX4_ofMending_45 (by decide) rfl ?_
          refine G_iconst X (v := 0) dX4_ofMending_46 (by decide) ?_
          refine G_istore X (lv' := [(4, .int 0), (3, .int v17), (0, .ref h), (1, .int x0), (2, .int x1)]) dX4_ofMending_47 (by decide) rfl ?_
          refine G_ldc X dX4_ofMending_49 flX4_ofMending_36 ?_
          refine G_istore X (lv' := [(5, .int (-1000004)), (4, .int 0), (3, .int v17), (0, .ref h), (1, .int x0), (2, .int x1)]) dX4_ofMending_51 (by decide) rfl ?_
          refine G_iconst X (v := 0) dX4_ofMending_53 (by decide) ?_
          refine G_istore X (lv' := [(6, .int 0), (5, .int (-1000004)), (4, .int 0), (3, .int v17), (0, .ref h), (1, .int x0), (2, .int x1)]) dX4_ofMending_54 (by decide) rfl ?_
          obtain ⟨j21, h22, h23⟩ := bnd h19
          have J28 : G p l e rmX4_ofMending s m args below meth c D A 8 Q 0 0 106 [(2, .int x1), (3, .int v17), (4, .int j21.1), (5, .int j21.2)] [] [(h, .inr (4, [.ref h_ring])), (h_ring, .inr (3, [.ref h_ring_numbers])), (h_ring_numbers, .inl (cI, 352, .inl f_h_ring_numbers))] := by
            refine G_iload_n X dX4_ofMending_106 0 rfl ?_
            by_cases h30 : x1 = 0
            · have h31 := ifp h30 h23
              refine G_tableIn X (off := 25) (tgt := 132) dX4_ofMending_107 (by rw [h30]; decide) (by rw [h30]; decide) (by rw [h30]; rfl) (by decide) ?_
              refine G_iload_n X dX4_ofMending_132 1 rfl ?_
              cases h31
              exact rt _ _ _ _ dX4_ofMending_133 ⟨rfl, rfl⟩
            · have h32 := ifn h30 h23
              by_cases h33 : x1 = 1
              · have h34 := ifp h33 h32
                refine G_tableIn X (off := 27) (tgt := 134) dX4_ofMending_107 (by rw [h33]; decide) (by rw [h33]; decide) (by rw [h33]; rfl) (by decide) ?_
                refine G_iload X dX4_ofMending_134 2 rfl ?_
                refine G_iload_n X dX4_ofMending_136 1 rfl ?_
                refine G_isub X dX4_ofMending_137 ?_
                cases h34
                exact rt _ _ _ _ dX4_ofMending_138 ⟨rfl, rfl⟩
              · have h35 := ifn h33 h32
                by_cases h36 : x1 = 2
                · have h37 := ifp h36 h35
                  refine G_tableIn X (off := 32) (tgt := 139) dX4_ofMending_107 (by rw [h36]; decide) (by rw [h36]; decide) (by rw [h36]; rfl) (by decide) ?_
                  refine G_bipush X (v := 8) dX4_ofMending_139 (by decide) ?_
                  refine G_iload X dX4_ofMending_141 2 rfl ?_
                  refine G_isub X dX4_ofMending_143 ?_
                  cases h37
                  exact rt _ _ _ _ dX4_ofMending_144 ⟨rfl, rfl⟩
                · have h38 := ifn h36 h35
                  have h30 : ¬ (x1).toInt = 0 := fun q => h30 (Int32.toInt_inj.mp (q.trans (by decide)))
                  have h33 : ¬ (x1).toInt = 1 := fun q => h33 (Int32.toInt_inj.mp (q.trans (by decide)))
                  have h36 : ¬ (x1).toInt = 2 := fun q => h36 (Int32.toInt_inj.mp (q.trans (by decide)))
                  refine G_tableOut X (tgt := 145) dX4_ofMending_107 (by omega) (by decide) ?_
                  refine G_iload X dX4_ofMending_145 3 rfl ?_
                  cases h38
                  exact rt _ _ _ _ dX4_ofMending_147 ⟨rfl, rfl⟩
          refine G_lv [4, 5, 6, 3, 2, 1, 0] rfl ?_
          refine itr_ind (P := fun s20 : (Int32 × Int32 × Int32) => G p l e rmX4_ofMending s m args below meth c D A 8 Q 0 0 56 [(0, .ref h), (1, .int x0), (2, .int x1), (3, .int v17), (4, .int s20.1), (5, .int s20.2.1), (6, .int s20.2.2)] [] [(h, .inr (4, [.ref h_ring])), (h_ring, .inr (3, [.ref h_ring_numbers])), (h_ring_numbers, .inl (cI, 352, .inl f_h_ring_numbers))]) (fun s20 o27 h24 h25 h26 => ?_) FU _ h22
          unfold SX4_ofMending_56 at h24
          refine G_iload X dX4_ofMending_56 6 rfl ?_
          refine G_bipush X (v := 8) dX4_ofMending_58 (by decide) ?_
          refine G_icmp_ge X (tgt := 106) dX4_ofMending_60 (by decide) (fun h39 => ?_) (fun h39 => ?_)
          · have h40 := ifp h39 h24
            cases h40
            have h41 := h26 _ rfl
            subst h41
            exact G_lv [2, 3, 4, 5] rfl (J28)
          · have h42 := ifn h39 h24
            refine G_aload_n X dX4_ofMending_63 0 rfl ?_
            refine G_get X (i0 := 0) (ci := 4) (j := 0) (C := RX4) (ref := RX4) (T := TX4) (N := 1) dX4_ofMending_64 rfl rfl hiX4_ofMending_X4 (by decide) flX4_ofMending_9 rfl rfl ?_
            refine G_iload_n X dX4_ofMending_67 1 rfl ?_
            refine G_iload X dX4_ofMending_68 6 rfl ?_
            obtain ⟨v43, h44, h45⟩ := bnd h42
            refine G1_calli X (As := [.int x0, .int s20.2.2]) (rest := []) (wr := [(h, .inr (4, [.ref h_ring]))]) (ws' := [(h, .inr (4, [.ref h_ring])), (h_ring, .inr (3, [.ref h_ring_numbers])), (h_ring_numbers, .inl (cI, 352, .inl f_h_ring_numbers))]) dX4_ofMending_70 pkX3_freshEcho gX4_ofMending_X3_freshEcho (kkX3_freshEcho l D cI cR h_ring h_ring_numbers f_h_ring_numbers x0 s20.2.2 v43 h44) ⟨rfl, rfl⟩ ⟨Nat.le_of_ble_eq_true rfl, Nat.le_of_ble_eq_true rfl⟩ rfl rfl (Nat.le_of_ble_eq_true rfl) 0 rfl rfl [1, 2] [0] rfl rfl ⟨rfl, rfl, by decide⟩ ⟨Nat.zero_le _, Nat.zero_le _⟩ [0, 1, 2] rfl rfl ?_
            refine G_istore X (lv' := [(7, .int v43), (0, .ref h), (1, .int x0), (2, .int x1), (3, .int v17), (4, .int s20.1), (5, .int s20.2.1), (6, .int s20.2.2)]) dX4_ofMending_73 (by decide) rfl ?_
            refine G_iload X dX4_ofMending_75 0 rfl ?_
            refine G_iconst X (v := (-1)) dX4_ofMending_77 (by decide) ?_
            refine G_icmp_eq X (tgt := 100) dX4_ofMending_78 (by decide) (fun h46 => ?_) (fun h46 => ?_)
            · have h47 := ifp h46 h45
              refine G_iinc X (v := (s20.2.2 + 1)) (lv' := [(6, .int (s20.2.2 + 1)), (7, .int v43), (0, .ref h), (1, .int x0), (2, .int x1), (3, .int v17), (4, .int s20.1), (5, .int s20.2.1)]) dX4_ofMending_100 7 rfl rfl (by decide) rfl ?_
              refine G_goto X (tgt := 56) dX4_ofMending_103 (by decide) ?_
              cases h47
              exact G_lv [2, 3, 4, 5, 6, 7, 0] rfl (h25 _ rfl)
            · have h48 := ifn h46 h45
              refine G_iinc X (v := (s20.1 + 1)) (lv' := [(4, .int (s20.1 + 1)), (7, .int v43), (0, .ref h), (1, .int x0), (2, .int x1), (3, .int v17), (5, .int s20.2.1), (6, .int s20.2.2)]) dX4_ofMending_81 5 rfl rfl (by decide) rfl ?_
              refine G_iload X dX4_ofMending_84 6 rfl ?_
              refine G_aload_n X dX4_ofMending_86 2 rfl ?_
              refine G_get X (i0 := 0) (ci := 4) (j := 0) (C := RX4) (ref := RX4) (T := TX4) (N := 1) dX4_ofMending_87 rfl rfl hiX4_ofMending_X4 (by decide) flX4_ofMending_9 rfl rfl ?_
              refine G_iload X dX4_ofMending_90 1 rfl ?_
              obtain ⟨v49, h50, h51⟩ := bnd h48
              refine G1_calli X (As := [.int v43]) (rest := [.int s20.2.1]) (wr := [(h, .inr (4, [.ref h_ring]))]) (ws' := [(h, .inr (4, [.ref h_ring])), (h_ring, .inr (3, [.ref h_ring_numbers])), (h_ring_numbers, .inl (cI, 352, .inl f_h_ring_numbers))]) dX4_ofMending_92 pkX3_ageOf gX4_ofMending_X3_ageOf (kkX3_ageOf l D cI cR h_ring h_ring_numbers f_h_ring_numbers v43 v49 h50) ⟨rfl, rfl⟩ ⟨Nat.le_of_ble_eq_true rfl, Nat.le_of_ble_eq_true rfl⟩ rfl rfl (Nat.le_of_ble_eq_true rfl) 0 rfl rfl [1, 2] [0] rfl rfl ⟨rfl, rfl, by decide⟩ ⟨Nat.zero_le _, Nat.zero_le _⟩ [0, 1, 2] rfl rfl ?_
              refine G_max X dX4_ofMending_95 flX4_ofMending_m_max flX4_ofMending_s_max flX4_ofMending_im flX4_ofMending_c_max (Nat.le_of_ble_eq_true rfl) (Nat.le_of_ble_eq_true rfl) (Nat.zero_le _) (Nat.zero_le _) ?_
              refine G_istore X (lv' := [(5, .int (if s20.2.1 < v49 then v49 else s20.2.1)), (4, .int (s20.1 + 1)), (7, .int v43), (0, .ref h), (1, .int x0), (2, .int x1), (3, .int v17), (6, .int s20.2.2)]) dX4_ofMending_98 (by decide) rfl ?_
              refine G_iinc X (v := (s20.2.2 + 1)) (lv' := [(6, .int (s20.2.2 + 1)), (5, .int (if s20.2.1 < v49 then v49 else s20.2.1)), (4, .int (s20.1 + 1)), (7, .int v43), (0, .ref h), (1, .int x0), (2, .int x1), (3, .int v17)]) dX4_ofMending_100 7 rfl rfl (by decide) rfl ?_
              refine G_goto X (tgt := 56) dX4_ofMending_103 (by decide) ?_
              cases h51
              exact G_lv [4, 5, 6, 7, 2, 1, 0] rfl (h25 _ rfl)
        · have h52 := ifn h15 h14
          refine G_ldc X dX4_ofMending_34 flX4_ofMending_64 ?_
          cases h52
          exact rt _ _ _ _ dX4_ofMending_36 ⟨rfl, rfl⟩
      · have h53 := ifn h10 h9
        refine G_ldc X dX4_ofMending_20 flX4_ofMending_24 ?_
        cases h53
        exact rt _ _ _ _ dX4_ofMending_22 ⟨rfl, rfl⟩
def rmX4_livingRows : Room := { frames := 1, cells := 0, slots := 0, locals := 21 }
theorem pkX4_livingRows : cK yX4_livingRows wsX4_livingRows cX4_livingRows 3 (some .int) 0 RX4 := ⟨⟨_, rfl⟩, by decide +kernel⟩
theorem hiX4_livingRows_X4 : ∀ w ∈ wsX40, w ∈ wsX4_livingRows := by decide +kernel
theorem flX4_livingRows_9 : Cond.fieldLink RX4 9 "EchoMargins$Survey" "ring" "LEchoMargins$Ring;" ∈ wsX4_livingRows := by decide +kernel
set_option maxHeartbeats 4000000 in
set_option maxRecDepth 100000 in
theorem kkX4_livingRows (l : Launch) (D : va_G) (cI cR : ClassId) (h h_ring h_ring_numbers : Nat) (f_h_ring_numbers : Nat → Int32) (z : Int32) (hz : MX4_livingRows f_h_ring_numbers = some z) : cI1 l yX4_livingRows wsX4_livingRows rmX4_livingRows D cI cR [.ref h] [(h, .inr (4, [.ref h_ring])), (h_ring, .inr (3, [.ref h_ring_numbers])), (h_ring_numbers, .inl (cI, 352, .inl f_h_ring_numbers))] z [(h, .inr (4, [.ref h_ring])), (h_ring, .inr (3, [.ref h_ring_numbers])), (h_ring_numbers, .inl (cI, 352, .inl f_h_ring_numbers))] := by
  unfold MX4_livingRows at hz
  refine kI_of (cc := cX4_livingRows) (maxL := 3) (own := RX4) (by decide +kernel) rfl rfl (Nat.le_of_ble_eq_true rfl) (lv0 := [(0, .ref h)]) rfl (fun p e s m args below meth c A Q X rt => ?_)
  refine G_iconst X (v := 0) dX4_livingRows_0 (by decide) ?_
  refine G_istore_n X (lv' := [(1, .int 0), (0, .ref h)]) dX4_livingRows_1 (by decide) rfl ?_
  refine G_iconst X (v := 0) dX4_livingRows_2 (by decide) ?_
  refine G_istore_n X (lv' := [(2, .int 0), (1, .int 0), (0, .ref h)]) dX4_livingRows_3 (by decide) rfl ?_
  obtain ⟨j2, h3, h4⟩ := bnd hz
  have J9 : G p l e rmX4_livingRows s m args below meth c D A 3 Q 0 0 38 [(1, .int j2)] [] [(h, .inr (4, [.ref h_ring])), (h_ring, .inr (3, [.ref h_ring_numbers])), (h_ring_numbers, .inl (cI, 352, .inl f_h_ring_numbers))] := by
    refine G_iload_n X dX4_livingRows_38 0 rfl ?_
    cases h4
    exact rt _ _ _ _ dX4_livingRows_39 ⟨rfl, rfl⟩
  refine G_lv [2, 1, 0] rfl ?_
  refine itr_ind (P := fun s1 : (Int32 × Int32) => G p l e rmX4_livingRows s m args below meth c D A 3 Q 0 0 4 [(0, .ref h), (1, .int s1.1), (2, .int s1.2)] [] [(h, .inr (4, [.ref h_ring])), (h_ring, .inr (3, [.ref h_ring_numbers])), (h_ring_numbers, .inl (cI, 352, .inl f_h_ring_numbers))]) (fun s1 o8 h5 h6 h7 => ?_) FU _ h3
  unfold SX4_livingRows_4 at h5
  refine G_iload_n X dX4_livingRows_4 2 rfl ?_
  refine G_aload_n X dX4_livingRows_5 0 rfl ?_
  refine G_get X (i0 := 0) (ci := 4) (j := 0) (C := RX4) (ref := RX4) (T := TX4) (N := 1) dX4_livingRows_6 rfl rfl hiX4_livingRows_X4 (by decide) flX4_livingRows_9 rfl rfl ?_
  refine G_iconst X (v := 1) dX4_livingRows_9 (by decide) ?_
  obtain ⟨v11, h12, h13⟩ := bnd h5
  refine G1_calli X (As := [.int 1]) (rest := [.int s1.2]) (wr := [(h, .inr (4, [.ref h_ring]))]) (ws' := [(h, .inr (4, [.ref h_ring])), (h_ring, .inr (3, [.ref h_ring_numbers])), (h_ring_numbers, .inl (cI, 352, .inl f_h_ring_numbers))]) dX4_livingRows_10 pkX3_get gX4_livingRows_X3_get (kkX3_get l D cI cR h_ring h_ring_numbers f_h_ring_numbers 1 v11 h12) ⟨rfl, rfl⟩ ⟨Nat.le_of_ble_eq_true rfl, Nat.le_of_ble_eq_true rfl⟩ rfl rfl (Nat.le_of_ble_eq_true rfl) 0 rfl rfl [1, 2] [0] rfl rfl ⟨rfl, rfl, by decide⟩ ⟨Nat.zero_le _, Nat.zero_le _⟩ [0, 1, 2] rfl rfl ?_
  refine G_icmp_ge X (tgt := 38) dX4_livingRows_13 (by decide) (fun h14 => ?_) (fun h14 => ?_)
  · have h15 := ifp h14 h13
    cases h15
    have h16 := h7 _ rfl
    subst h16
    exact G_lv [1] rfl (J9)
  · have h17 := ifn h14 h13
    refine G_iload_n X dX4_livingRows_16 1 rfl ?_
    refine G_aload_n X dX4_livingRows_17 0 rfl ?_
    refine G_get X (i0 := 0) (ci := 4) (j := 0) (C := RX4) (ref := RX4) (T := TX4) (N := 1) dX4_livingRows_18 rfl rfl hiX4_livingRows_X4 (by decide) flX4_livingRows_9 rfl rfl ?_
    refine G_bipush X (v := 28) dX4_livingRows_21 (by decide) ?_
    refine G_iload_n X dX4_livingRows_23 2 rfl ?_
    refine G_iadd X dX4_livingRows_24 ?_
    obtain ⟨v18, h19, h20⟩ := bnd h17
    refine G1_calli X (As := [.int (28 + s1.2)]) (rest := [.int s1.1]) (wr := [(h, .inr (4, [.ref h_ring]))]) (ws' := [(h, .inr (4, [.ref h_ring])), (h_ring, .inr (3, [.ref h_ring_numbers])), (h_ring_numbers, .inl (cI, 352, .inl f_h_ring_numbers))]) dX4_livingRows_25 pkX3_get gX4_livingRows_X3_get (kkX3_get l D cI cR h_ring h_ring_numbers f_h_ring_numbers (28 + s1.2) v18 h19) ⟨rfl, rfl⟩ ⟨Nat.le_of_ble_eq_true rfl, Nat.le_of_ble_eq_true rfl⟩ rfl rfl (Nat.le_of_ble_eq_true rfl) 0 rfl rfl [1, 2] [0] rfl rfl ⟨rfl, rfl, by decide⟩ ⟨Nat.zero_le _, Nat.zero_le _⟩ [0, 1, 2] rfl rfl ?_
    refine G_iload_n X dX4_livingRows_28 2 rfl ?_
    refine G_ishl X dX4_livingRows_29 ?_
    refine G_ior X dX4_livingRows_30 ?_
    refine G_istore_n X (lv' := [(1, .int (s1.1 ||| (v18 <<< (s1.2 &&& 31)))), (0, .ref h), (2, .int s1.2)]) dX4_livingRows_31 (by decide) rfl ?_
    refine G_iinc X (v := (s1.2 + 1)) (lv' := [(2, .int (s1.2 + 1)), (1, .int (s1.1 ||| (v18 <<< (s1.2 &&& 31)))), (0, .ref h)]) dX4_livingRows_32 2 rfl rfl (by decide) rfl ?_
    refine G_goto X (tgt := 4) dX4_livingRows_35 (by decide) ?_
    cases h20
    exact G_lv [2, 1, 0] rfl (h6 _ rfl)
def rmX4_safeRows : Room := { frames := 4, cells := 0, slots := 0, locals := 96 }
theorem pkX4_safeRows : cK yX4_safeRows wsX4_safeRows cX4_safeRows 3 (some .int) 0 RX4 := ⟨⟨_, rfl⟩, by decide +kernel⟩
theorem hiX4_safeRows_X4 : ∀ w ∈ wsX40, w ∈ wsX4_safeRows := by decide +kernel
theorem flX4_safeRows_9 : Cond.fieldLink RX4 9 "EchoMargins$Survey" "ring" "LEchoMargins$Ring;" ∈ wsX4_safeRows := by decide +kernel
set_option maxHeartbeats 4000000 in
set_option maxRecDepth 100000 in
theorem kkX4_safeRows (l : Launch) (D : va_G) (cI cR : ClassId) (h h_ring h_ring_numbers : Nat) (f_h_ring_numbers : Nat → Int32) (z : Int32) (hz : MX4_safeRows f_h_ring_numbers = some z) : cI1 l yX4_safeRows wsX4_safeRows rmX4_safeRows D cI cR [.ref h] [(h, .inr (4, [.ref h_ring])), (h_ring, .inr (3, [.ref h_ring_numbers])), (h_ring_numbers, .inl (cI, 352, .inl f_h_ring_numbers))] z [(h, .inr (4, [.ref h_ring])), (h_ring, .inr (3, [.ref h_ring_numbers])), (h_ring_numbers, .inl (cI, 352, .inl f_h_ring_numbers))] := by
  unfold MX4_safeRows at hz
  refine kI_of (cc := cX4_safeRows) (maxL := 3) (own := RX4) (by decide +kernel) rfl rfl (Nat.le_of_ble_eq_true rfl) (lv0 := [(0, .ref h)]) rfl (fun p e s m args below meth c A Q X rt => ?_)
  refine G_iconst X (v := 0) dX4_safeRows_0 (by decide) ?_
  refine G_istore_n X (lv' := [(1, .int 0), (0, .ref h)]) dX4_safeRows_1 (by decide) rfl ?_
  refine G_iconst X (v := 0) dX4_safeRows_2 (by decide) ?_
  refine G_istore_n X (lv' := [(2, .int 0), (1, .int 0), (0, .ref h)]) dX4_safeRows_3 (by decide) rfl ?_
  obtain ⟨j2, h3, h4⟩ := bnd hz
  have J9 : G p l e rmX4_safeRows s m args below meth c D A 3 Q 0 0 58 [(1, .int j2)] [] [(h, .inr (4, [.ref h_ring])), (h_ring, .inr (3, [.ref h_ring_numbers])), (h_ring_numbers, .inl (cI, 352, .inl f_h_ring_numbers))] := by
    refine G_iload_n X dX4_safeRows_58 0 rfl ?_
    cases h4
    exact rt _ _ _ _ dX4_safeRows_59 ⟨rfl, rfl⟩
  refine G_lv [2, 1, 0] rfl ?_
  refine itr_ind (P := fun s1 : (Int32 × Int32) => G p l e rmX4_safeRows s m args below meth c D A 3 Q 0 0 4 [(0, .ref h), (1, .int s1.1), (2, .int s1.2)] [] [(h, .inr (4, [.ref h_ring])), (h_ring, .inr (3, [.ref h_ring_numbers])), (h_ring_numbers, .inl (cI, 352, .inl f_h_ring_numbers))]) (fun s1 o8 h5 h6 h7 => ?_) FU _ h3
  unfold SX4_safeRows_4 at h5
  refine G_iload_n X dX4_safeRows_4 2 rfl ?_
  refine G_aload_n X dX4_safeRows_5 0 rfl ?_
  refine G_get X (i0 := 0) (ci := 4) (j := 0) (C := RX4) (ref := RX4) (T := TX4) (N := 1) dX4_safeRows_6 rfl rfl hiX4_safeRows_X4 (by decide) flX4_safeRows_9 rfl rfl ?_
  refine G_iconst X (v := 1) dX4_safeRows_9 (by decide) ?_
  obtain ⟨v11, h12, h13⟩ := bnd h5
  refine G1_calli X (As := [.int 1]) (rest := [.int s1.2]) (wr := [(h, .inr (4, [.ref h_ring]))]) (ws' := [(h, .inr (4, [.ref h_ring])), (h_ring, .inr (3, [.ref h_ring_numbers])), (h_ring_numbers, .inl (cI, 352, .inl f_h_ring_numbers))]) dX4_safeRows_10 pkX3_get gX4_safeRows_X3_get (kkX3_get l D cI cR h_ring h_ring_numbers f_h_ring_numbers 1 v11 h12) ⟨rfl, rfl⟩ ⟨Nat.le_of_ble_eq_true rfl, Nat.le_of_ble_eq_true rfl⟩ rfl rfl (Nat.le_of_ble_eq_true rfl) 0 rfl rfl [1, 2] [0] rfl rfl ⟨rfl, rfl, by decide⟩ ⟨Nat.zero_le _, Nat.zero_le _⟩ [0, 1, 2] rfl rfl ?_
  refine G_icmp_ge X (tgt := 58) dX4_safeRows_13 (by decide) (fun h14 => ?_) (fun h14 => ?_)
  · have h15 := ifp h14 h13
    cases h15
    have h16 := h7 _ rfl
    subst h16
    exact G_lv [1] rfl (J9)
  · have h17 := ifn h14 h13
    refine G_aload_n X dX4_safeRows_16 0 rfl ?_
    refine G_get X (i0 := 0) (ci := 4) (j := 0) (C := RX4) (ref := RX4) (T := TX4) (N := 1) dX4_safeRows_17 rfl rfl hiX4_safeRows_X4 (by decide) flX4_safeRows_9 rfl rfl ?_
    refine G_iload_n X dX4_safeRows_20 2 rfl ?_
    obtain ⟨v18, h19, h20⟩ := bnd h17
    refine G1_calli X (As := [.int s1.2]) (rest := []) (wr := [(h, .inr (4, [.ref h_ring]))]) (ws' := [(h, .inr (4, [.ref h_ring])), (h_ring, .inr (3, [.ref h_ring_numbers])), (h_ring_numbers, .inl (cI, 352, .inl f_h_ring_numbers))]) dX4_safeRows_21 pkX3_lives gX4_safeRows_X3_lives (kkX3_lives l D cI cR h_ring h_ring_numbers f_h_ring_numbers s1.2 v18 h19) ⟨rfl, rfl⟩ ⟨Nat.le_of_ble_eq_true rfl, Nat.le_of_ble_eq_true rfl⟩ rfl rfl (Nat.le_of_ble_eq_true rfl) 0 rfl rfl [1, 2] [0] rfl rfl ⟨rfl, rfl, by decide⟩ ⟨Nat.zero_le _, Nat.zero_le _⟩ [0, 1, 2] rfl rfl ?_
    refine G_if_eq X (tgt := 52) dX4_safeRows_24 (by decide) (fun h21 => ?_) (fun h21 => ?_)
    · have h22 := ifp h21 h20
      refine G_iinc X (v := (s1.2 + 1)) (lv' := [(2, .int (s1.2 + 1)), (0, .ref h), (1, .int s1.1)]) dX4_safeRows_52 2 rfl rfl (by decide) rfl ?_
      refine G_goto X (tgt := 4) dX4_safeRows_55 (by decide) ?_
      cases h22
      exact G_lv [1, 2, 0] rfl (h6 _ rfl)
    · have h23 := ifn h21 h20
      refine G_aload_n X dX4_safeRows_27 0 rfl ?_
      refine G_get X (i0 := 0) (ci := 4) (j := 0) (C := RX4) (ref := RX4) (T := TX4) (N := 1) dX4_safeRows_28 rfl rfl hiX4_safeRows_X4 (by decide) flX4_safeRows_9 rfl rfl ?_
      refine G_iload_n X dX4_safeRows_31 2 rfl ?_
      obtain ⟨v24, h25, h26⟩ := bnd h23
      refine G1_calli X (As := [.int s1.2]) (rest := []) (wr := [(h, .inr (4, [.ref h_ring]))]) (ws' := [(h, .inr (4, [.ref h_ring])), (h_ring, .inr (3, [.ref h_ring_numbers])), (h_ring_numbers, .inl (cI, 352, .inl f_h_ring_numbers))]) dX4_safeRows_32 pkX3_comingBack gX4_safeRows_X3_comingBack (kkX3_comingBack l D cI cR h_ring h_ring_numbers f_h_ring_numbers s1.2 v24 h25) ⟨rfl, rfl⟩ ⟨Nat.le_of_ble_eq_true rfl, Nat.le_of_ble_eq_true rfl⟩ rfl rfl (Nat.le_of_ble_eq_true rfl) 0 rfl rfl [1, 2] [0] rfl rfl ⟨rfl, rfl, by decide⟩ ⟨Nat.zero_le _, Nat.zero_le _⟩ [0, 1, 2] rfl rfl ?_
      refine G_aload_n X dX4_safeRows_35 0 rfl ?_
      refine G_iload_n X dX4_safeRows_36 2 rfl ?_
      obtain ⟨v27, h28, h29⟩ := bnd h26
      refine G1_calli X (As := [.int s1.2]) (rest := [.int v24]) (wr := []) (ws' := [(h, .inr (4, [.ref h_ring])), (h_ring, .inr (3, [.ref h_ring_numbers])), (h_ring_numbers, .inl (cI, 352, .inl f_h_ring_numbers))]) dX4_safeRows_37 pkX4_unknownCells gX4_safeRows_X4_unknownCells (kkX4_unknownCells l D cI cR h h_ring h_ring_numbers f_h_ring_numbers s1.2 v27 h28) ⟨rfl, rfl⟩ ⟨Nat.le_of_ble_eq_true rfl, Nat.le_of_ble_eq_true rfl⟩ rfl rfl (Nat.le_of_ble_eq_true rfl) 0 rfl rfl [0, 1, 2] [] rfl rfl ⟨rfl, rfl, by decide⟩ ⟨Nat.zero_le _, Nat.zero_le _⟩ [0, 1, 2] rfl rfl ?_
      refine G_iadd X dX4_safeRows_40 ?_
      refine G_bipush X (v := 8) dX4_safeRows_41 (by decide) ?_
      refine G_icmp_ne X (tgt := 52) dX4_safeRows_43 (by decide) (fun h30 => ?_) (fun h30 => ?_)
      · have h31 := ifp h30 h29
        refine G_iload_n X dX4_safeRows_46 1 rfl ?_
        refine G_iconst X (v := 1) dX4_safeRows_47 (by decide) ?_
        refine G_iload_n X dX4_safeRows_48 2 rfl ?_
        refine G_ishl X dX4_safeRows_49 ?_
        refine G_ior X dX4_safeRows_50 ?_
        refine G_istore_n X (lv' := [(1, .int (s1.1 ||| (1 <<< (s1.2 &&& 31)))), (0, .ref h), (2, .int s1.2)]) dX4_safeRows_51 (by decide) rfl ?_
        refine G_iinc X (v := (s1.2 + 1)) (lv' := [(2, .int (s1.2 + 1)), (1, .int (s1.1 ||| (1 <<< (s1.2 &&& 31)))), (0, .ref h)]) dX4_safeRows_52 2 rfl rfl (by decide) rfl ?_
        refine G_goto X (tgt := 4) dX4_safeRows_55 (by decide) ?_
        cases h31
        exact G_lv [2, 1, 0] rfl (h6 _ rfl)
      · have h32 := ifn h30 h29
        refine G_iinc X (v := (s1.2 + 1)) (lv' := [(2, .int (s1.2 + 1)), (0, .ref h), (1, .int s1.1)]) dX4_safeRows_52 2 rfl rfl (by decide) rfl ?_
        refine G_goto X (tgt := 4) dX4_safeRows_55 (by decide) ?_
        cases h32
        exact G_lv [1, 2, 0] rfl (h6 _ rfl)
def rmX4_allEchoes : Room := { frames := 1, cells := 0, slots := 0, locals := 21 }
theorem pkX4_allEchoes : cK yX4_allEchoes wsX4_allEchoes cX4_allEchoes 3 (some .int) 0 RX4 := ⟨⟨_, rfl⟩, by decide +kernel⟩
theorem hiX4_allEchoes_X4 : ∀ w ∈ wsX40, w ∈ wsX4_allEchoes := by decide +kernel
theorem flX4_allEchoes_9 : Cond.fieldLink RX4 9 "EchoMargins$Survey" "ring" "LEchoMargins$Ring;" ∈ wsX4_allEchoes := by decide +kernel
set_option maxHeartbeats 4000000 in
set_option maxRecDepth 100000 in
theorem kkX4_allEchoes (l : Launch) (D : va_G) (cI cR : ClassId) (h h_ring h_ring_numbers : Nat) (f_h_ring_numbers : Nat → Int32) (z : Int32) (hz : MX4_allEchoes f_h_ring_numbers = some z) : cI1 l yX4_allEchoes wsX4_allEchoes rmX4_allEchoes D cI cR [.ref h] [(h, .inr (4, [.ref h_ring])), (h_ring, .inr (3, [.ref h_ring_numbers])), (h_ring_numbers, .inl (cI, 352, .inl f_h_ring_numbers))] z [(h, .inr (4, [.ref h_ring])), (h_ring, .inr (3, [.ref h_ring_numbers])), (h_ring_numbers, .inl (cI, 352, .inl f_h_ring_numbers))] := by
  unfold MX4_allEchoes at hz
  refine kI_of (cc := cX4_allEchoes) (maxL := 3) (own := RX4) (by decide +kernel) rfl rfl (Nat.le_of_ble_eq_true rfl) (lv0 := [(0, .ref h)]) rfl (fun p e s m args below meth c A Q X rt => ?_)
  refine G_iconst X (v := 0) dX4_allEchoes_0 (by decide) ?_
  refine G_istore_n X (lv' := [(1, .int 0), (0, .ref h)]) dX4_allEchoes_1 (by decide) rfl ?_
  refine G_iconst X (v := 0) dX4_allEchoes_2 (by decide) ?_
  refine G_istore_n X (lv' := [(2, .int 0), (1, .int 0), (0, .ref h)]) dX4_allEchoes_3 (by decide) rfl ?_
  obtain ⟨j2, h3, h4⟩ := bnd hz
  have J9 : G p l e rmX4_allEchoes s m args below meth c D A 3 Q 0 0 36 [(1, .int j2)] [] [(h, .inr (4, [.ref h_ring])), (h_ring, .inr (3, [.ref h_ring_numbers])), (h_ring_numbers, .inl (cI, 352, .inl f_h_ring_numbers))] := by
    refine G_iload_n X dX4_allEchoes_36 0 rfl ?_
    cases h4
    exact rt _ _ _ _ dX4_allEchoes_37 ⟨rfl, rfl⟩
  refine G_lv [2, 1, 0] rfl ?_
  refine itr_ind (P := fun s1 : (Int32 × Int32) => G p l e rmX4_allEchoes s m args below meth c D A 3 Q 0 0 4 [(0, .ref h), (1, .int s1.1), (2, .int s1.2)] [] [(h, .inr (4, [.ref h_ring])), (h_ring, .inr (3, [.ref h_ring_numbers])), (h_ring_numbers, .inl (cI, 352, .inl f_h_ring_numbers))]) (fun s1 o8 h5 h6 h7 => ?_) FU _ h3
  unfold SX4_allEchoes_4 at h5
  refine G_iload_n X dX4_allEchoes_4 2 rfl ?_
  refine G_aload_n X dX4_allEchoes_5 0 rfl ?_
  refine G_get X (i0 := 0) (ci := 4) (j := 0) (C := RX4) (ref := RX4) (T := TX4) (N := 1) dX4_allEchoes_6 rfl rfl hiX4_allEchoes_X4 (by decide) flX4_allEchoes_9 rfl rfl ?_
  refine G_iconst X (v := 1) dX4_allEchoes_9 (by decide) ?_
  obtain ⟨v11, h12, h13⟩ := bnd h5
  refine G1_calli X (As := [.int 1]) (rest := [.int s1.2]) (wr := [(h, .inr (4, [.ref h_ring]))]) (ws' := [(h, .inr (4, [.ref h_ring])), (h_ring, .inr (3, [.ref h_ring_numbers])), (h_ring_numbers, .inl (cI, 352, .inl f_h_ring_numbers))]) dX4_allEchoes_10 pkX3_get gX4_allEchoes_X3_get (kkX3_get l D cI cR h_ring h_ring_numbers f_h_ring_numbers 1 v11 h12) ⟨rfl, rfl⟩ ⟨Nat.le_of_ble_eq_true rfl, Nat.le_of_ble_eq_true rfl⟩ rfl rfl (Nat.le_of_ble_eq_true rfl) 0 rfl rfl [1, 2] [0] rfl rfl ⟨rfl, rfl, by decide⟩ ⟨Nat.zero_le _, Nat.zero_le _⟩ [0, 1, 2] rfl rfl ?_
  refine G_icmp_ge X (tgt := 36) dX4_allEchoes_13 (by decide) (fun h14 => ?_) (fun h14 => ?_)
  · have h15 := ifp h14 h13
    cases h15
    have h16 := h7 _ rfl
    subst h16
    exact G_lv [1] rfl (J9)
  · have h17 := ifn h14 h13
    refine G_iload_n X dX4_allEchoes_16 1 rfl ?_
    refine G_aload_n X dX4_allEchoes_17 0 rfl ?_
    refine G_get X (i0 := 0) (ci := 4) (j := 0) (C := RX4) (ref := RX4) (T := TX4) (N := 1) dX4_allEchoes_18 rfl rfl hiX4_allEchoes_X4 (by decide) flX4_allEchoes_9 rfl rfl ?_
    refine G_bipush X (v := 55) dX4_allEchoes_21 (by decide) ?_
    refine G_iload_n X dX4_allEchoes_23 2 rfl ?_
    refine G_iadd X dX4_allEchoes_24 ?_
    obtain ⟨v18, h19, h20⟩ := bnd h17
    refine G1_calli X (As := [.int (55 + s1.2)]) (rest := [.int s1.1]) (wr := [(h, .inr (4, [.ref h_ring]))]) (ws' := [(h, .inr (4, [.ref h_ring])), (h_ring, .inr (3, [.ref h_ring_numbers])), (h_ring_numbers, .inl (cI, 352, .inl f_h_ring_numbers))]) dX4_allEchoes_25 pkX3_get gX4_allEchoes_X3_get (kkX3_get l D cI cR h_ring h_ring_numbers f_h_ring_numbers (55 + s1.2) v18 h19) ⟨rfl, rfl⟩ ⟨Nat.le_of_ble_eq_true rfl, Nat.le_of_ble_eq_true rfl⟩ rfl rfl (Nat.le_of_ble_eq_true rfl) 0 rfl rfl [1, 2] [0] rfl rfl ⟨rfl, rfl, by decide⟩ ⟨Nat.zero_le _, Nat.zero_le _⟩ [0, 1, 2] rfl rfl ?_
    refine G_iadd X dX4_allEchoes_28 ?_
    refine G_istore_n X (lv' := [(1, .int (s1.1 + v18)), (0, .ref h), (2, .int s1.2)]) dX4_allEchoes_29 (by decide) rfl ?_
    refine G_iinc X (v := (s1.2 + 1)) (lv' := [(2, .int (s1.2 + 1)), (1, .int (s1.1 + v18)), (0, .ref h)]) dX4_allEchoes_30 2 rfl rfl (by decide) rfl ?_
    refine G_goto X (tgt := 4) dX4_allEchoes_33 (by decide) ?_
    cases h20
    exact G_lv [2, 1, 0] rfl (h6 _ rfl)
def rmX4_freshEchoes : Room := { frames := 2, cells := 0, slots := 0, locals := 43 }
theorem pkX4_freshEchoes : cK yX4_freshEchoes wsX4_freshEchoes cX4_freshEchoes 4 (some .int) 0 RX4 := ⟨⟨_, rfl⟩, by decide +kernel⟩
theorem hiX4_freshEchoes_X4 : ∀ w ∈ wsX40, w ∈ wsX4_freshEchoes := by decide +kernel
theorem flX4_freshEchoes_9 : Cond.fieldLink RX4 9 "EchoMargins$Survey" "ring" "LEchoMargins$Ring;" ∈ wsX4_freshEchoes := by decide +kernel
set_option maxHeartbeats 4000000 in
set_option maxRecDepth 100000 in
theorem kkX4_freshEchoes (l : Launch) (D : va_G) (cI cR : ClassId) (h h_ring h_ring_numbers : Nat) (f_h_ring_numbers : Nat → Int32) (z : Int32) (hz : MX4_freshEchoes f_h_ring_numbers = some z) : cI1 l yX4_freshEchoes wsX4_freshEchoes rmX4_freshEchoes D cI cR [.ref h] [(h, .inr (4, [.ref h_ring])), (h_ring, .inr (3, [.ref h_ring_numbers])), (h_ring_numbers, .inl (cI, 352, .inl f_h_ring_numbers))] z [(h, .inr (4, [.ref h_ring])), (h_ring, .inr (3, [.ref h_ring_numbers])), (h_ring_numbers, .inl (cI, 352, .inl f_h_ring_numbers))] := by
  unfold MX4_freshEchoes at hz
  refine kI_of (cc := cX4_freshEchoes) (maxL := 4) (own := RX4) (by decide +kernel) rfl rfl (Nat.le_of_ble_eq_true rfl) (lv0 := [(0, .ref h)]) rfl (fun p e s m args below meth c A Q X rt => ?_)
  refine G_iconst X (v := 0) dX4_freshEchoes_0 (by decide) ?_
  refine G_istore_n X (lv' := [(1, .int 0), (0, .ref h)]) dX4_freshEchoes_1 (by decide) rfl ?_
  refine G_iconst X (v := 0) dX4_freshEchoes_2 (by decide) ?_
  refine G_istore_n X (lv' := [(2, .int 0), (1, .int 0), (0, .ref h)]) dX4_freshEchoes_3 (by decide) rfl ?_
  obtain ⟨j2, h3, h4⟩ := bnd hz
  have J9 : G p l e rmX4_freshEchoes s m args below meth c D A 4 Q 0 0 69 [(1, .int j2)] [] [(h, .inr (4, [.ref h_ring])), (h_ring, .inr (3, [.ref h_ring_numbers])), (h_ring_numbers, .inl (cI, 352, .inl f_h_ring_numbers))] := by
    refine G_iload_n X dX4_freshEchoes_69 0 rfl ?_
    cases h4
    exact rt _ _ _ _ dX4_freshEchoes_70 ⟨rfl, rfl⟩
  refine G_lv [2, 1, 0] rfl ?_
  refine itr_ind (P := fun s1 : (Int32 × Int32) => G p l e rmX4_freshEchoes s m args below meth c D A 4 Q 0 0 4 [(0, .ref h), (1, .int s1.1), (2, .int s1.2)] [] [(h, .inr (4, [.ref h_ring])), (h_ring, .inr (3, [.ref h_ring_numbers])), (h_ring_numbers, .inl (cI, 352, .inl f_h_ring_numbers))]) (fun s1 o8 h5 h6 h7 => ?_) FU _ h3
  unfold SX4_freshEchoes_4 at h5
  refine G_iload_n X dX4_freshEchoes_4 2 rfl ?_
  refine G_aload_n X dX4_freshEchoes_5 0 rfl ?_
  refine G_get X (i0 := 0) (ci := 4) (j := 0) (C := RX4) (ref := RX4) (T := TX4) (N := 1) dX4_freshEchoes_6 rfl rfl hiX4_freshEchoes_X4 (by decide) flX4_freshEchoes_9 rfl rfl ?_
  refine G_iconst X (v := 1) dX4_freshEchoes_9 (by decide) ?_
  obtain ⟨v11, h12, h13⟩ := bnd h5
  refine G1_calli X (As := [.int 1]) (rest := [.int s1.2]) (wr := [(h, .inr (4, [.ref h_ring]))]) (ws' := [(h, .inr (4, [.ref h_ring])), (h_ring, .inr (3, [.ref h_ring_numbers])), (h_ring_numbers, .inl (cI, 352, .inl f_h_ring_numbers))]) dX4_freshEchoes_10 pkX3_get gX4_freshEchoes_X3_get (kkX3_get l D cI cR h_ring h_ring_numbers f_h_ring_numbers 1 v11 h12) ⟨rfl, rfl⟩ ⟨Nat.le_of_ble_eq_true rfl, Nat.le_of_ble_eq_true rfl⟩ rfl rfl (Nat.le_of_ble_eq_true rfl) 0 rfl rfl [1, 2] [0] rfl rfl ⟨rfl, rfl, by decide⟩ ⟨Nat.zero_le _, Nat.zero_le _⟩ [0, 1, 2] rfl rfl ?_
  refine G_icmp_ge X (tgt := 69) dX4_freshEchoes_13 (by decide) (fun h14 => ?_) (fun h14 => ?_)
  · have h15 := ifp h14 h13
    cases h15
    have h16 := h7 _ rfl
    subst h16
    exact G_lv [1] rfl (J9)
  · have h17 := ifn h14 h13
    refine G_iconst X (v := 0) dX4_freshEchoes_16 (by decide) ?_
    refine G_istore_n X (lv' := [(3, .int 0), (0, .ref h), (1, .int s1.1), (2, .int s1.2)]) dX4_freshEchoes_17 (by decide) rfl ?_
    obtain ⟨j19, h20, h21⟩ := bnd h17
    have J26 : G p l e rmX4_freshEchoes s m args below meth c D A 4 Q 0 0 63 [(0, .ref h), (1, .int j19), (2, .int s1.2)] [] [(h, .inr (4, [.ref h_ring])), (h_ring, .inr (3, [.ref h_ring_numbers])), (h_ring_numbers, .inl (cI, 352, .inl f_h_ring_numbers))] := by
      refine G_iinc X (v := (s1.2 + 1)) (lv' := [(2, .int (s1.2 + 1)), (0, .ref h), (1, .int j19)]) dX4_freshEchoes_63 2 rfl rfl (by decide) rfl ?_
      refine G_goto X (tgt := 4) dX4_freshEchoes_66 (by decide) ?_
      cases h21
      exact G_lv [1, 2, 0] rfl (h6 _ rfl)
    refine G_lv [1, 2, 3, 0] rfl ?_
    refine itr_ind (P := fun s18 : (Int32 × Int32) => G p l e rmX4_freshEchoes s m args below meth c D A 4 Q 0 0 18 [(0, .ref h), (1, .int s18.1), (2, .int s1.2), (3, .int s18.2)] [] [(h, .inr (4, [.ref h_ring])), (h_ring, .inr (3, [.ref h_ring_numbers])), (h_ring_numbers, .inl (cI, 352, .inl f_h_ring_numbers))]) (fun s18 o25 h22 h23 h24 => ?_) FU _ h20
    unfold SX4_freshEchoes_18 at h22
    refine G_iload_n X dX4_freshEchoes_18 3 rfl ?_
    refine G_aload_n X dX4_freshEchoes_19 0 rfl ?_
    refine G_get X (i0 := 0) (ci := 4) (j := 0) (C := RX4) (ref := RX4) (T := TX4) (N := 1) dX4_freshEchoes_20 rfl rfl hiX4_freshEchoes_X4 (by decide) flX4_freshEchoes_9 rfl rfl ?_
    refine G_bipush X (v := 55) dX4_freshEchoes_23 (by decide) ?_
    refine G_iload_n X dX4_freshEchoes_25 2 rfl ?_
    refine G_iadd X dX4_freshEchoes_26 ?_
    obtain ⟨v28, h29, h30⟩ := bnd h22
    refine G1_calli X (As := [.int (55 + s1.2)]) (rest := [.int s18.2]) (wr := [(h, .inr (4, [.ref h_ring]))]) (ws' := [(h, .inr (4, [.ref h_ring])), (h_ring, .inr (3, [.ref h_ring_numbers])), (h_ring_numbers, .inl (cI, 352, .inl f_h_ring_numbers))]) dX4_freshEchoes_27 pkX3_get gX4_freshEchoes_X3_get (kkX3_get l D cI cR h_ring h_ring_numbers f_h_ring_numbers (55 + s1.2) v28 h29) ⟨rfl, rfl⟩ ⟨Nat.le_of_ble_eq_true rfl, Nat.le_of_ble_eq_true rfl⟩ rfl rfl (Nat.le_of_ble_eq_true rfl) 0 rfl rfl [1, 2] [0] rfl rfl ⟨rfl, rfl, by decide⟩ ⟨Nat.zero_le _, Nat.zero_le _⟩ [0, 1, 2] rfl rfl ?_
    refine G_icmp_ge X (tgt := 63) dX4_freshEchoes_30 (by decide) (fun h31 => ?_) (fun h31 => ?_)
    · have h32 := ifp h31 h30
      cases h32
      have h33 := h24 _ rfl
      subst h33
      exact G_lv [0, 1, 2] rfl (J26)
    · have h34 := ifn h31 h30
      refine G_iload_n X dX4_freshEchoes_33 1 rfl ?_
      refine G_aload_n X dX4_freshEchoes_34 0 rfl ?_
      refine G_get X (i0 := 0) (ci := 4) (j := 0) (C := RX4) (ref := RX4) (T := TX4) (N := 1) dX4_freshEchoes_35 rfl rfl hiX4_freshEchoes_X4 (by decide) flX4_freshEchoes_9 rfl rfl ?_
      refine G_aload_n X dX4_freshEchoes_38 0 rfl ?_
      refine G_iload_n X dX4_freshEchoes_39 2 rfl ?_
      refine G_iload_n X dX4_freshEchoes_40 3 rfl ?_
      obtain ⟨v35, h36, h37⟩ := bnd h34
      refine G1_calli X (As := [.int s1.2, .int s18.2]) (rest := [.ref h_ring, .int s18.1]) (wr := []) (ws' := [(h, .inr (4, [.ref h_ring])), (h_ring, .inr (3, [.ref h_ring_numbers])), (h_ring_numbers, .inl (cI, 352, .inl f_h_ring_numbers))]) dX4_freshEchoes_41 pkX4_echoIn gX4_freshEchoes_X4_echoIn (kkX4_echoIn l D cI cR h h_ring h_ring_numbers f_h_ring_numbers s1.2 s18.2 v35 h36) ⟨rfl, rfl⟩ ⟨Nat.le_of_ble_eq_true rfl, Nat.le_of_ble_eq_true rfl⟩ rfl rfl (Nat.le_of_ble_eq_true rfl) 0 rfl rfl [0, 1, 2] [] rfl rfl ⟨rfl, rfl, by decide⟩ ⟨Nat.zero_le _, Nat.zero_le _⟩ [0, 1, 2] rfl rfl ?_
      obtain ⟨v38, h39, h40⟩ := bnd h37
      refine G1_calli X (As := [.int v35]) (rest := [.int s18.1]) (wr := [(h, .inr (4, [.ref h_ring]))]) (ws' := [(h, .inr (4, [.ref h_ring])), (h_ring, .inr (3, [.ref h_ring_numbers])), (h_ring_numbers, .inl (cI, 352, .inl f_h_ring_numbers))]) dX4_freshEchoes_44 pkX3_isFaded gX4_freshEchoes_X3_isFaded (kkX3_isFaded l D cI cR h_ring h_ring_numbers f_h_ring_numbers v35 v38 h39) ⟨rfl, rfl⟩ ⟨Nat.le_of_ble_eq_true rfl, Nat.le_of_ble_eq_true rfl⟩ rfl rfl (Nat.le_of_ble_eq_true rfl) 0 rfl rfl [1, 2] [0] rfl rfl ⟨rfl, rfl, by decide⟩ ⟨Nat.zero_le _, Nat.zero_le _⟩ [0, 1, 2] rfl rfl ?_
      refine G_if_eq X (tgt := 54) dX4_freshEchoes_47 (by decide) (fun h41 => ?_) (fun h41 => ?_)
      · have h42 := ifp h41 h40
        refine G_iconst X (v := 1) dX4_freshEchoes_54 (by decide) ?_
        refine G_iadd X dX4_freshEchoes_55 ?_
        refine G_istore_n X (lv' := [(1, .int (s18.1 + 1)), (0, .ref h), (2, .int s1.2), (3, .int s18.2)]) dX4_freshEchoes_56 (by decide) rfl ?_
        refine G_iinc X (v := (s18.2 + 1)) (lv' := [(3, .int (s18.2 + 1)), (1, .int (s18.1 + 1)), (0, .ref h), (2, .int s1.2)]) dX4_freshEchoes_57 3 rfl rfl (by decide) rfl ?_
        refine G_goto X (tgt := 18) dX4_freshEchoes_60 (by decide) ?_
        cases h42
        exact G_lv [2, 1, 3, 0] rfl (h23 _ rfl)
      · have h43 := ifn h41 h40
        refine G_iconst X (v := 0) dX4_freshEchoes_50 (by decide) ?_
        refine G_goto X (tgt := 55) dX4_freshEchoes_51 (by decide) ?_
        refine G_iadd X dX4_freshEchoes_55 ?_
        refine G_istore_n X (lv' := [(1, .int (s18.1 + 0)), (0, .ref h), (2, .int s1.2), (3, .int s18.2)]) dX4_freshEchoes_56 (by decide) rfl ?_
        refine G_iinc X (v := (s18.2 + 1)) (lv' := [(3, .int (s18.2 + 1)), (1, .int (s18.1 + 0)), (0, .ref h), (2, .int s1.2)]) dX4_freshEchoes_57 3 rfl rfl (by decide) rfl ?_
        refine G_goto X (tgt := 18) dX4_freshEchoes_60 (by decide) ?_
        cases h43
        exact G_lv [2, 1, 3, 0] rfl (h23 _ rfl)
def rmX4_allUnknownCells : Room := { frames := 3, cells := 0, slots := 0, locals := 66 }
theorem pkX4_allUnknownCells : cK yX4_allUnknownCells wsX4_allUnknownCells cX4_allUnknownCells 3 (some .int) 0 RX4 := ⟨⟨_, rfl⟩, by decide +kernel⟩
theorem hiX4_allUnknownCells_X4 : ∀ w ∈ wsX40, w ∈ wsX4_allUnknownCells := by decide +kernel
theorem flX4_allUnknownCells_9 : Cond.fieldLink RX4 9 "EchoMargins$Survey" "ring" "LEchoMargins$Ring;" ∈ wsX4_allUnknownCells := by decide +kernel
set_option maxHeartbeats 4000000 in
set_option maxRecDepth 100000 in
theorem kkX4_allUnknownCells (l : Launch) (D : va_G) (cI cR : ClassId) (h h_ring h_ring_numbers : Nat) (f_h_ring_numbers : Nat → Int32) (z : Int32) (hz : MX4_allUnknownCells f_h_ring_numbers = some z) : cI1 l yX4_allUnknownCells wsX4_allUnknownCells rmX4_allUnknownCells D cI cR [.ref h] [(h, .inr (4, [.ref h_ring])), (h_ring, .inr (3, [.ref h_ring_numbers])), (h_ring_numbers, .inl (cI, 352, .inl f_h_ring_numbers))] z [(h, .inr (4, [.ref h_ring])), (h_ring, .inr (3, [.ref h_ring_numbers])), (h_ring_numbers, .inl (cI, 352, .inl f_h_ring_numbers))] := by
  unfold MX4_allUnknownCells at hz
  refine kI_of (cc := cX4_allUnknownCells) (maxL := 3) (own := RX4) (by decide +kernel) rfl rfl (Nat.le_of_ble_eq_true rfl) (lv0 := [(0, .ref h)]) rfl (fun p e s m args below meth c A Q X rt => ?_)
  refine G_iconst X (v := 0) dX4_allUnknownCells_0 (by decide) ?_
  refine G_istore_n X (lv' := [(1, .int 0), (0, .ref h)]) dX4_allUnknownCells_1 (by decide) rfl ?_
  refine G_iconst X (v := 0) dX4_allUnknownCells_2 (by decide) ?_
  refine G_istore_n X (lv' := [(2, .int 0), (1, .int 0), (0, .ref h)]) dX4_allUnknownCells_3 (by decide) rfl ?_
  obtain ⟨j2, h3, h4⟩ := bnd hz
  have J9 : G p l e rmX4_allUnknownCells s m args below meth c D A 3 Q 0 0 45 [(1, .int j2)] [] [(h, .inr (4, [.ref h_ring])), (h_ring, .inr (3, [.ref h_ring_numbers])), (h_ring_numbers, .inl (cI, 352, .inl f_h_ring_numbers))] := by
    refine G_iload_n X dX4_allUnknownCells_45 0 rfl ?_
    cases h4
    exact rt _ _ _ _ dX4_allUnknownCells_46 ⟨rfl, rfl⟩
  refine G_lv [2, 1, 0] rfl ?_
  refine itr_ind (P := fun s1 : (Int32 × Int32) => G p l e rmX4_allUnknownCells s m args below meth c D A 3 Q 0 0 4 [(0, .ref h), (1, .int s1.1), (2, .int s1.2)] [] [(h, .inr (4, [.ref h_ring])), (h_ring, .inr (3, [.ref h_ring_numbers])), (h_ring_numbers, .inl (cI, 352, .inl f_h_ring_numbers))]) (fun s1 o8 h5 h6 h7 => ?_) FU _ h3
  unfold SX4_allUnknownCells_4 at h5
  refine G_iload_n X dX4_allUnknownCells_4 2 rfl ?_
  refine G_aload_n X dX4_allUnknownCells_5 0 rfl ?_
  refine G_get X (i0 := 0) (ci := 4) (j := 0) (C := RX4) (ref := RX4) (T := TX4) (N := 1) dX4_allUnknownCells_6 rfl rfl hiX4_allUnknownCells_X4 (by decide) flX4_allUnknownCells_9 rfl rfl ?_
  refine G_iconst X (v := 1) dX4_allUnknownCells_9 (by decide) ?_
  obtain ⟨v11, h12, h13⟩ := bnd h5
  refine G1_calli X (As := [.int 1]) (rest := [.int s1.2]) (wr := [(h, .inr (4, [.ref h_ring]))]) (ws' := [(h, .inr (4, [.ref h_ring])), (h_ring, .inr (3, [.ref h_ring_numbers])), (h_ring_numbers, .inl (cI, 352, .inl f_h_ring_numbers))]) dX4_allUnknownCells_10 pkX3_get gX4_allUnknownCells_X3_get (kkX3_get l D cI cR h_ring h_ring_numbers f_h_ring_numbers 1 v11 h12) ⟨rfl, rfl⟩ ⟨Nat.le_of_ble_eq_true rfl, Nat.le_of_ble_eq_true rfl⟩ rfl rfl (Nat.le_of_ble_eq_true rfl) 0 rfl rfl [1, 2] [0] rfl rfl ⟨rfl, rfl, by decide⟩ ⟨Nat.zero_le _, Nat.zero_le _⟩ [0, 1, 2] rfl rfl ?_
  refine G_icmp_ge X (tgt := 45) dX4_allUnknownCells_13 (by decide) (fun h14 => ?_) (fun h14 => ?_)
  · have h15 := ifp h14 h13
    cases h15
    have h16 := h7 _ rfl
    subst h16
    exact G_lv [1] rfl (J9)
  · have h17 := ifn h14 h13
    refine G_iload_n X dX4_allUnknownCells_16 1 rfl ?_
    refine G_aload_n X dX4_allUnknownCells_17 0 rfl ?_
    refine G_get X (i0 := 0) (ci := 4) (j := 0) (C := RX4) (ref := RX4) (T := TX4) (N := 1) dX4_allUnknownCells_18 rfl rfl hiX4_allUnknownCells_X4 (by decide) flX4_allUnknownCells_9 rfl rfl ?_
    refine G_iload_n X dX4_allUnknownCells_21 2 rfl ?_
    obtain ⟨v18, h19, h20⟩ := bnd h17
    refine G1_calli X (As := [.int s1.2]) (rest := [.int s1.1]) (wr := [(h, .inr (4, [.ref h_ring]))]) (ws' := [(h, .inr (4, [.ref h_ring])), (h_ring, .inr (3, [.ref h_ring_numbers])), (h_ring_numbers, .inl (cI, 352, .inl f_h_ring_numbers))]) dX4_allUnknownCells_22 pkX3_lives gX4_allUnknownCells_X3_lives (kkX3_lives l D cI cR h_ring h_ring_numbers f_h_ring_numbers s1.2 v18 h19) ⟨rfl, rfl⟩ ⟨Nat.le_of_ble_eq_true rfl, Nat.le_of_ble_eq_true rfl⟩ rfl rfl (Nat.le_of_ble_eq_true rfl) 0 rfl rfl [1, 2] [0] rfl rfl ⟨rfl, rfl, by decide⟩ ⟨Nat.zero_le _, Nat.zero_le _⟩ [0, 1, 2] rfl rfl ?_
    refine G_if_eq X (tgt := 36) dX4_allUnknownCells_25 (by decide) (fun h21 => ?_) (fun h21 => ?_)
    · have h22 := ifp h21 h20
      refine G_iconst X (v := 0) dX4_allUnknownCells_36 (by decide) ?_
      refine G_iadd X dX4_allUnknownCells_37 ?_
      refine G_istore_n X (lv' := [(1, .int (s1.1 + 0)), (0, .ref h), (2, .int s1.2)]) dX4_allUnknownCells_38 (by decide) rfl ?_
      refine G_iinc X (v := (s1.2 + 1)) (lv' := [(2, .int (s1.2 + 1)), (1, .int (s1.1 + 0)), (0, .ref h)]) dX4_allUnknownCells_39 2 rfl rfl (by decide) rfl ?_
      refine G_goto X (tgt := 4) dX4_allUnknownCells_42 (by decide) ?_
      cases h22
      exact G_lv [2, 1, 0] rfl (h6 _ rfl)
    · have h23 := ifn h21 h20
      refine G_aload_n X dX4_allUnknownCells_28 0 rfl ?_
      refine G_iload_n X dX4_allUnknownCells_29 2 rfl ?_
      obtain ⟨v24, h25, h26⟩ := bnd h23
      refine G1_calli X (As := [.int s1.2]) (rest := [.int s1.1]) (wr := []) (ws' := [(h, .inr (4, [.ref h_ring])), (h_ring, .inr (3, [.ref h_ring_numbers])), (h_ring_numbers, .inl (cI, 352, .inl f_h_ring_numbers))]) dX4_allUnknownCells_30 pkX4_unknownCells gX4_allUnknownCells_X4_unknownCells (kkX4_unknownCells l D cI cR h h_ring h_ring_numbers f_h_ring_numbers s1.2 v24 h25) ⟨rfl, rfl⟩ ⟨Nat.le_of_ble_eq_true rfl, Nat.le_of_ble_eq_true rfl⟩ rfl rfl (Nat.le_of_ble_eq_true rfl) 0 rfl rfl [0, 1, 2] [] rfl rfl ⟨rfl, rfl, by decide⟩ ⟨Nat.zero_le _, Nat.zero_le _⟩ [0, 1, 2] rfl rfl ?_
      refine G_goto X (tgt := 37) dX4_allUnknownCells_33 (by decide) ?_
      refine G_iadd X dX4_allUnknownCells_37 ?_
      refine G_istore_n X (lv' := [(1, .int (s1.1 + v24)), (0, .ref h), (2, .int s1.2)]) dX4_allUnknownCells_38 (by decide) rfl ?_
      refine G_iinc X (v := (s1.2 + 1)) (lv' := [(2, .int (s1.2 + 1)), (1, .int (s1.1 + v24)), (0, .ref h)]) dX4_allUnknownCells_39 2 rfl rfl (by decide) rfl ?_
      refine G_goto X (tgt := 4) dX4_allUnknownCells_42 (by decide) ?_
      cases h26
      exact G_lv [2, 1, 0] rfl (h6 _ rfl)
def rmX4_allWrongCells : Room := { frames := 2, cells := 0, slots := 0, locals := 44 }
theorem pkX4_allWrongCells : cK yX4_allWrongCells wsX4_allWrongCells cX4_allWrongCells 3 (some .int) 0 RX4 := ⟨⟨_, rfl⟩, by decide +kernel⟩
theorem hiX4_allWrongCells_X4 : ∀ w ∈ wsX40, w ∈ wsX4_allWrongCells := by decide +kernel
theorem flX4_allWrongCells_9 : Cond.fieldLink RX4 9 "EchoMargins$Survey" "ring" "LEchoMargins$Ring;" ∈ wsX4_allWrongCells := by decide +kernel
set_option maxHeartbeats 4000000 in
set_option maxRecDepth 100000 in
theorem kkX4_allWrongCells (l : Launch) (D : va_G) (cI cR : ClassId) (h h_ring h_ring_numbers : Nat) (f_h_ring_numbers : Nat → Int32) (z : Int32) (hz : MX4_allWrongCells f_h_ring_numbers = some z) : cI1 l yX4_allWrongCells wsX4_allWrongCells rmX4_allWrongCells D cI cR [.ref h] [(h, .inr (4, [.ref h_ring])), (h_ring, .inr (3, [.ref h_ring_numbers])), (h_ring_numbers, .inl (cI, 352, .inl f_h_ring_numbers))] z [(h, .inr (4, [.ref h_ring])), (h_ring, .inr (3, [.ref h_ring_numbers])), (h_ring_numbers, .inl (cI, 352, .inl f_h_ring_numbers))] := by
  unfold MX4_allWrongCells at hz
  refine kI_of (cc := cX4_allWrongCells) (maxL := 3) (own := RX4) (by decide +kernel) rfl rfl (Nat.le_of_ble_eq_true rfl) (lv0 := [(0, .ref h)]) rfl (fun p e s m args below meth c A Q X rt => ?_)
  refine G_iconst X (v := 0) dX4_allWrongCells_0 (by decide) ?_
  refine G_istore_n X (lv' := [(1, .int 0), (0, .ref h)]) dX4_allWrongCells_1 (by decide) rfl ?_
  refine G_iconst X (v := 0) dX4_allWrongCells_2 (by decide) ?_
  refine G_istore_n X (lv' := [(2, .int 0), (1, .int 0), (0, .ref h)]) dX4_allWrongCells_3 (by decide) rfl ?_
  obtain ⟨j2, h3, h4⟩ := bnd hz
  have J9 : G p l e rmX4_allWrongCells s m args below meth c D A 3 Q 0 0 30 [(1, .int j2)] [] [(h, .inr (4, [.ref h_ring])), (h_ring, .inr (3, [.ref h_ring_numbers])), (h_ring_numbers, .inl (cI, 352, .inl f_h_ring_numbers))] := by
    refine G_iload_n X dX4_allWrongCells_30 0 rfl ?_
    cases h4
    exact rt _ _ _ _ dX4_allWrongCells_31 ⟨rfl, rfl⟩
  refine G_lv [2, 1, 0] rfl ?_
  refine itr_ind (P := fun s1 : (Int32 × Int32) => G p l e rmX4_allWrongCells s m args below meth c D A 3 Q 0 0 4 [(0, .ref h), (1, .int s1.1), (2, .int s1.2)] [] [(h, .inr (4, [.ref h_ring])), (h_ring, .inr (3, [.ref h_ring_numbers])), (h_ring_numbers, .inl (cI, 352, .inl f_h_ring_numbers))]) (fun s1 o8 h5 h6 h7 => ?_) FU _ h3
  unfold SX4_allWrongCells_4 at h5
  refine G_iload_n X dX4_allWrongCells_4 2 rfl ?_
  refine G_aload_n X dX4_allWrongCells_5 0 rfl ?_
  refine G_get X (i0 := 0) (ci := 4) (j := 0) (C := RX4) (ref := RX4) (T := TX4) (N := 1) dX4_allWrongCells_6 rfl rfl hiX4_allWrongCells_X4 (by decide) flX4_allWrongCells_9 rfl rfl ?_
  refine G_iconst X (v := 1) dX4_allWrongCells_9 (by decide) ?_
  obtain ⟨v11, h12, h13⟩ := bnd h5
  refine G1_calli X (As := [.int 1]) (rest := [.int s1.2]) (wr := [(h, .inr (4, [.ref h_ring]))]) (ws' := [(h, .inr (4, [.ref h_ring])), (h_ring, .inr (3, [.ref h_ring_numbers])), (h_ring_numbers, .inl (cI, 352, .inl f_h_ring_numbers))]) dX4_allWrongCells_10 pkX3_get gX4_allWrongCells_X3_get (kkX3_get l D cI cR h_ring h_ring_numbers f_h_ring_numbers 1 v11 h12) ⟨rfl, rfl⟩ ⟨Nat.le_of_ble_eq_true rfl, Nat.le_of_ble_eq_true rfl⟩ rfl rfl (Nat.le_of_ble_eq_true rfl) 0 rfl rfl [1, 2] [0] rfl rfl ⟨rfl, rfl, by decide⟩ ⟨Nat.zero_le _, Nat.zero_le _⟩ [0, 1, 2] rfl rfl ?_
  refine G_icmp_ge X (tgt := 30) dX4_allWrongCells_13 (by decide) (fun h14 => ?_) (fun h14 => ?_)
  · have h15 := ifp h14 h13
    cases h15
    have h16 := h7 _ rfl
    subst h16
    exact G_lv [1] rfl (J9)
  · have h17 := ifn h14 h13
    refine G_iload_n X dX4_allWrongCells_16 1 rfl ?_
    refine G_aload_n X dX4_allWrongCells_17 0 rfl ?_
    refine G_iload_n X dX4_allWrongCells_18 2 rfl ?_
    obtain ⟨v18, h19, h20⟩ := bnd h17
    refine G1_calli X (As := [.int s1.2]) (rest := [.int s1.1]) (wr := []) (ws' := [(h, .inr (4, [.ref h_ring])), (h_ring, .inr (3, [.ref h_ring_numbers])), (h_ring_numbers, .inl (cI, 352, .inl f_h_ring_numbers))]) dX4_allWrongCells_19 pkX4_wrongCells gX4_allWrongCells_X4_wrongCells (kkX4_wrongCells l D cI cR h h_ring h_ring_numbers f_h_ring_numbers s1.2 v18 h19) ⟨rfl, rfl⟩ ⟨Nat.le_of_ble_eq_true rfl, Nat.le_of_ble_eq_true rfl⟩ rfl rfl (Nat.le_of_ble_eq_true rfl) 0 rfl rfl [0, 1, 2] [] rfl rfl ⟨rfl, rfl, by decide⟩ ⟨Nat.zero_le _, Nat.zero_le _⟩ [0, 1, 2] rfl rfl ?_
    refine G_iadd X dX4_allWrongCells_22 ?_
    refine G_istore_n X (lv' := [(1, .int (s1.1 + v18)), (0, .ref h), (2, .int s1.2)]) dX4_allWrongCells_23 (by decide) rfl ?_
    refine G_iinc X (v := (s1.2 + 1)) (lv' := [(2, .int (s1.2 + 1)), (1, .int (s1.1 + v18)), (0, .ref h)]) dX4_allWrongCells_24 2 rfl rfl (by decide) rfl ?_
    refine G_goto X (tgt := 4) dX4_allWrongCells_27 (by decide) ?_
    cases h20
    exact G_lv [2, 1, 0] rfl (h6 _ rfl)
def rmX4_ofAll : Room := { frames := 5, cells := 0, slots := 0, locals := 118 }
theorem pkX4_ofAll : cK yX4_ofAll wsX4_ofAll cX4_ofAll 2 (some .int) 1 RX4 := ⟨⟨_, rfl⟩, by decide +kernel⟩
theorem hiX4_ofAll_X4 : ∀ w ∈ wsX40, w ∈ wsX4_ofAll := by decide +kernel
theorem flX4_ofAll_9 : Cond.fieldLink RX4 9 "EchoMargins$Survey" "ring" "LEchoMargins$Ring;" ∈ wsX4_ofAll := by decide +kernel
theorem flX4_ofAll_24 : Cond.constant RX4 24 (-1000001) ∈ wsX4_ofAll := by decide +kernel
set_option maxHeartbeats 4000000 in
set_option maxRecDepth 100000 in
theorem kkX4_ofAll (l : Launch) (D : va_G) (cI cR : ClassId) (h h_ring h_ring_numbers : Nat) (f_h_ring_numbers : Nat → Int32) (x0 : Int32) (z : Int32) (hz : MX4_ofAll f_h_ring_numbers x0 = some z) : cI1 l yX4_ofAll wsX4_ofAll rmX4_ofAll D cI cR [.ref h, .int x0] [(h, .inr (4, [.ref h_ring])), (h_ring, .inr (3, [.ref h_ring_numbers])), (h_ring_numbers, .inl (cI, 352, .inl f_h_ring_numbers))] z [(h, .inr (4, [.ref h_ring])), (h_ring, .inr (3, [.ref h_ring_numbers])), (h_ring_numbers, .inl (cI, 352, .inl f_h_ring_numbers))] := by
  unfold MX4_ofAll at hz
  refine kI_of (cc := cX4_ofAll) (maxL := 2) (own := RX4) (by decide +kernel) rfl rfl (Nat.le_of_ble_eq_true rfl) (lv0 := [(0, .ref h), (1, .int x0)]) rfl (fun p e s m args below meth c A Q X rt => ?_)
  refine G_iload_n X dX4_ofAll_0 1 rfl ?_
  by_cases h1 : x0 = 0
  · have h2 := ifp h1 hz
    refine G_tableIn X (off := 103) (tgt := 104) dX4_ofAll_1 (by rw [h1]; decide) (by rw [h1]; decide) (by rw [h1]; rfl) (by decide) ?_
    refine G_aload_n X dX4_ofAll_104 0 rfl ?_
    refine G_get X (i0 := 0) (ci := 4) (j := 0) (C := RX4) (ref := RX4) (T := TX4) (N := 1) dX4_ofAll_105 rfl rfl hiX4_ofAll_X4 (by decide) flX4_ofAll_9 rfl rfl ?_
    refine G_iconst X (v := 1) dX4_ofAll_108 (by decide) ?_
    obtain ⟨v4, h5, h6⟩ := bnd h2
    refine G1_calli X (As := [.int 1]) (rest := []) (wr := [(h, .inr (4, [.ref h_ring]))]) (ws' := [(h, .inr (4, [.ref h_ring])), (h_ring, .inr (3, [.ref h_ring_numbers])), (h_ring_numbers, .inl (cI, 352, .inl f_h_ring_numbers))]) dX4_ofAll_109 pkX3_get gX4_ofAll_X3_get (kkX3_get l D cI cR h_ring h_ring_numbers f_h_ring_numbers 1 v4 h5) ⟨rfl, rfl⟩ ⟨Nat.le_of_ble_eq_true rfl, Nat.le_of_ble_eq_true rfl⟩ rfl rfl (Nat.le_of_ble_eq_true rfl) 0 rfl rfl [1, 2] [0] rfl rfl ⟨rfl, rfl, by decide⟩ ⟨Nat.zero_le _, Nat.zero_le _⟩ [0, 1, 2] rfl rfl ?_
    cases h6
    exact rt _ _ _ _ dX4_ofAll_112 ⟨rfl, rfl⟩
  · have h3 := ifn h1 hz
    by_cases h7 : x0 = 1
    · have h8 := ifp h7 h3
      refine G_tableIn X (off := 112) (tgt := 113) dX4_ofAll_1 (by rw [h7]; decide) (by rw [h7]; decide) (by rw [h7]; rfl) (by decide) ?_
      refine G_aload_n X dX4_ofAll_113 0 rfl ?_
      refine G_get X (i0 := 0) (ci := 4) (j := 0) (C := RX4) (ref := RX4) (T := TX4) (N := 1) dX4_ofAll_114 rfl rfl hiX4_ofAll_X4 (by decide) flX4_ofAll_9 rfl rfl ?_
      refine G_iconst X (v := 0) dX4_ofAll_117 (by decide) ?_
      obtain ⟨v10, h11, h12⟩ := bnd h8
      refine G1_calli X (As := [.int 0]) (rest := []) (wr := [(h, .inr (4, [.ref h_ring]))]) (ws' := [(h, .inr (4, [.ref h_ring])), (h_ring, .inr (3, [.ref h_ring_numbers])), (h_ring_numbers, .inl (cI, 352, .inl f_h_ring_numbers))]) dX4_ofAll_118 pkX3_get gX4_ofAll_X3_get (kkX3_get l D cI cR h_ring h_ring_numbers f_h_ring_numbers 0 v10 h11) ⟨rfl, rfl⟩ ⟨Nat.le_of_ble_eq_true rfl, Nat.le_of_ble_eq_true rfl⟩ rfl rfl (Nat.le_of_ble_eq_true rfl) 0 rfl rfl [1, 2] [0] rfl rfl ⟨rfl, rfl, by decide⟩ ⟨Nat.zero_le _, Nat.zero_le _⟩ [0, 1, 2] rfl rfl ?_
      cases h12
      exact rt _ _ _ _ dX4_ofAll_121 ⟨rfl, rfl⟩
    · have h9 := ifn h7 h3
      by_cases h13 : x0 = 2
      · have h14 := ifp h13 h9
        refine G_tableIn X (off := 121) (tgt := 122) dX4_ofAll_1 (by rw [h13]; decide) (by rw [h13]; decide) (by rw [h13]; rfl) (by decide) ?_
        refine G_aload_n X dX4_ofAll_122 0 rfl ?_
        obtain ⟨v16, h17, h18⟩ := bnd h14
        refine G1_calli X (As := []) (rest := []) (wr := []) (ws' := [(h, .inr (4, [.ref h_ring])), (h_ring, .inr (3, [.ref h_ring_numbers])), (h_ring_numbers, .inl (cI, 352, .inl f_h_ring_numbers))]) dX4_ofAll_123 pkX4_livingRows gX4_ofAll_X4_livingRows (kkX4_livingRows l D cI cR h h_ring h_ring_numbers f_h_ring_numbers v16 h17) ⟨rfl, rfl⟩ ⟨Nat.le_of_ble_eq_true rfl, Nat.le_of_ble_eq_true rfl⟩ rfl rfl (Nat.le_of_ble_eq_true rfl) 0 rfl rfl [0, 1, 2] [] rfl rfl ⟨rfl, rfl, by decide⟩ ⟨Nat.zero_le _, Nat.zero_le _⟩ [0, 1, 2] rfl rfl ?_
        cases h18
        exact rt _ _ _ _ dX4_ofAll_126 ⟨rfl, rfl⟩
      · have h15 := ifn h13 h9
        by_cases h19 : x0 = 3
        · have h20 := ifp h19 h15
          refine G_tableIn X (off := 126) (tgt := 127) dX4_ofAll_1 (by rw [h19]; decide) (by rw [h19]; decide) (by rw [h19]; rfl) (by decide) ?_
          refine G_aload_n X dX4_ofAll_127 0 rfl ?_
          obtain ⟨v22, h23, h24⟩ := bnd h20
          refine G1_calli X (As := []) (rest := []) (wr := []) (ws' := [(h, .inr (4, [.ref h_ring])), (h_ring, .inr (3, [.ref h_ring_numbers])), (h_ring_numbers, .inl (cI, 352, .inl f_h_ring_numbers))]) dX4_ofAll_128 pkX4_safeRows gX4_ofAll_X4_safeRows (kkX4_safeRows l D cI cR h h_ring h_ring_numbers f_h_ring_numbers v22 h23) ⟨rfl, rfl⟩ ⟨Nat.le_of_ble_eq_true rfl, Nat.le_of_ble_eq_true rfl⟩ rfl rfl (Nat.le_of_ble_eq_true rfl) 0 rfl rfl [0, 1, 2] [] rfl rfl ⟨rfl, rfl, by decide⟩ ⟨Nat.zero_le _, Nat.zero_le _⟩ [0, 1, 2] rfl rfl ?_
          cases h24
          exact rt _ _ _ _ dX4_ofAll_131 ⟨rfl, rfl⟩
        · have h21 := ifn h19 h15
          by_cases h25 : x0 = 4
          · have h26 := ifp h25 h21
            refine G_tableIn X (off := 131) (tgt := 132) dX4_ofAll_1 (by rw [h25]; decide) (by rw [h25]; decide) (by rw [h25]; rfl) (by decide) ?_
            refine G_aload_n X dX4_ofAll_132 0 rfl ?_
            obtain ⟨v28, h29, h30⟩ := bnd h26
            refine G1_calli X (As := []) (rest := []) (wr := []) (ws' := [(h, .inr (4, [.ref h_ring])), (h_ring, .inr (3, [.ref h_ring_numbers])), (h_ring_numbers, .inl (cI, 352, .inl f_h_ring_numbers))]) dX4_ofAll_133 pkX4_allEchoes gX4_ofAll_X4_allEchoes (kkX4_allEchoes l D cI cR h h_ring h_ring_numbers f_h_ring_numbers v28 h29) ⟨rfl, rfl⟩ ⟨Nat.le_of_ble_eq_true rfl, Nat.le_of_ble_eq_true rfl⟩ rfl rfl (Nat.le_of_ble_eq_true rfl) 0 rfl rfl [0, 1, 2] [] rfl rfl ⟨rfl, rfl, by decide⟩ ⟨Nat.zero_le _, Nat.zero_le _⟩ [0, 1, 2] rfl rfl ?_
            cases h30
            exact rt _ _ _ _ dX4_ofAll_136 ⟨rfl, rfl⟩
          · have h27 := ifn h25 h21
            by_cases h31 : x0 = 5
            · have h32 := ifp h31 h27
              refine G_tableIn X (off := 136) (tgt := 137) dX4_ofAll_1 (by rw [h31]; decide) (by rw [h31]; decide) (by rw [h31]; rfl) (by decide) ?_
              refine G_aload_n X dX4_ofAll_137 0 rfl ?_
              obtain ⟨v34, h35, h36⟩ := bnd h32
              refine G1_calli X (As := []) (rest := []) (wr := []) (ws' := [(h, .inr (4, [.ref h_ring])), (h_ring, .inr (3, [.ref h_ring_numbers])), (h_ring_numbers, .inl (cI, 352, .inl f_h_ring_numbers))]) dX4_ofAll_138 pkX4_allEchoes gX4_ofAll_X4_allEchoes (kkX4_allEchoes l D cI cR h h_ring h_ring_numbers f_h_ring_numbers v34 h35) ⟨rfl, rfl⟩ ⟨Nat.le_of_ble_eq_true rfl, Nat.le_of_ble_eq_true rfl⟩ rfl rfl (Nat.le_of_ble_eq_true rfl) 0 rfl rfl [0, 1, 2] [] rfl rfl ⟨rfl, rfl, by decide⟩ ⟨Nat.zero_le _, Nat.zero_le _⟩ [0, 1, 2] rfl rfl ?_
              refine G_aload_n X dX4_ofAll_141 0 rfl ?_
              obtain ⟨v37, h38, h39⟩ := bnd h36
              refine G1_calli X (As := []) (rest := [.int v34]) (wr := []) (ws' := [(h, .inr (4, [.ref h_ring])), (h_ring, .inr (3, [.ref h_ring_numbers])), (h_ring_numbers, .inl (cI, 352, .inl f_h_ring_numbers))]) dX4_ofAll_142 pkX4_freshEchoes gX4_ofAll_X4_freshEchoes (kkX4_freshEchoes l D cI cR h h_ring h_ring_numbers f_h_ring_numbers v37 h38) ⟨rfl, rfl⟩ ⟨Nat.le_of_ble_eq_true rfl, Nat.le_of_ble_eq_true rfl⟩ rfl rfl (Nat.le_of_ble_eq_true rfl) 0 rfl rfl [0, 1, 2] [] rfl rfl ⟨rfl, rfl, by decide⟩ ⟨Nat.zero_le _, Nat.zero_le _⟩ [0, 1, 2] rfl rfl ?_
              refine G_isub X dX4_ofAll_145 ?_
              cases h39
              exact rt _ _ _ _ dX4_ofAll_146 ⟨rfl, rfl⟩
            · have h33 := ifn h31 h27
              by_cases h40 : x0 = 6
              · have h41 := ifp h40 h33
                refine G_tableIn X (off := 146) (tgt := 147) dX4_ofAll_1 (by rw [h40]; decide) (by rw [h40]; decide) (by rw [h40]; rfl) (by decide) ?_
                refine G_aload_n X dX4_ofAll_147 0 rfl ?_
                obtain ⟨v43, h44, h45⟩ := bnd h41
                refine G1_calli X (As := []) (rest := []) (wr := []) (ws' := [(h, .inr (4, [.ref h_ring])), (h_ring, .inr (3, [.ref h_ring_numbers])), (h_ring_numbers, .inl (cI, 352, .inl f_h_ring_numbers))]) dX4_ofAll_148 pkX4_allUnknownCells gX4_ofAll_X4_allUnknownCells (kkX4_allUnknownCells l D cI cR h h_ring h_ring_numbers f_h_ring_numbers v43 h44) ⟨rfl, rfl⟩ ⟨Nat.le_of_ble_eq_true rfl, Nat.le_of_ble_eq_true rfl⟩ rfl rfl (Nat.le_of_ble_eq_true rfl) 0 rfl rfl [0, 1, 2] [] rfl rfl ⟨rfl, rfl, by decide⟩ ⟨Nat.zero_le _, Nat.zero_le _⟩ [0, 1, 2] rfl rfl ?_
                cases h45
                exact rt _ _ _ _ dX4_ofAll_151 ⟨rfl, rfl⟩
              · have h42 := ifn h40 h33
                by_cases h46 : x0 = 7
                · have h47 := ifp h46 h42
                  refine G_tableIn X (off := 151) (tgt := 152) dX4_ofAll_1 (by rw [h46]; decide) (by rw [h46]; decide) (by rw [h46]; rfl) (by decide) ?_
                  refine G_aload_n X dX4_ofAll_152 0 rfl ?_
                  obtain ⟨v49, h50, h51⟩ := bnd h47
                  refine G1_calli X (As := []) (rest := []) (wr := []) (ws' := [(h, .inr (4, [.ref h_ring])), (h_ring, .inr (3, [.ref h_ring_numbers])), (h_ring_numbers, .inl (cI, 352, .inl f_h_ring_numbers))]) dX4_ofAll_153 pkX4_allWrongCells gX4_ofAll_X4_allWrongCells (kkX4_allWrongCells l D cI cR h h_ring h_ring_numbers f_h_ring_numbers v49 h50) ⟨rfl, rfl⟩ ⟨Nat.le_of_ble_eq_true rfl, Nat.le_of_ble_eq_true rfl⟩ rfl rfl (Nat.le_of_ble_eq_true rfl) 0 rfl rfl [0, 1, 2] [] rfl rfl ⟨rfl, rfl, by decide⟩ ⟨Nat.zero_le _, Nat.zero_le _⟩ [0, 1, 2] rfl rfl ?_
                  cases h51
                  exact rt _ _ _ _ dX4_ofAll_156 ⟨rfl, rfl⟩
                · have h48 := ifn h46 h42
                  by_cases h52 : x0 = 8
                  · have h53 := ifp h52 h48
                    refine G_tableIn X (off := 156) (tgt := 157) dX4_ofAll_1 (by rw [h52]; decide) (by rw [h52]; decide) (by rw [h52]; rfl) (by decide) ?_
                    refine G_aload_n X dX4_ofAll_157 0 rfl ?_
                    refine G_get X (i0 := 0) (ci := 4) (j := 0) (C := RX4) (ref := RX4) (T := TX4) (N := 1) dX4_ofAll_158 rfl rfl hiX4_ofAll_X4 (by decide) flX4_ofAll_9 rfl rfl ?_
                    refine G_iconst X (v := 4) dX4_ofAll_161 (by decide) ?_
                    obtain ⟨v55, h56, h57⟩ := bnd h53
                    refine G1_calli X (As := [.int 4]) (rest := []) (wr := [(h, .inr (4, [.ref h_ring]))]) (ws' := [(h, .inr (4, [.ref h_ring])), (h_ring, .inr (3, [.ref h_ring_numbers])), (h_ring_numbers, .inl (cI, 352, .inl f_h_ring_numbers))]) dX4_ofAll_162 pkX3_get gX4_ofAll_X3_get (kkX3_get l D cI cR h_ring h_ring_numbers f_h_ring_numbers 4 v55 h56) ⟨rfl, rfl⟩ ⟨Nat.le_of_ble_eq_true rfl, Nat.le_of_ble_eq_true rfl⟩ rfl rfl (Nat.le_of_ble_eq_true rfl) 0 rfl rfl [1, 2] [0] rfl rfl ⟨rfl, rfl, by decide⟩ ⟨Nat.zero_le _, Nat.zero_le _⟩ [0, 1, 2] rfl rfl ?_
                    cases h57
                    exact rt _ _ _ _ dX4_ofAll_165 ⟨rfl, rfl⟩
                  · have h54 := ifn h52 h48
                    by_cases h58 : x0 = 9
                    · have h59 := ifp h58 h54
                      refine G_tableIn X (off := 165) (tgt := 166) dX4_ofAll_1 (by rw [h58]; decide) (by rw [h58]; decide) (by rw [h58]; rfl) (by decide) ?_
                      refine G_aload_n X dX4_ofAll_166 0 rfl ?_
                      refine G_get X (i0 := 0) (ci := 4) (j := 0) (C := RX4) (ref := RX4) (T := TX4) (N := 1) dX4_ofAll_167 rfl rfl hiX4_ofAll_X4 (by decide) flX4_ofAll_9 rfl rfl ?_
                      refine G_iconst X (v := 5) dX4_ofAll_170 (by decide) ?_
                      obtain ⟨v61, h62, h63⟩ := bnd h59
                      refine G1_calli X (As := [.int 5]) (rest := []) (wr := [(h, .inr (4, [.ref h_ring]))]) (ws' := [(h, .inr (4, [.ref h_ring])), (h_ring, .inr (3, [.ref h_ring_numbers])), (h_ring_numbers, .inl (cI, 352, .inl f_h_ring_numbers))]) dX4_ofAll_171 pkX3_get gX4_ofAll_X3_get (kkX3_get l D cI cR h_ring h_ring_numbers f_h_ring_numbers 5 v61 h62) ⟨rfl, rfl⟩ ⟨Nat.le_of_ble_eq_true rfl, Nat.le_of_ble_eq_true rfl⟩ rfl rfl (Nat.le_of_ble_eq_true rfl) 0 rfl rfl [1, 2] [0] rfl rfl ⟨rfl, rfl, by decide⟩ ⟨Nat.zero_le _, Nat.zero_le _⟩ [0, 1, 2] rfl rfl ?_
                      cases h63
                      exact rt _ _ _ _ dX4_ofAll_174 ⟨rfl, rfl⟩
                    · have h60 := ifn h58 h54
                      by_cases h64 : x0 = 10
                      · have h65 := ifp h64 h60
                        refine G_tableIn X (off := 174) (tgt := 175) dX4_ofAll_1 (by rw [h64]; decide) (by rw [h64]; decide) (by rw [h64]; rfl) (by decide) ?_
                        refine G_aload_n X dX4_ofAll_175 0 rfl ?_
                        refine G_get X (i0 := 0) (ci := 4) (j := 0) (C := RX4) (ref := RX4) (T := TX4) (N := 1) dX4_ofAll_176 rfl rfl hiX4_ofAll_X4 (by decide) flX4_ofAll_9 rfl rfl ?_
                        refine G_bipush X (v := 6) dX4_ofAll_179 (by decide) ?_
                        obtain ⟨v67, h68, h69⟩ := bnd h65
                        refine G1_calli X (As := [.int 6]) (rest := []) (wr := [(h, .inr (4, [.ref h_ring]))]) (ws' := [(h, .inr (4, [.ref h_ring])), (h_ring, .inr (3, [.ref h_ring_numbers])), (h_ring_numbers, .inl (cI, 352, .inl f_h_ring_numbers))]) dX4_ofAll_181 pkX3_get gX4_ofAll_X3_get (kkX3_get l D cI cR h_ring h_ring_numbers f_h_ring_numbers 6 v67 h68) ⟨rfl, rfl⟩ ⟨Nat.le_of_ble_eq_true rfl, Nat.le_of_ble_eq_true rfl⟩ rfl rfl (Nat.le_of_ble_eq_true rfl) 0 rfl rfl [1, 2] [0] rfl rfl ⟨rfl, rfl, by decide⟩ ⟨Nat.zero_le _, Nat.zero_le _⟩ [0, 1, 2] rfl rfl ?_
                        cases h69
                        exact rt _ _ _ _ dX4_ofAll_184 ⟨rfl, rfl⟩
                      · have h66 := ifn h64 h60
                        by_cases h70 : x0 = 11
                        · have h71 := ifp h70 h66
                          refine G_tableIn X (off := 184) (tgt := 185) dX4_ofAll_1 (by rw [h70]; decide) (by rw [h70]; decide) (by rw [h70]; rfl) (by decide) ?_
                          refine G_aload_n X dX4_ofAll_185 0 rfl ?_
                          refine G_get X (i0 := 0) (ci := 4) (j := 0) (C := RX4) (ref := RX4) (T := TX4) (N := 1) dX4_ofAll_186 rfl rfl hiX4_ofAll_X4 (by decide) flX4_ofAll_9 rfl rfl ?_
                          refine G_bipush X (v := 7) dX4_ofAll_189 (by decide) ?_
                          obtain ⟨v73, h74, h75⟩ := bnd h71
                          refine G1_calli X (As := [.int 7]) (rest := []) (wr := [(h, .inr (4, [.ref h_ring]))]) (ws' := [(h, .inr (4, [.ref h_ring])), (h_ring, .inr (3, [.ref h_ring_numbers])), (h_ring_numbers, .inl (cI, 352, .inl f_h_ring_numbers))]) dX4_ofAll_191 pkX3_get gX4_ofAll_X3_get (kkX3_get l D cI cR h_ring h_ring_numbers f_h_ring_numbers 7 v73 h74) ⟨rfl, rfl⟩ ⟨Nat.le_of_ble_eq_true rfl, Nat.le_of_ble_eq_true rfl⟩ rfl rfl (Nat.le_of_ble_eq_true rfl) 0 rfl rfl [1, 2] [0] rfl rfl ⟨rfl, rfl, by decide⟩ ⟨Nat.zero_le _, Nat.zero_le _⟩ [0, 1, 2] rfl rfl ?_
                          cases h75
                          exact rt _ _ _ _ dX4_ofAll_194 ⟨rfl, rfl⟩
                        · have h72 := ifn h70 h66
                          by_cases h76 : x0 = 12
                          · have h77 := ifp h76 h72
                            refine G_tableIn X (off := 194) (tgt := 195) dX4_ofAll_1 (by rw [h76]; decide) (by rw [h76]; decide) (by rw [h76]; rfl) (by decide) ?_
                            refine G_aload_n X dX4_ofAll_195 0 rfl ?_
                            refine G_get X (i0 := 0) (ci := 4) (j := 0) (C := RX4) (ref := RX4) (T := TX4) (N := 1) dX4_ofAll_196 rfl rfl hiX4_ofAll_X4 (by decide) flX4_ofAll_9 rfl rfl ?_
                            refine G_bipush X (v := 8) dX4_ofAll_199 (by decide) ?_
                            obtain ⟨v79, h80, h81⟩ := bnd h77
                            refine G1_calli X (As := [.int 8]) (rest := []) (wr := [(h, .inr (4, [.ref h_ring]))]) (ws' := [(h, .inr (4, [.ref h_ring])), (h_ring, .inr (3, [.ref h_ring_numbers])), (h_ring_numbers, .inl (cI, 352, .inl f_h_ring_numbers))]) dX4_ofAll_201 pkX3_get gX4_ofAll_X3_get (kkX3_get l D cI cR h_ring h_ring_numbers f_h_ring_numbers 8 v79 h80) ⟨rfl, rfl⟩ ⟨Nat.le_of_ble_eq_true rfl, Nat.le_of_ble_eq_true rfl⟩ rfl rfl (Nat.le_of_ble_eq_true rfl) 0 rfl rfl [1, 2] [0] rfl rfl ⟨rfl, rfl, by decide⟩ ⟨Nat.zero_le _, Nat.zero_le _⟩ [0, 1, 2] rfl rfl ?_
                            cases h81
                            exact rt _ _ _ _ dX4_ofAll_204 ⟨rfl, rfl⟩
                          · have h78 := ifn h76 h72
                            by_cases h82 : x0 = 13
                            · have h83 := ifp h82 h78
                              refine G_tableIn X (off := 204) (tgt := 205) dX4_ofAll_1 (by rw [h82]; decide) (by rw [h82]; decide) (by rw [h82]; rfl) (by decide) ?_
                              refine G_aload_n X dX4_ofAll_205 0 rfl ?_
                              refine G_get X (i0 := 0) (ci := 4) (j := 0) (C := RX4) (ref := RX4) (T := TX4) (N := 1) dX4_ofAll_206 rfl rfl hiX4_ofAll_X4 (by decide) flX4_ofAll_9 rfl rfl ?_
                              refine G_bipush X (v := 9) dX4_ofAll_209 (by decide) ?_
                              obtain ⟨v85, h86, h87⟩ := bnd h83
                              refine G1_calli X (As := [.int 9]) (rest := []) (wr := [(h, .inr (4, [.ref h_ring]))]) (ws' := [(h, .inr (4, [.ref h_ring])), (h_ring, .inr (3, [.ref h_ring_numbers])), (h_ring_numbers, .inl (cI, 352, .inl f_h_ring_numbers))]) dX4_ofAll_211 pkX3_get gX4_ofAll_X3_get (kkX3_get l D cI cR h_ring h_ring_numbers f_h_ring_numbers 9 v85 h86) ⟨rfl, rfl⟩ ⟨Nat.le_of_ble_eq_true rfl, Nat.le_of_ble_eq_true rfl⟩ rfl rfl (Nat.le_of_ble_eq_true rfl) 0 rfl rfl [1, 2] [0] rfl rfl ⟨rfl, rfl, by decide⟩ ⟨Nat.zero_le _, Nat.zero_le _⟩ [0, 1, 2] rfl rfl ?_
                              cases h87
                              exact rt _ _ _ _ dX4_ofAll_214 ⟨rfl, rfl⟩
                            · have h84 := ifn h82 h78
                              by_cases h88 : x0 = 14
                              · have h89 := ifp h88 h84
                                refine G_tableIn X (off := 232) (tgt := 233) dX4_ofAll_1 (by rw [h88]; decide) (by rw [h88]; decide) (by rw [h88]; rfl) (by decide) ?_
                                refine G_ldc X dX4_ofAll_233 flX4_ofAll_24 ?_
                                cases h89
                                exact rt _ _ _ _ dX4_ofAll_235 ⟨rfl, rfl⟩
                              · have h90 := ifn h88 h84
                                by_cases h91 : x0 = 15
                                · have h92 := ifp h91 h90
                                  refine G_tableIn X (off := 232) (tgt := 233) dX4_ofAll_1 (by rw [h91]; decide) (by rw [h91]; decide) (by rw [h91]; rfl) (by decide) ?_
                                  refine G_ldc X dX4_ofAll_233 flX4_ofAll_24 ?_
                                  cases h92
                                  exact rt _ _ _ _ dX4_ofAll_235 ⟨rfl, rfl⟩
                                · have h93 := ifn h91 h90
                                  by_cases h94 : x0 = 16
                                  · have h95 := ifp h94 h93
                                    refine G_tableIn X (off := 232) (tgt := 233) dX4_ofAll_1 (by rw [h94]; decide) (by rw [h94]; decide) (by rw [h94]; rfl) (by decide) ?_
                                    refine G_ldc X dX4_ofAll_233 flX4_ofAll_24 ?_
                                    cases h95
                                    exact rt _ _ _ _ dX4_ofAll_235 ⟨rfl, rfl⟩
                                  · have h96 := ifn h94 h93
                                    by_cases h97 : x0 = 17
                                    · have h98 := ifp h97 h96
                                      refine G_tableIn X (off := 232) (tgt := 233) dX4_ofAll_1 (by rw [h97]; decide) (by rw [h97]; decide) (by rw [h97]; rfl) (by decide) ?_
                                      refine G_ldc X dX4_ofAll_233 flX4_ofAll_24 ?_
                                      cases h98
                                      exact rt _ _ _ _ dX4_ofAll_235 ⟨rfl, rfl⟩
                                    · have h99 := ifn h97 h96
                                      by_cases h100 : x0 = 18
                                      · have h101 := ifp h100 h99
                                        refine G_tableIn X (off := 232) (tgt := 233) dX4_ofAll_1 (by rw [h100]; decide) (by rw [h100]; decide) (by rw [h100]; rfl) (by decide) ?_
                                        refine G_ldc X dX4_ofAll_233 flX4_ofAll_24 ?_
                                        cases h101
                                        exact rt _ _ _ _ dX4_ofAll_235 ⟨rfl, rfl⟩
                                      · have h102 := ifn h100 h99
                                        by_cases h103 : x0 = 19
                                        · have h104 := ifp h103 h102
                                          refine G_tableIn X (off := 232) (tgt := 233) dX4_ofAll_1 (by rw [h103]; decide) (by rw [h103]; decide) (by rw [h103]; rfl) (by decide) ?_
                                          refine G_ldc X dX4_ofAll_233 flX4_ofAll_24 ?_
                                          cases h104
                                          exact rt _ _ _ _ dX4_ofAll_235 ⟨rfl, rfl⟩
                                        · have h105 := ifn h103 h102
                                          by_cases h106 : x0 = 20
                                          · have h107 := ifp h106 h105
                                            refine G_tableIn X (off := 214) (tgt := 215) dX4_ofAll_1 (by rw [h106]; decide) (by rw [h106]; decide) (by rw [h106]; rfl) (by decide) ?_
                                            refine G_aload_n X dX4_ofAll_215 0 rfl ?_
                                            refine G_get X (i0 := 0) (ci := 4) (j := 0) (C := RX4) (ref := RX4) (T := TX4) (N := 1) dX4_ofAll_216 rfl rfl hiX4_ofAll_X4 (by decide) flX4_ofAll_9 rfl rfl ?_
                                            refine G_iconst X (v := 2) dX4_ofAll_219 (by decide) ?_
                                            obtain ⟨v109, h110, h111⟩ := bnd h107
                                            refine G1_calli X (As := [.int 2]) (rest := []) (wr := [(h, .inr (4, [.ref h_ring]))]) (ws' := [(h, .inr (4, [.ref h_ring])), (h_ring, .inr (3, [.ref h_ring_numbers])), (h_ring_numbers, .inl (cI, 352, .inl f_h_ring_numbers))]) dX4_ofAll_220 pkX3_get gX4_ofAll_X3_get (kkX3_get l D cI cR h_ring h_ring_numbers f_h_ring_numbers 2 v109 h110) ⟨rfl, rfl⟩ ⟨Nat.le_of_ble_eq_true rfl, Nat.le_of_ble_eq_true rfl⟩ rfl rfl (Nat.le_of_ble_eq_true rfl) 0 rfl rfl [1, 2] [0] rfl rfl ⟨rfl, rfl, by decide⟩ ⟨Nat.zero_le _, Nat.zero_le _⟩ [0, 1, 2] rfl rfl ?_
                                            cases h111
                                            exact rt _ _ _ _ dX4_ofAll_223 ⟨rfl, rfl⟩
                                          · have h108 := ifn h106 h105
                                            by_cases h112 : x0 = 21
                                            · have h113 := ifp h112 h108
                                              refine G_tableIn X (off := 223) (tgt := 224) dX4_ofAll_1 (by rw [h112]; decide) (by rw [h112]; decide) (by rw [h112]; rfl) (by decide) ?_
                                              refine G_aload_n X dX4_ofAll_224 0 rfl ?_
                                              refine G_get X (i0 := 0) (ci := 4) (j := 0) (C := RX4) (ref := RX4) (T := TX4) (N := 1) dX4_ofAll_225 rfl rfl hiX4_ofAll_X4 (by decide) flX4_ofAll_9 rfl rfl ?_
                                              refine G_iconst X (v := 3) dX4_ofAll_228 (by decide) ?_
                                              obtain ⟨v115, h116, h117⟩ := bnd h113
                                              refine G1_calli X (As := [.int 3]) (rest := []) (wr := [(h, .inr (4, [.ref h_ring]))]) (ws' := [(h, .inr (4, [.ref h_ring])), (h_ring, .inr (3, [.ref h_ring_numbers])), (h_ring_numbers, .inl (cI, 352, .inl f_h_ring_numbers))]) dX4_ofAll_229 pkX3_get gX4_ofAll_X3_get (kkX3_get l D cI cR h_ring h_ring_numbers f_h_ring_numbers 3 v115 h116) ⟨rfl, rfl⟩ ⟨Nat.le_of_ble_eq_true rfl, Nat.le_of_ble_eq_true rfl⟩ rfl rfl (Nat.le_of_ble_eq_true rfl) 0 rfl rfl [1, 2] [0] rfl rfl ⟨rfl, rfl, by decide⟩ ⟨Nat.zero_le _, Nat.zero_le _⟩ [0, 1, 2] rfl rfl ?_
                                              cases h117
                                              exact rt _ _ _ _ dX4_ofAll_232 ⟨rfl, rfl⟩
                                            · have h114 := ifn h112 h108
                                              have h1 : ¬ (x0).toInt = 0 := fun q => h1 (Int32.toInt_inj.mp (q.trans (by decide)))
                                              have h7 : ¬ (x0).toInt = 1 := fun q => h7 (Int32.toInt_inj.mp (q.trans (by decide)))
                                              have h13 : ¬ (x0).toInt = 2 := fun q => h13 (Int32.toInt_inj.mp (q.trans (by decide)))
                                              have h19 : ¬ (x0).toInt = 3 := fun q => h19 (Int32.toInt_inj.mp (q.trans (by decide)))
                                              have h25 : ¬ (x0).toInt = 4 := fun q => h25 (Int32.toInt_inj.mp (q.trans (by decide)))
                                              have h31 : ¬ (x0).toInt = 5 := fun q => h31 (Int32.toInt_inj.mp (q.trans (by decide)))
                                              have h40 : ¬ (x0).toInt = 6 := fun q => h40 (Int32.toInt_inj.mp (q.trans (by decide)))
                                              have h46 : ¬ (x0).toInt = 7 := fun q => h46 (Int32.toInt_inj.mp (q.trans (by decide)))
                                              have h52 : ¬ (x0).toInt = 8 := fun q => h52 (Int32.toInt_inj.mp (q.trans (by decide)))
                                              have h58 : ¬ (x0).toInt = 9 := fun q => h58 (Int32.toInt_inj.mp (q.trans (by decide)))
                                              have h64 : ¬ (x0).toInt = 10 := fun q => h64 (Int32.toInt_inj.mp (q.trans (by decide)))
                                              have h70 : ¬ (x0).toInt = 11 := fun q => h70 (Int32.toInt_inj.mp (q.trans (by decide)))
                                              have h76 : ¬ (x0).toInt = 12 := fun q => h76 (Int32.toInt_inj.mp (q.trans (by decide)))
                                              have h82 : ¬ (x0).toInt = 13 := fun q => h82 (Int32.toInt_inj.mp (q.trans (by decide)))
                                              have h88 : ¬ (x0).toInt = 14 := fun q => h88 (Int32.toInt_inj.mp (q.trans (by decide)))
                                              have h91 : ¬ (x0).toInt = 15 := fun q => h91 (Int32.toInt_inj.mp (q.trans (by decide)))
                                              have h94 : ¬ (x0).toInt = 16 := fun q => h94 (Int32.toInt_inj.mp (q.trans (by decide)))
                                              have h97 : ¬ (x0).toInt = 17 := fun q => h97 (Int32.toInt_inj.mp (q.trans (by decide)))
                                              have h100 : ¬ (x0).toInt = 18 := fun q => h100 (Int32.toInt_inj.mp (q.trans (by decide)))
                                              have h103 : ¬ (x0).toInt = 19 := fun q => h103 (Int32.toInt_inj.mp (q.trans (by decide)))
                                              have h106 : ¬ (x0).toInt = 20 := fun q => h106 (Int32.toInt_inj.mp (q.trans (by decide)))
                                              have h112 : ¬ (x0).toInt = 21 := fun q => h112 (Int32.toInt_inj.mp (q.trans (by decide)))
                                              refine G_tableOut X (tgt := 233) dX4_ofAll_1 (by omega) (by decide) ?_
                                              refine G_ldc X dX4_ofAll_233 flX4_ofAll_24 ?_
                                              cases h114
                                              exact rt _ _ _ _ dX4_ofAll_235 ⟨rfl, rfl⟩
def rmX4_daysUntilFaded : Room := { frames := 3, cells := 0, slots := 0, locals := 90 }
theorem pkX4_daysUntilFaded : cK yX4_daysUntilFaded wsX4_daysUntilFaded cX4_daysUntilFaded 5 (some .int) 1 RX4 := ⟨⟨_, rfl⟩, by decide +kernel⟩
theorem hiX4_daysUntilFaded_X4 : ∀ w ∈ wsX40, w ∈ wsX4_daysUntilFaded := by decide +kernel
theorem flX4_daysUntilFaded_36 : Cond.constant RX4 36 (-1000004) ∈ wsX4_daysUntilFaded := by decide +kernel
theorem flX4_daysUntilFaded_9 : Cond.fieldLink RX4 9 "EchoMargins$Survey" "ring" "LEchoMargins$Ring;" ∈ wsX4_daysUntilFaded := by decide +kernel
theorem flX4_daysUntilFaded_m_max : Cond.methodLink RX4 65 Lib.Math.max.name ∈ wsX4_daysUntilFaded := by decide +kernel
theorem flX4_daysUntilFaded_s_max : Cond.static Lib.Math.max.name ∈ wsX4_daysUntilFaded := by decide +kernel
theorem flX4_daysUntilFaded_im : Cond.initialized "java/lang/Math" ∈ wsX4_daysUntilFaded := by decide +kernel
theorem flX4_daysUntilFaded_c_max : Cond.code Lib.Math.max.name Lib.Math.max.code 2 (some .int) ∈ wsX4_daysUntilFaded := by decide +kernel
set_option maxHeartbeats 4000000 in
set_option maxRecDepth 100000 in
theorem kkX4_daysUntilFaded (l : Launch) (D : va_G) (cI cR : ClassId) (h h_ring h_ring_numbers : Nat) (f_h_ring_numbers : Nat → Int32) (x0 : Int32) (z : Int32) (hz : MX4_daysUntilFaded f_h_ring_numbers x0 = some z) : cI1 l yX4_daysUntilFaded wsX4_daysUntilFaded rmX4_daysUntilFaded D cI cR [.ref h, .int x0] [(h, .inr (4, [.ref h_ring])), (h_ring, .inr (3, [.ref h_ring_numbers])), (h_ring_numbers, .inl (cI, 352, .inl f_h_ring_numbers))] z [(h, .inr (4, [.ref h_ring])), (h_ring, .inr (3, [.ref h_ring_numbers])), (h_ring_numbers, .inl (cI, 352, .inl f_h_ring_numbers))] := by
  unfold MX4_daysUntilFaded at hz
  refine kI_of (cc := cX4_daysUntilFaded) (maxL := 5) (own := RX4) (by decide +kernel) rfl rfl (Nat.le_of_ble_eq_true rfl) (lv0 := [(0, .ref h), (1, .int x0)]) rfl (fun p e s m args below meth c A Q X rt => ?_)
  refine G_ldc X dX4_daysUntilFaded_0 flX4_daysUntilFaded_36 ?_
  refine G_istore_n X (lv' := [(2, .int (-1000004)), (0, .ref h), (1, .int x0)]) dX4_daysUntilFaded_2 (by decide) rfl ?_
  refine G_iconst X (v := 0) dX4_daysUntilFaded_3 (by decide) ?_
  refine G_istore_n X (lv' := [(3, .int 0), (2, .int (-1000004)), (0, .ref h), (1, .int x0)]) dX4_daysUntilFaded_4 (by decide) rfl ?_
  obtain ⟨j2, h3, h4⟩ := bnd hz
  have J9 : G p l e rmX4_daysUntilFaded s m args below meth c D A 5 Q 0 0 57 [(0, .ref h), (2, .int j2)] [] [(h, .inr (4, [.ref h_ring])), (h_ring, .inr (3, [.ref h_ring_numbers])), (h_ring_numbers, .inl (cI, 352, .inl f_h_ring_numbers))] := by
    refine G_iload_n X dX4_daysUntilFaded_57 1 rfl ?_
    refine G_ldc X dX4_daysUntilFaded_58 flX4_daysUntilFaded_36 ?_
    refine G_icmp_ne X (tgt := 68) dX4_daysUntilFaded_60 (by decide) (fun h11 => ?_) (fun h11 => ?_)
    · have h12 := ifp h11 h4
      refine G_ldc X dX4_daysUntilFaded_63 flX4_daysUntilFaded_36 ?_
      refine G_goto X (tgt := 80) dX4_daysUntilFaded_65 (by decide) ?_
      cases h12
      exact rt _ _ _ _ dX4_daysUntilFaded_80 ⟨rfl, rfl⟩
    · have h13 := ifn h11 h4
      refine G_aload_n X dX4_daysUntilFaded_68 0 rfl ?_
      refine G_get X (i0 := 0) (ci := 4) (j := 0) (C := RX4) (ref := RX4) (T := TX4) (N := 1) dX4_daysUntilFaded_69 rfl rfl hiX4_daysUntilFaded_X4 (by decide) flX4_daysUntilFaded_9 rfl rfl ?_
      refine G_iconst X (v := 3) dX4_daysUntilFaded_72 (by decide) ?_
      obtain ⟨v14, h15, h16⟩ := bnd h13
      refine G1_calli X (As := [.int 3]) (rest := []) (wr := [(h, .inr (4, [.ref h_ring]))]) (ws' := [(h, .inr (4, [.ref h_ring])), (h_ring, .inr (3, [.ref h_ring_numbers])), (h_ring_numbers, .inl (cI, 352, .inl f_h_ring_numbers))]) dX4_daysUntilFaded_73 pkX3_get gX4_daysUntilFaded_X3_get (kkX3_get l D cI cR h_ring h_ring_numbers f_h_ring_numbers 3 v14 h15) ⟨rfl, rfl⟩ ⟨Nat.le_of_ble_eq_true rfl, Nat.le_of_ble_eq_true rfl⟩ rfl rfl (Nat.le_of_ble_eq_true rfl) 0 rfl rfl [1, 2] [0] rfl rfl ⟨rfl, rfl, by decide⟩ ⟨Nat.zero_le _, Nat.zero_le _⟩ [0, 1, 2] rfl rfl ?_
      refine G_iload_n X dX4_daysUntilFaded_76 1 rfl ?_
      refine G_isub X dX4_daysUntilFaded_77 ?_
      refine G_iconst X (v := 1) dX4_daysUntilFaded_78 (by decide) ?_
      refine G_iadd X dX4_daysUntilFaded_79 ?_
      cases h16
      exact rt _ _ _ _ dX4_daysUntilFaded_80 ⟨rfl, rfl⟩
  refine G_lv [2, 3, 1, 0] rfl ?_
  refine itr_ind (P := fun s1 : (Int32 × Int32) => G p l e rmX4_daysUntilFaded s m args below meth c D A 5 Q 0 0 5 [(0, .ref h), (1, .int x0), (2, .int s1.1), (3, .int s1.2)] [] [(h, .inr (4, [.ref h_ring])), (h_ring, .inr (3, [.ref h_ring_numbers])), (h_ring_numbers, .inl (cI, 352, .inl f_h_ring_numbers))]) (fun s1 o8 h5 h6 h7 => ?_) FU _ h3
  unfold SX4_daysUntilFaded_5 at h5
  refine G_iload_n X dX4_daysUntilFaded_5 3 rfl ?_
  refine G_bipush X (v := 8) dX4_daysUntilFaded_6 (by decide) ?_
  refine G_icmp_ge X (tgt := 57) dX4_daysUntilFaded_8 (by decide) (fun h17 => ?_) (fun h17 => ?_)
  · have h18 := ifp h17 h5
    cases h18
    have h19 := h7 _ rfl
    subst h19
    exact G_lv [0, 2] rfl (J9)
  · have h20 := ifn h17 h5
    refine G_aload_n X dX4_daysUntilFaded_11 0 rfl ?_
    refine G_get X (i0 := 0) (ci := 4) (j := 0) (C := RX4) (ref := RX4) (T := TX4) (N := 1) dX4_daysUntilFaded_12 rfl rfl hiX4_daysUntilFaded_X4 (by decide) flX4_daysUntilFaded_9 rfl rfl ?_
    refine G_iload_n X dX4_daysUntilFaded_15 1 rfl ?_
    refine G_iload_n X dX4_daysUntilFaded_16 3 rfl ?_
    obtain ⟨v21, h22, h23⟩ := bnd h20
    refine G1_calli X (As := [.int x0, .int s1.2]) (rest := []) (wr := [(h, .inr (4, [.ref h_ring]))]) (ws' := [(h, .inr (4, [.ref h_ring])), (h_ring, .inr (3, [.ref h_ring_numbers])), (h_ring_numbers, .inl (cI, 352, .inl f_h_ring_numbers))]) dX4_daysUntilFaded_17 pkX3_freshEcho gX4_daysUntilFaded_X3_freshEcho (kkX3_freshEcho l D cI cR h_ring h_ring_numbers f_h_ring_numbers x0 s1.2 v21 h22) ⟨rfl, rfl⟩ ⟨Nat.le_of_ble_eq_true rfl, Nat.le_of_ble_eq_true rfl⟩ rfl rfl (Nat.le_of_ble_eq_true rfl) 0 rfl rfl [1, 2] [0] rfl rfl ⟨rfl, rfl, by decide⟩ ⟨Nat.zero_le _, Nat.zero_le _⟩ [0, 1, 2] rfl rfl ?_
    refine G_istore X (lv' := [(4, .int v21), (0, .ref h), (1, .int x0), (2, .int s1.1), (3, .int s1.2)]) dX4_daysUntilFaded_20 (by decide) rfl ?_
    refine G_aload_n X dX4_daysUntilFaded_22 1 rfl ?_
    refine G_iload_n X dX4_daysUntilFaded_23 2 rfl ?_
    refine G_iload_n X dX4_daysUntilFaded_24 4 rfl ?_
    obtain ⟨v24, h25, h26⟩ := bnd h23
    refine G1_calli X (As := [.int x0, .int s1.2]) (rest := []) (wr := []) (ws' := [(h, .inr (4, [.ref h_ring])), (h_ring, .inr (3, [.ref h_ring_numbers])), (h_ring_numbers, .inl (cI, 352, .inl f_h_ring_numbers))]) dX4_daysUntilFaded_25 pkX4_isKnown gX4_daysUntilFaded_X4_isKnown (kkX4_isKnown l D cI cR h h_ring h_ring_numbers f_h_ring_numbers x0 s1.2 v24 h25) ⟨rfl, rfl⟩ ⟨Nat.le_of_ble_eq_true rfl, Nat.le_of_ble_eq_true rfl⟩ rfl rfl (Nat.le_of_ble_eq_true rfl) 0 rfl rfl [0, 1, 2] [] rfl rfl ⟨rfl, rfl, by decide⟩ ⟨Nat.zero_le _, Nat.zero_le _⟩ [0, 1, 2] rfl rfl ?_
    refine G_if_eq X (tgt := 51) dX4_daysUntilFaded_28 (by decide) (fun h27 => ?_) (fun h27 => ?_)
    · have h28 := ifp h27 h26
      refine G_iinc X (v := (s1.2 + 1)) (lv' := [(3, .int (s1.2 + 1)), (4, .int v21), (0, .ref h), (1, .int x0), (2, .int s1.1)]) dX4_daysUntilFaded_51 4 rfl rfl (by decide) rfl ?_
      refine G_goto X (tgt := 5) dX4_daysUntilFaded_54 (by decide) ?_
      cases h28
      exact G_lv [2, 3, 4, 0] rfl (h6 _ rfl)
    · have h29 := ifn h27 h26
      refine G_iload X dX4_daysUntilFaded_31 0 rfl ?_
      refine G_iconst X (v := (-1)) dX4_daysUntilFaded_33 (by decide) ?_
      refine G_icmp_eq X (tgt := 51) dX4_daysUntilFaded_34 (by decide) (fun h30 => ?_) (fun h30 => ?_)
      · have h31 := ifp h30 h29
        refine G_iinc X (v := (s1.2 + 1)) (lv' := [(3, .int (s1.2 + 1)), (4, .int v21), (0, .ref h), (1, .int x0), (2, .int s1.1)]) dX4_daysUntilFaded_51 4 rfl rfl (by decide) rfl ?_
        refine G_goto X (tgt := 5) dX4_daysUntilFaded_54 (by decide) ?_
        cases h31
        exact G_lv [2, 3, 4, 0] rfl (h6 _ rfl)
      · have h32 := ifn h30 h29
        refine G_iload_n X dX4_daysUntilFaded_37 3 rfl ?_
        refine G_aload_n X dX4_daysUntilFaded_38 1 rfl ?_
        refine G_get X (i0 := 0) (ci := 4) (j := 0) (C := RX4) (ref := RX4) (T := TX4) (N := 1) dX4_daysUntilFaded_39 rfl rfl hiX4_daysUntilFaded_X4 (by decide) flX4_daysUntilFaded_9 rfl rfl ?_
        refine G_iload X dX4_daysUntilFaded_42 0 rfl ?_
        obtain ⟨v33, h34, h35⟩ := bnd h32
        refine G1_calli X (As := [.int v21]) (rest := [.int s1.1]) (wr := [(h, .inr (4, [.ref h_ring]))]) (ws' := [(h, .inr (4, [.ref h_ring])), (h_ring, .inr (3, [.ref h_ring_numbers])), (h_ring_numbers, .inl (cI, 352, .inl f_h_ring_numbers))]) dX4_daysUntilFaded_44 pkX3_ageOf gX4_daysUntilFaded_X3_ageOf (kkX3_ageOf l D cI cR h_ring h_ring_numbers f_h_ring_numbers v21 v33 h34) ⟨rfl, rfl⟩ ⟨Nat.le_of_ble_eq_true rfl, Nat.le_of_ble_eq_true rfl⟩ rfl rfl (Nat.le_of_ble_eq_true rfl) 0 rfl rfl [1, 2] [0] rfl rfl ⟨rfl, rfl, by decide⟩ ⟨Nat.zero_le _, Nat.zero_le _⟩ [0, 1, 2] rfl rfl ?_
        refine G_max X dX4_daysUntilFaded_47 flX4_daysUntilFaded_m_max flX4_daysUntilFaded_s_max flX4_daysUntilFaded_im flX4_daysUntilFaded_c_max (Nat.le_of_ble_eq_true rfl) (Nat.le_of_ble_eq_true rfl) (Nat.zero_le _) (Nat.zero_le _) ?_
        refine G_istore_n X (lv' := [(2, .int (if s1.1 < v33 then v33 else s1.1)), (4, .int v21), (0, .ref h), (1, .int x0), (3, .int s1.2)]) dX4_daysUntilFaded_50 (by decide) rfl ?_
        refine G_iinc X (v := (s1.2 + 1)) (lv' := [(3, .int (s1.2 + 1)), (2, .int (if s1.1 < v33 then v33 else s1.1)), (4, .int v21), (0, .ref h), (1, .int x0)]) dX4_daysUntilFaded_51 4 rfl rfl (by decide) rfl ?_
        refine G_goto X (tgt := 5) dX4_daysUntilFaded_54 (by decide) ?_
        cases h35
        exact G_lv [3, 4, 1, 0] rfl (h6 _ rfl)
def rmX4_daysSafe : Room := { frames := 5, cells := 0, slots := 0, locals := 118 }
theorem pkX4_daysSafe : cK yX4_daysSafe wsX4_daysSafe cX4_daysSafe 5 (some .int) 0 RX4 := ⟨⟨_, rfl⟩, by decide +kernel⟩
theorem hiX4_daysSafe_X4 : ∀ w ∈ wsX40, w ∈ wsX4_daysSafe := by decide +kernel
theorem flX4_daysSafe_36 : Cond.constant RX4 36 (-1000004) ∈ wsX4_daysSafe := by decide +kernel
theorem flX4_daysSafe_9 : Cond.fieldLink RX4 9 "EchoMargins$Survey" "ring" "LEchoMargins$Ring;" ∈ wsX4_daysSafe := by decide +kernel
set_option maxHeartbeats 4000000 in
set_option maxRecDepth 100000 in
theorem kkX4_daysSafe (l : Launch) (D : va_G) (cI cR : ClassId) (h h_ring h_ring_numbers : Nat) (f_h_ring_numbers : Nat → Int32) (z : Int32) (hz : MX4_daysSafe f_h_ring_numbers = some z) : cI1 l yX4_daysSafe wsX4_daysSafe rmX4_daysSafe D cI cR [.ref h] [(h, .inr (4, [.ref h_ring])), (h_ring, .inr (3, [.ref h_ring_numbers])), (h_ring_numbers, .inl (cI, 352, .inl f_h_ring_numbers))] z [(h, .inr (4, [.ref h_ring])), (h_ring, .inr (3, [.ref h_ring_numbers])), (h_ring_numbers, .inl (cI, 352, .inl f_h_ring_numbers))] := by
  unfold MX4_daysSafe at hz
  refine kI_of (cc := cX4_daysSafe) (maxL := 5) (own := RX4) (by decide +kernel) rfl rfl (Nat.le_of_ble_eq_true rfl) (lv0 := [(0, .ref h)]) rfl (fun p e s m args below meth c A Q X rt => ?_)
  refine G_aload_n X dX4_daysSafe_0 0 rfl ?_
  obtain ⟨v1, h2, h3⟩ := bnd hz
  refine G1_calli X (As := []) (rest := []) (wr := []) (ws' := [(h, .inr (4, [.ref h_ring])), (h_ring, .inr (3, [.ref h_ring_numbers])), (h_ring_numbers, .inl (cI, 352, .inl f_h_ring_numbers))]) dX4_daysSafe_1 pkX4_safeRows gX4_daysSafe_X4_safeRows (kkX4_safeRows l D cI cR h h_ring h_ring_numbers f_h_ring_numbers v1 h2) ⟨rfl, rfl⟩ ⟨Nat.le_of_ble_eq_true rfl, Nat.le_of_ble_eq_true rfl⟩ rfl rfl (Nat.le_of_ble_eq_true rfl) 0 rfl rfl [0, 1, 2] [] rfl rfl ⟨rfl, rfl, by decide⟩ ⟨Nat.zero_le _, Nat.zero_le _⟩ [0, 1, 2] rfl rfl ?_
  refine G_istore_n X (lv' := [(1, .int v1), (0, .ref h)]) dX4_daysSafe_4 (by decide) rfl ?_
  refine G_ldc X dX4_daysSafe_5 flX4_daysSafe_36 ?_
  refine G_istore_n X (lv' := [(2, .int (-1000004)), (1, .int v1), (0, .ref h)]) dX4_daysSafe_7 (by decide) rfl ?_
  refine G_iconst X (v := 0) dX4_daysSafe_8 (by decide) ?_
  refine G_istore_n X (lv' := [(3, .int 0), (2, .int (-1000004)), (1, .int v1), (0, .ref h)]) dX4_daysSafe_9 (by decide) rfl ?_
  obtain ⟨j5, h6, h7⟩ := bnd h3
  have J12 : G p l e rmX4_daysSafe s m args below meth c D A 5 Q 0 0 66 [(2, .int j5)] [] [(h, .inr (4, [.ref h_ring])), (h_ring, .inr (3, [.ref h_ring_numbers])), (h_ring_numbers, .inl (cI, 352, .inl f_h_ring_numbers))] := by
    refine G_iload_n X dX4_daysSafe_66 0 rfl ?_
    cases h7
    exact rt _ _ _ _ dX4_daysSafe_67 ⟨rfl, rfl⟩
  refine G_lv [3, 2, 1, 0] rfl ?_
  refine itr_ind (P := fun s4 : (Int32 × Int32) => G p l e rmX4_daysSafe s m args below meth c D A 5 Q 0 0 10 [(0, .ref h), (1, .int v1), (2, .int s4.1), (3, .int s4.2)] [] [(h, .inr (4, [.ref h_ring])), (h_ring, .inr (3, [.ref h_ring_numbers])), (h_ring_numbers, .inl (cI, 352, .inl f_h_ring_numbers))]) (fun s4 o11 h8 h9 h10 => ?_) FU _ h6
  unfold SX4_daysSafe_10 at h8
  refine G_iload_n X dX4_daysSafe_10 3 rfl ?_
  refine G_aload_n X dX4_daysSafe_11 0 rfl ?_
  refine G_get X (i0 := 0) (ci := 4) (j := 0) (C := RX4) (ref := RX4) (T := TX4) (N := 1) dX4_daysSafe_12 rfl rfl hiX4_daysSafe_X4 (by decide) flX4_daysSafe_9 rfl rfl ?_
  refine G_iconst X (v := 1) dX4_daysSafe_15 (by decide) ?_
  obtain ⟨v14, h15, h16⟩ := bnd h8
  refine G1_calli X (As := [.int 1]) (rest := [.int s4.2]) (wr := [(h, .inr (4, [.ref h_ring]))]) (ws' := [(h, .inr (4, [.ref h_ring])), (h_ring, .inr (3, [.ref h_ring_numbers])), (h_ring_numbers, .inl (cI, 352, .inl f_h_ring_numbers))]) dX4_daysSafe_16 pkX3_get gX4_daysSafe_X3_get (kkX3_get l D cI cR h_ring h_ring_numbers f_h_ring_numbers 1 v14 h15) ⟨rfl, rfl⟩ ⟨Nat.le_of_ble_eq_true rfl, Nat.le_of_ble_eq_true rfl⟩ rfl rfl (Nat.le_of_ble_eq_true rfl) 0 rfl rfl [1, 2] [0] rfl rfl ⟨rfl, rfl, by decide⟩ ⟨Nat.zero_le _, Nat.zero_le _⟩ [0, 1, 2] rfl rfl ?_
  refine G_icmp_ge X (tgt := 66) dX4_daysSafe_19 (by decide) (fun h17 => ?_) (fun h17 => ?_)
  · have h18 := ifp h17 h16
    cases h18
    have h19 := h10 _ rfl
    subst h19
    exact G_lv [2] rfl (J12)
  · have h20 := ifn h17 h16
    refine G_iload_n X dX4_daysSafe_22 1 rfl ?_
    refine G_iload_n X dX4_daysSafe_23 3 rfl ?_
    refine G_ishr X dX4_daysSafe_24 ?_
    refine G_iconst X (v := 1) dX4_daysSafe_25 (by decide) ?_
    refine G_iand X dX4_daysSafe_26 ?_
    refine G_iconst X (v := 1) dX4_daysSafe_27 (by decide) ?_
    refine G_icmp_ne X (tgt := 60) dX4_daysSafe_28 (by decide) (fun h21 => ?_) (fun h21 => ?_)
    · have h22 := ifp h21 h20
      refine G_aload_n X dX4_daysSafe_31 0 rfl ?_
      refine G_iload_n X dX4_daysSafe_32 3 rfl ?_
      obtain ⟨v23, h24, h25⟩ := bnd h22
      refine G1_calli X (As := [.int s4.2]) (rest := []) (wr := []) (ws' := [(h, .inr (4, [.ref h_ring])), (h_ring, .inr (3, [.ref h_ring_numbers])), (h_ring_numbers, .inl (cI, 352, .inl f_h_ring_numbers))]) dX4_daysSafe_33 pkX4_daysUntilFaded gX4_daysSafe_X4_daysUntilFaded (kkX4_daysUntilFaded l D cI cR h h_ring h_ring_numbers f_h_ring_numbers s4.2 v23 h24) ⟨rfl, rfl⟩ ⟨Nat.le_of_ble_eq_true rfl, Nat.le_of_ble_eq_true rfl⟩ rfl rfl (Nat.le_of_ble_eq_true rfl) 0 rfl rfl [0, 1, 2] [] rfl rfl ⟨rfl, rfl, by decide⟩ ⟨Nat.zero_le _, Nat.zero_le _⟩ [0, 1, 2] rfl rfl ?_
      refine G_istore X (lv' := [(4, .int v23), (0, .ref h), (1, .int v1), (2, .int s4.1), (3, .int s4.2)]) dX4_daysSafe_36 (by decide) rfl ?_
      refine G_iload X dX4_daysSafe_38 0 rfl ?_
      refine G_ldc X dX4_daysSafe_40 flX4_daysSafe_36 ?_
      refine G_icmp_eq X (tgt := 60) dX4_daysSafe_42 (by decide) (fun h26 => ?_) (fun h26 => ?_)
      · have h27 := ifp h26 h25
        refine G_iinc X (v := (s4.2 + 1)) (lv' := [(3, .int (s4.2 + 1)), (4, .int v23), (0, .ref h), (1, .int v1), (2, .int s4.1)]) dX4_daysSafe_60 4 rfl rfl (by decide) rfl ?_
        refine G_goto X (tgt := 10) dX4_daysSafe_63 (by decide) ?_
        cases h27
        exact G_lv [2, 3, 4, 0] rfl (h9 _ rfl)
      · have h28 := ifn h26 h25
        refine G_iload_n X dX4_daysSafe_45 3 rfl ?_
        refine G_ldc X dX4_daysSafe_46 flX4_daysSafe_36 ?_
        refine G_icmp_eq X (tgt := 57) dX4_daysSafe_48 (by decide) (fun h29 => ?_) (fun h29 => ?_)
        · have h30 := ifp h29 h28
          refine G_iload X dX4_daysSafe_57 0 rfl ?_
          refine G_istore_n X (lv' := [(2, .int v23), (4, .int v23), (0, .ref h), (1, .int v1), (3, .int s4.2)]) dX4_daysSafe_59 (by decide) rfl ?_
          refine G_iinc X (v := (s4.2 + 1)) (lv' := [(3, .int (s4.2 + 1)), (2, .int v23), (4, .int v23), (0, .ref h), (1, .int v1)]) dX4_daysSafe_60 4 rfl rfl (by decide) rfl ?_
          refine G_goto X (tgt := 10) dX4_daysSafe_63 (by decide) ?_
          cases h30
          exact G_lv [3, 4, 1, 0] rfl (h9 _ rfl)
        · have h31 := ifn h29 h28
          refine G_iload X dX4_daysSafe_51 0 rfl ?_
          refine G_iload_n X dX4_daysSafe_53 3 rfl ?_
          refine G_icmp_ge X (tgt := 60) dX4_daysSafe_54 (by decide) (fun h32 => ?_) (fun h32 => ?_)
          · have h33 := ifp h32 h31
            refine G_iinc X (v := (s4.2 + 1)) (lv' := [(3, .int (s4.2 + 1)), (4, .int v23), (0, .ref h), (1, .int v1), (2, .int s4.1)]) dX4_daysSafe_60 4 rfl rfl (by decide) rfl ?_
            refine G_goto X (tgt := 10) dX4_daysSafe_63 (by decide) ?_
            cases h33
            exact G_lv [2, 3, 4, 0] rfl (h9 _ rfl)
          · have h34 := ifn h32 h31
            refine G_iload X dX4_daysSafe_57 0 rfl ?_
            refine G_istore_n X (lv' := [(2, .int v23), (4, .int v23), (0, .ref h), (1, .int v1), (3, .int s4.2)]) dX4_daysSafe_59 (by decide) rfl ?_
            refine G_iinc X (v := (s4.2 + 1)) (lv' := [(3, .int (s4.2 + 1)), (2, .int v23), (4, .int v23), (0, .ref h), (1, .int v1)]) dX4_daysSafe_60 4 rfl rfl (by decide) rfl ?_
            refine G_goto X (tgt := 10) dX4_daysSafe_63 (by decide) ?_
            cases h34
            exact G_lv [3, 4, 1, 0] rfl (h9 _ rfl)
    · have h35 := ifn h21 h20
      refine G_iinc X (v := (s4.2 + 1)) (lv' := [(3, .int (s4.2 + 1)), (0, .ref h), (1, .int v1), (2, .int s4.1)]) dX4_daysSafe_60 3 rfl rfl (by decide) rfl ?_
      refine G_goto X (tgt := 10) dX4_daysSafe_63 (by decide) ?_
      cases h35
      exact G_lv [1, 2, 3, 0] rfl (h9 _ rfl)
def rmX4_bitsOf : Room := { frames := 0, cells := 0, slots := 0, locals := 0 }
theorem pkX4_bitsOf : cK yX4_bitsOf wsX4_bitsOf cX4_bitsOf 3 (some .int) 1 RX4 := ⟨⟨_, rfl⟩, by decide +kernel⟩
theorem flX4_bitsOf_100 : Cond.constantFloat RX4 100 (1258291200) ∈ wsX4_bitsOf := by decide +kernel
set_option maxHeartbeats 4000000 in
set_option maxRecDepth 100000 in
theorem kkX4_bitsOf (l : Launch) (D : va_G) (cI cR : ClassId) (x0 : UInt32) (z : Int32) (hz : MX4_bitsOf x0 = some z) : cI1 l yX4_bitsOf wsX4_bitsOf rmX4_bitsOf D cI cR [.float x0] [] z [] := by
  unfold MX4_bitsOf at hz
  refine kI_of (cc := cX4_bitsOf) (maxL := 3) (own := RX4) (by decide +kernel) rfl rfl (Nat.le_of_ble_eq_true rfl) (lv0 := [(0, .float x0)]) rfl (fun p e s m args below meth c A Q X rt => ?_)
  refine G_fload_n X dX4_bitsOf_0 0 rfl ?_
  refine G_fconst0 X dX4_bitsOf_1 ?_
  refine G_fcmp X dX4_bitsOf_2 ?_
  refine G_if_gt X (tgt := 8) dX4_bitsOf_3 (by decide) (fun h1 => ?_) (fun h1 => ?_)
  · have h2 := ifp h1 hz
    refine G_fload_n X dX4_bitsOf_8 0 rfl ?_
    refine G_fstore_n X (lv' := [(1, .float x0), (0, .float x0)]) dX4_bitsOf_9 (by decide) rfl ?_
    refine G_bipush X (v := 127) dX4_bitsOf_10 (by decide) ?_
    refine G_istore_n X (lv' := [(2, .int 127), (1, .float x0), (0, .float x0)]) dX4_bitsOf_12 (by decide) rfl ?_
    obtain ⟨j4, h5, h6⟩ := bnd h2
    have J11 : G p l e rmX4_bitsOf s m args below meth c D A 3 Q 0 0 36 [(1, .float j4.1), (2, .int j4.2)] [] [] := by
      obtain ⟨j14, h15, h16⟩ := bnd h6
      have J21 : G p l e rmX4_bitsOf s m args below meth c D A 3 Q 0 0 57 [(1, .float j14.1), (2, .int j14.2)] [] [] := by
        refine G_iload_n X dX4_bitsOf_57 1 rfl ?_
        refine G_bipush X (v := 23) dX4_bitsOf_58 (by decide) ?_
        refine G_ishl X dX4_bitsOf_60 ?_
        refine G_fload_n X dX4_bitsOf_61 0 rfl ?_
        refine G_fconst1 X dX4_bitsOf_62 ?_
        obtain ⟨v23, h24, h25⟩ := bnd h16
        refine G_fsub X dX4_bitsOf_63 h24 ?_
        refine G_ldcf X dX4_bitsOf_64 flX4_bitsOf_100 ?_
        obtain ⟨v26, h27, h28⟩ := bnd h25
        refine G_fmul X dX4_bitsOf_66 h27 ?_
        refine G_f2i X dX4_bitsOf_67 ?_
        refine G_iadd X dX4_bitsOf_68 ?_
        cases h28
        exact rt _ _ _ _ dX4_bitsOf_69 ⟨rfl, rfl⟩
      refine itr_ind (P := fun s13 : (UInt32 × Int32) => G p l e rmX4_bitsOf s m args below meth c D A 3 Q 0 0 36 [(1, .float s13.1), (2, .int s13.2)] [] []) (fun s13 o20 h17 h18 h19 => ?_) FU _ h15
      unfold SX4_bitsOf_36 at h17
      refine G_fload_n X dX4_bitsOf_36 0 rfl ?_
      refine G_fconst1 X dX4_bitsOf_37 ?_
      refine G_fcmp X dX4_bitsOf_38 ?_
      refine G_if_ge X (tgt := 57) dX4_bitsOf_39 (by decide) (fun h29 => ?_) (fun h29 => ?_)
      · have h30 := ifp h29 h17
        cases h30
        have h31 := h19 _ rfl
        subst h31
        exact J21
      · have h32 := ifn h29 h17
        refine G_iload_n X dX4_bitsOf_42 1 rfl ?_
        refine G_iconst X (v := 1) dX4_bitsOf_43 (by decide) ?_
        refine G_icmp_le X (tgt := 57) dX4_bitsOf_44 (by decide) (fun h33 => ?_) (fun h33 => ?_)
        · have h34 := ifp h33 h32
          cases h34
          have h35 := h19 _ rfl
          subst h35
          exact J21
        · have h36 := ifn h33 h32
          refine G_fload_n X dX4_bitsOf_47 0 rfl ?_
          refine G_fconst2 X dX4_bitsOf_48 ?_
          obtain ⟨v37, h38, h39⟩ := bnd h36
          refine G_fmul X dX4_bitsOf_49 h38 ?_
          refine G_fstore_n X (lv' := [(1, .float v37), (2, .int s13.2)]) dX4_bitsOf_50 (by decide) rfl ?_
          refine G_iinc X (v := (s13.2 + (-1))) (lv' := [(2, .int (s13.2 + (-1))), (1, .float v37)]) dX4_bitsOf_51 1 rfl rfl (by decide) rfl ?_
          refine G_goto X (tgt := 36) dX4_bitsOf_54 (by decide) ?_
          cases h39
          exact G_lv [1, 0] rfl (h18 _ rfl)
    refine G_lv [1, 0] rfl ?_
    refine itr_ind (P := fun s3 : (UInt32 × Int32) => G p l e rmX4_bitsOf s m args below meth c D A 3 Q 0 0 13 [(1, .float s3.1), (2, .int s3.2)] [] []) (fun s3 o10 h7 h8 h9 => ?_) FU _ h5
    unfold SX4_bitsOf_13 at h7
    refine G_fload_n X dX4_bitsOf_13 0 rfl ?_
    refine G_fconst2 X dX4_bitsOf_14 ?_
    refine G_fcmp X dX4_bitsOf_15 ?_
    refine G_if_lt X (tgt := 36) dX4_bitsOf_16 (by decide) (fun h40 => ?_) (fun h40 => ?_)
    · have h41 := ifp h40 h7
      cases h41
      have h42 := h9 _ rfl
      subst h42
      exact J11
    · have h43 := ifn h40 h7
      refine G_iload_n X dX4_bitsOf_19 1 rfl ?_
      refine G_sipush X (v := 254) dX4_bitsOf_20 (by decide) ?_
      refine G_icmp_ge X (tgt := 36) dX4_bitsOf_23 (by decide) (fun h44 => ?_) (fun h44 => ?_)
      · have h45 := ifp h44 h43
        cases h45
        have h46 := h9 _ rfl
        subst h46
        exact J11
      · have h47 := ifn h44 h43
        refine G_fload_n X dX4_bitsOf_26 0 rfl ?_
        refine G_fconst2 X dX4_bitsOf_27 ?_
        obtain ⟨v48, h49, h50⟩ := bnd h47
        refine G_fdiv X dX4_bitsOf_28 h49 ?_
        refine G_fstore_n X (lv' := [(1, .float v48), (2, .int s3.2)]) dX4_bitsOf_29 (by decide) rfl ?_
        refine G_iinc X (v := (s3.2 + 1)) (lv' := [(2, .int (s3.2 + 1)), (1, .float v48)]) dX4_bitsOf_30 1 rfl rfl (by decide) rfl ?_
        refine G_goto X (tgt := 13) dX4_bitsOf_33 (by decide) ?_
        cases h50
        exact G_lv [1, 0] rfl (h8 _ rfl)
  · have h51 := ifn h1 hz
    refine G_iconst X (v := 0) dX4_bitsOf_6 (by decide) ?_
    cases h51
    exact rt _ _ _ _ dX4_bitsOf_7 ⟨rfl, rfl⟩
def rmX4_meanAge : Room := { frames := 3, cells := 0, slots := 0, locals := 66 }
theorem pkX4_meanAge : cK yX4_meanAge wsX4_meanAge cX4_meanAge 6 (some .int) 0 RX4 := ⟨⟨_, rfl⟩, by decide +kernel⟩
theorem hiX4_meanAge_X4 : ∀ w ∈ wsX40, w ∈ wsX4_meanAge := by decide +kernel
theorem flX4_meanAge_36 : Cond.constant RX4 36 (-1000004) ∈ wsX4_meanAge := by decide +kernel
theorem flX4_meanAge_9 : Cond.fieldLink RX4 9 "EchoMargins$Survey" "ring" "LEchoMargins$Ring;" ∈ wsX4_meanAge := by decide +kernel
set_option maxHeartbeats 4000000 in
set_option maxRecDepth 100000 in
theorem kkX4_meanAge (l : Launch) (D : va_G) (cI cR : ClassId) (h h_ring h_ring_numbers : Nat) (f_h_ring_numbers : Nat → Int32) (z : Int32) (hz : MX4_meanAge f_h_ring_numbers = some z) : cI1 l yX4_meanAge wsX4_meanAge rmX4_meanAge D cI cR [.ref h] [(h, .inr (4, [.ref h_ring])), (h_ring, .inr (3, [.ref h_ring_numbers])), (h_ring_numbers, .inl (cI, 352, .inl f_h_ring_numbers))] z [(h, .inr (4, [.ref h_ring])), (h_ring, .inr (3, [.ref h_ring_numbers])), (h_ring_numbers, .inl (cI, 352, .inl f_h_ring_numbers))] := by
  unfold MX4_meanAge at hz
  refine kI_of (cc := cX4_meanAge) (maxL := 6) (own := RX4) (by decide +kernel) rfl rfl (Nat.le_of_ble_eq_true rfl) (lv0 := [(0, .ref h)]) rfl (fun p e s m args below meth c A Q X rt => ?_)
  refine G_aload_n X dX4_meanAge_0 0 rfl ?_
  obtain ⟨v1, h2, h3⟩ := bnd hz
  refine G1_calli X (As := []) (rest := []) (wr := []) (ws' := [(h, .inr (4, [.ref h_ring])), (h_ring, .inr (3, [.ref h_ring_numbers])), (h_ring_numbers, .inl (cI, 352, .inl f_h_ring_numbers))]) dX4_meanAge_1 pkX4_freshEchoes gX4_meanAge_X4_freshEchoes (kkX4_freshEchoes l D cI cR h h_ring h_ring_numbers f_h_ring_numbers v1 h2) ⟨rfl, rfl⟩ ⟨Nat.le_of_ble_eq_true rfl, Nat.le_of_ble_eq_true rfl⟩ rfl rfl (Nat.le_of_ble_eq_true rfl) 0 rfl rfl [0, 1, 2] [] rfl rfl ⟨rfl, rfl, by decide⟩ ⟨Nat.zero_le _, Nat.zero_le _⟩ [0, 1, 2] rfl rfl ?_
  refine G_istore_n X (lv' := [(1, .int v1), (0, .ref h)]) dX4_meanAge_4 (by decide) rfl ?_
  refine G_iload_n X dX4_meanAge_5 0 rfl ?_
  refine G_if_ne X (tgt := 12) dX4_meanAge_6 (by decide) (fun h4 => ?_) (fun h4 => ?_)
  · have h5 := ifp h4 h3
    refine G_ldc X dX4_meanAge_9 flX4_meanAge_36 ?_
    cases h5
    exact rt _ _ _ _ dX4_meanAge_11 ⟨rfl, rfl⟩
  · have h6 := ifn h4 h3
    refine G_iconst X (v := 0) dX4_meanAge_12 (by decide) ?_
    refine G_istore_n X (lv' := [(2, .int 0), (1, .int v1), (0, .ref h)]) dX4_meanAge_13 (by decide) rfl ?_
    refine G_iconst X (v := 0) dX4_meanAge_14 (by decide) ?_
    refine G_istore_n X (lv' := [(3, .int 0), (2, .int 0), (1, .int v1), (0, .ref h)]) dX4_meanAge_15 (by decide) rfl ?_
    obtain ⟨j8, h9, h10⟩ := bnd h6
    have J15 : G p l e rmX4_meanAge s m args below meth c D A 6 Q 0 0 96 [(1, .int v1), (2, .int j8)] [] [(h, .inr (4, [.ref h_ring])), (h_ring, .inr (3, [.ref h_ring_numbers])), (h_ring_numbers, .inl (cI, 352, .inl f_h_ring_numbers))] := by
      refine G_iload_n X dX4_meanAge_96 1 rfl ?_
      refine G_i2f X dX4_meanAge_97 ?_
      refine G_iload_n X dX4_meanAge_98 0 rfl ?_
      refine G_i2f X dX4_meanAge_99 ?_
      obtain ⟨v17, h18, h19⟩ := bnd h10
      refine G_fdiv X dX4_meanAge_100 h18 ?_
      obtain ⟨v20, h21, h22⟩ := bnd h19
      refine G1_callsi X (As := [.float v17]) (rest := []) (wr := [(h, .inr (4, [.ref h_ring])), (h_ring, .inr (3, [.ref h_ring_numbers])), (h_ring_numbers, .inl (cI, 352, .inl f_h_ring_numbers))]) (ws' := [(h, .inr (4, [.ref h_ring])), (h_ring, .inr (3, [.ref h_ring_numbers])), (h_ring_numbers, .inl (cI, 352, .inl f_h_ring_numbers))]) dX4_meanAge_101 pkX4_bitsOf gX4_meanAge_X4_bitsOf (kkX4_bitsOf l D cI cR v17 v20 h21) ⟨rfl, rfl⟩ ⟨Nat.le_of_ble_eq_true rfl, Nat.le_of_ble_eq_true rfl⟩ rfl rfl (Nat.le_of_ble_eq_true rfl) [] [0, 1, 2] rfl rfl ⟨rfl, rfl, by decide⟩ ⟨Nat.zero_le _, Nat.zero_le _⟩ [0, 1, 2] rfl rfl ?_
      cases h22
      exact rt _ _ _ _ dX4_meanAge_104 ⟨rfl, rfl⟩
    refine G_lv [3, 2, 1, 0] rfl ?_
    refine itr_ind (P := fun s7 : (Int32 × Int32) => G p l e rmX4_meanAge s m args below meth c D A 6 Q 0 0 16 [(0, .ref h), (1, .int v1), (2, .int s7.1), (3, .int s7.2)] [] [(h, .inr (4, [.ref h_ring])), (h_ring, .inr (3, [.ref h_ring_numbers])), (h_ring_numbers, .inl (cI, 352, .inl f_h_ring_numbers))]) (fun s7 o14 h11 h12 h13 => ?_) FU _ h9
    unfold SX4_meanAge_16 at h11
    refine G_iload_n X dX4_meanAge_16 3 rfl ?_
    refine G_aload_n X dX4_meanAge_17 0 rfl ?_
    refine G_get X (i0 := 0) (ci := 4) (j := 0) (C := RX4) (ref := RX4) (T := TX4) (N := 1) dX4_meanAge_18 rfl rfl hiX4_meanAge_X4 (by decide) flX4_meanAge_9 rfl rfl ?_
    refine G_iconst X (v := 1) dX4_meanAge_21 (by decide) ?_
    obtain ⟨v23, h24, h25⟩ := bnd h11
    refine G1_calli X (As := [.int 1]) (rest := [.int s7.2]) (wr := [(h, .inr (4, [.ref h_ring]))]) (ws' := [(h, .inr (4, [.ref h_ring])), (h_ring, .inr (3, [.ref h_ring_numbers])), (h_ring_numbers, .inl (cI, 352, .inl f_h_ring_numbers))]) dX4_meanAge_22 pkX3_get gX4_meanAge_X3_get (kkX3_get l D cI cR h_ring h_ring_numbers f_h_ring_numbers 1 v23 h24) ⟨rfl, rfl⟩ ⟨Nat.le_of_ble_eq_true rfl, Nat.le_of_ble_eq_true rfl⟩ rfl rfl (Nat.le_of_ble_eq_true rfl) 0 rfl rfl [1, 2] [0] rfl rfl ⟨rfl, rfl, by decide⟩ ⟨Nat.zero_le _, Nat.zero_le _⟩ [0, 1, 2] rfl rfl ?_
    refine G_icmp_ge X (tgt := 96) dX4_meanAge_25 (by decide) (fun h26 => ?_) (fun h26 => ?_)
    · have h27 := ifp h26 h25
      cases h27
      have h28 := h13 _ rfl
      subst h28
      exact G_lv [1, 2] rfl (J15)
    · have h29 := ifn h26 h25
      refine G_iconst X (v := 0) dX4_meanAge_28 (by decide) ?_
      refine G_istore X (lv' := [(4, .int 0), (0, .ref h), (1, .int v1), (2, .int s7.1), (3, .int s7.2)]) dX4_meanAge_29 (by decide) rfl ?_
      obtain ⟨j31, h32, h33⟩ := bnd h29
      have J38 : G p l e rmX4_meanAge s m args below meth c D A 6 Q 0 0 90 [(0, .ref h), (1, .int v1), (2, .int j31), (3, .int s7.2)] [] [(h, .inr (4, [.ref h_ring])), (h_ring, .inr (3, [.ref h_ring_numbers])), (h_ring_numbers, .inl (cI, 352, .inl f_h_ring_numbers))] := by
        refine G_iinc X (v := (s7.2 + 1)) (lv' := [(3, .int (s7.2 + 1)), (0, .ref h), (1, .int v1), (2, .int j31)]) dX4_meanAge_90 3 rfl rfl (by decide) rfl ?_
        refine G_goto X (tgt := 16) dX4_meanAge_93 (by decide) ?_
        cases h33
        exact G_lv [1, 2, 3, 0] rfl (h12 _ rfl)
      refine G_lv [1, 2, 3, 4, 0] rfl ?_
      refine itr_ind (P := fun s30 : (Int32 × Int32) => G p l e rmX4_meanAge s m args below meth c D A 6 Q 0 0 31 [(0, .ref h), (1, .int v1), (2, .int s30.1), (3, .int s7.2), (4, .int s30.2)] [] [(h, .inr (4, [.ref h_ring])), (h_ring, .inr (3, [.ref h_ring_numbers])), (h_ring_numbers, .inl (cI, 352, .inl f_h_ring_numbers))]) (fun s30 o37 h34 h35 h36 => ?_) FU _ h32
      unfold SX4_meanAge_31 at h34
      refine G_iload X dX4_meanAge_31 4 rfl ?_
      refine G_aload_n X dX4_meanAge_33 0 rfl ?_
      refine G_get X (i0 := 0) (ci := 4) (j := 0) (C := RX4) (ref := RX4) (T := TX4) (N := 1) dX4_meanAge_34 rfl rfl hiX4_meanAge_X4 (by decide) flX4_meanAge_9 rfl rfl ?_
      refine G_bipush X (v := 55) dX4_meanAge_37 (by decide) ?_
      refine G_iload_n X dX4_meanAge_39 3 rfl ?_
      refine G_iadd X dX4_meanAge_40 ?_
      obtain ⟨v40, h41, h42⟩ := bnd h34
      refine G1_calli X (As := [.int (55 + s7.2)]) (rest := [.int s30.2]) (wr := [(h, .inr (4, [.ref h_ring]))]) (ws' := [(h, .inr (4, [.ref h_ring])), (h_ring, .inr (3, [.ref h_ring_numbers])), (h_ring_numbers, .inl (cI, 352, .inl f_h_ring_numbers))]) dX4_meanAge_41 pkX3_get gX4_meanAge_X3_get (kkX3_get l D cI cR h_ring h_ring_numbers f_h_ring_numbers (55 + s7.2) v40 h41) ⟨rfl, rfl⟩ ⟨Nat.le_of_ble_eq_true rfl, Nat.le_of_ble_eq_true rfl⟩ rfl rfl (Nat.le_of_ble_eq_true rfl) 0 rfl rfl [1, 2] [0] rfl rfl ⟨rfl, rfl, by decide⟩ ⟨Nat.zero_le _, Nat.zero_le _⟩ [0, 1, 2] rfl rfl ?_
      refine G_icmp_ge X (tgt := 90) dX4_meanAge_44 (by decide) (fun h43 => ?_) (fun h43 => ?_)
      · have h44 := ifp h43 h42
        cases h44
        have h45 := h36 _ rfl
        subst h45
        exact G_lv [0, 1, 2, 3] rfl (J38)
      · have h46 := ifn h43 h42
        refine G_aload_n X dX4_meanAge_47 0 rfl ?_
        refine G_iload_n X dX4_meanAge_48 3 rfl ?_
        refine G_iload X dX4_meanAge_49 4 rfl ?_
        obtain ⟨v47, h48, h49⟩ := bnd h46
        refine G1_calli X (As := [.int s7.2, .int s30.2]) (rest := []) (wr := []) (ws' := [(h, .inr (4, [.ref h_ring])), (h_ring, .inr (3, [.ref h_ring_numbers])), (h_ring_numbers, .inl (cI, 352, .inl f_h_ring_numbers))]) dX4_meanAge_51 pkX4_echoIn gX4_meanAge_X4_echoIn (kkX4_echoIn l D cI cR h h_ring h_ring_numbers f_h_ring_numbers s7.2 s30.2 v47 h48) ⟨rfl, rfl⟩ ⟨Nat.le_of_ble_eq_true rfl, Nat.le_of_ble_eq_true rfl⟩ rfl rfl (Nat.le_of_ble_eq_true rfl) 0 rfl rfl [0, 1, 2] [] rfl rfl ⟨rfl, rfl, by decide⟩ ⟨Nat.zero_le _, Nat.zero_le _⟩ [0, 1, 2] rfl rfl ?_
        refine G_istore X (lv' := [(5, .int v47), (0, .ref h), (1, .int v1), (2, .int s30.1), (3, .int s7.2), (4, .int s30.2)]) dX4_meanAge_54 (by decide) rfl ?_
        refine G_iload_n X dX4_meanAge_56 3 rfl ?_
        refine G_aload_n X dX4_meanAge_57 1 rfl ?_
        refine G_get X (i0 := 0) (ci := 4) (j := 0) (C := RX4) (ref := RX4) (T := TX4) (N := 1) dX4_meanAge_58 rfl rfl hiX4_meanAge_X4 (by decide) flX4_meanAge_9 rfl rfl ?_
        refine G_iload X dX4_meanAge_61 0 rfl ?_
        obtain ⟨v50, h51, h52⟩ := bnd h49
        refine G1_calli X (As := [.int v47]) (rest := [.int s30.1]) (wr := [(h, .inr (4, [.ref h_ring]))]) (ws' := [(h, .inr (4, [.ref h_ring])), (h_ring, .inr (3, [.ref h_ring_numbers])), (h_ring_numbers, .inl (cI, 352, .inl f_h_ring_numbers))]) dX4_meanAge_63 pkX3_isFaded gX4_meanAge_X3_isFaded (kkX3_isFaded l D cI cR h_ring h_ring_numbers f_h_ring_numbers v47 v50 h51) ⟨rfl, rfl⟩ ⟨Nat.le_of_ble_eq_true rfl, Nat.le_of_ble_eq_true rfl⟩ rfl rfl (Nat.le_of_ble_eq_true rfl) 0 rfl rfl [1, 2] [0] rfl rfl ⟨rfl, rfl, by decide⟩ ⟨Nat.zero_le _, Nat.zero_le _⟩ [0, 1, 2] rfl rfl ?_
        refine G_if_eq X (tgt := 73) dX4_meanAge_66 (by decide) (fun h53 => ?_) (fun h53 => ?_)
        · have h54 := ifp h53 h52
          refine G_aload_n X dX4_meanAge_73 1 rfl ?_
          refine G_get X (i0 := 0) (ci := 4) (j := 0) (C := RX4) (ref := RX4) (T := TX4) (N := 1) dX4_meanAge_74 rfl rfl hiX4_meanAge_X4 (by decide) flX4_meanAge_9 rfl rfl ?_
          refine G_iload X dX4_meanAge_77 0 rfl ?_
          obtain ⟨v55, h56, h57⟩ := bnd h54
          refine G1_calli X (As := [.int v47]) (rest := [.int s30.1]) (wr := [(h, .inr (4, [.ref h_ring]))]) (ws' := [(h, .inr (4, [.ref h_ring])), (h_ring, .inr (3, [.ref h_ring_numbers])), (h_ring_numbers, .inl (cI, 352, .inl f_h_ring_numbers))]) dX4_meanAge_79 pkX3_ageOf gX4_meanAge_X3_ageOf (kkX3_ageOf l D cI cR h_ring h_ring_numbers f_h_ring_numbers v47 v55 h56) ⟨rfl, rfl⟩ ⟨Nat.le_of_ble_eq_true rfl, Nat.le_of_ble_eq_true rfl⟩ rfl rfl (Nat.le_of_ble_eq_true rfl) 0 rfl rfl [1, 2] [0] rfl rfl ⟨rfl, rfl, by decide⟩ ⟨Nat.zero_le _, Nat.zero_le _⟩ [0, 1, 2] rfl rfl ?_
          refine G_iadd X dX4_meanAge_82 ?_
          refine G_istore_n X (lv' := [(2, .int (s30.1 + v55)), (5, .int v47), (0, .ref h), (1, .int v1), (3, .int s7.2), (4, .int s30.2)]) dX4_meanAge_83 (by decide) rfl ?_
          refine G_iinc X (v := (s30.2 + 1)) (lv' := [(4, .int (s30.2 + 1)), (2, .int (s30.1 + v55)), (5, .int v47), (0, .ref h), (1, .int v1), (3, .int s7.2)]) dX4_meanAge_84 5 rfl rfl (by decide) rfl ?_
          refine G_goto X (tgt := 31) dX4_meanAge_87 (by decide) ?_
          cases h57
          exact G_lv [3, 4, 1, 5, 0] rfl (h35 _ rfl)
        · have h58 := ifn h53 h52
          refine G_iconst X (v := 0) dX4_meanAge_69 (by decide) ?_
          refine G_goto X (tgt := 82) dX4_meanAge_70 (by decide) ?_
          refine G_iadd X dX4_meanAge_82 ?_
          refine G_istore_n X (lv' := [(2, .int (s30.1 + 0)), (5, .int v47), (0, .ref h), (1, .int v1), (3, .int s7.2), (4, .int s30.2)]) dX4_meanAge_83 (by decide) rfl ?_
          refine G_iinc X (v := (s30.2 + 1)) (lv' := [(4, .int (s30.2 + 1)), (2, .int (s30.1 + 0)), (5, .int v47), (0, .ref h), (1, .int v1), (3, .int s7.2)]) dX4_meanAge_84 5 rfl rfl (by decide) rfl ?_
          refine G_goto X (tgt := 31) dX4_meanAge_87 (by decide) ?_
          cases h58
          exact G_lv [3, 4, 1, 5, 0] rfl (h35 _ rfl)
def rmX4_shareComingBack : Room := { frames := 4, cells := 0, slots := 0, locals := 96 }
theorem pkX4_shareComingBack : cK yX4_shareComingBack wsX4_shareComingBack cX4_shareComingBack 4 (some .int) 0 RX4 := ⟨⟨_, rfl⟩, by decide +kernel⟩
theorem hiX4_shareComingBack_X4 : ∀ w ∈ wsX40, w ∈ wsX4_shareComingBack := by decide +kernel
theorem flX4_shareComingBack_9 : Cond.fieldLink RX4 9 "EchoMargins$Survey" "ring" "LEchoMargins$Ring;" ∈ wsX4_shareComingBack := by decide +kernel
theorem flX4_shareComingBack_36 : Cond.constant RX4 36 (-1000004) ∈ wsX4_shareComingBack := by decide +kernel
set_option maxHeartbeats 4000000 in
set_option maxRecDepth 100000 in
theorem kkX4_shareComingBack (l : Launch) (D : va_G) (cI cR : ClassId) (h h_ring h_ring_numbers : Nat) (f_h_ring_numbers : Nat → Int32) (z : Int32) (hz : MX4_shareComingBack f_h_ring_numbers = some z) : cI1 l yX4_shareComingBack wsX4_shareComingBack rmX4_shareComingBack D cI cR [.ref h] [(h, .inr (4, [.ref h_ring])), (h_ring, .inr (3, [.ref h_ring_numbers])), (h_ring_numbers, .inl (cI, 352, .inl f_h_ring_numbers))] z [(h, .inr (4, [.ref h_ring])), (h_ring, .inr (3, [.ref h_ring_numbers])), (h_ring_numbers, .inl (cI, 352, .inl f_h_ring_numbers))] := by
  unfold MX4_shareComingBack at hz
  refine kI_of (cc := cX4_shareComingBack) (maxL := 4) (own := RX4) (by decide +kernel) rfl rfl (Nat.le_of_ble_eq_true rfl) (lv0 := [(0, .ref h)]) rfl (fun p e s m args below meth c A Q X rt => ?_)
  refine G_iconst X (v := 0) dX4_shareComingBack_0 (by decide) ?_
  refine G_istore_n X (lv' := [(1, .int 0), (0, .ref h)]) dX4_shareComingBack_1 (by decide) rfl ?_
  refine G_iconst X (v := 0) dX4_shareComingBack_2 (by decide) ?_
  refine G_istore_n X (lv' := [(2, .int 0), (1, .int 0), (0, .ref h)]) dX4_shareComingBack_3 (by decide) rfl ?_
  refine G_iconst X (v := 0) dX4_shareComingBack_4 (by decide) ?_
  refine G_istore_n X (lv' := [(3, .int 0), (2, .int 0), (1, .int 0), (0, .ref h)]) dX4_shareComingBack_5 (by decide) rfl ?_
  obtain ⟨j2, h3, h4⟩ := bnd hz
  have J9 : G p l e rmX4_shareComingBack s m args below meth c D A 4 Q 0 0 49 [(1, .int j2.1), (2, .int j2.2)] [] [(h, .inr (4, [.ref h_ring])), (h_ring, .inr (3, [.ref h_ring_numbers])), (h_ring_numbers, .inl (cI, 352, .inl f_h_ring_numbers))] := by
    refine G_iload_n X dX4_shareComingBack_49 1 rfl ?_
    refine G_if_ne X (tgt := 58) dX4_shareComingBack_50 (by decide) (fun h11 => ?_) (fun h11 => ?_)
    · have h12 := ifp h11 h4
      refine G_ldc X dX4_shareComingBack_53 flX4_shareComingBack_36 ?_
      refine G_goto X (tgt := 66) dX4_shareComingBack_55 (by decide) ?_
      cases h12
      exact rt _ _ _ _ dX4_shareComingBack_66 ⟨rfl, rfl⟩
    · have h13 := ifn h11 h4
      refine G_iload_n X dX4_shareComingBack_58 0 rfl ?_
      refine G_i2f X dX4_shareComingBack_59 ?_
      refine G_iload_n X dX4_shareComingBack_60 1 rfl ?_
      refine G_i2f X dX4_shareComingBack_61 ?_
      obtain ⟨v14, h15, h16⟩ := bnd h13
      refine G_fdiv X dX4_shareComingBack_62 h15 ?_
      obtain ⟨v17, h18, h19⟩ := bnd h16
      refine G1_callsi X (As := [.float v14]) (rest := []) (wr := [(h, .inr (4, [.ref h_ring])), (h_ring, .inr (3, [.ref h_ring_numbers])), (h_ring_numbers, .inl (cI, 352, .inl f_h_ring_numbers))]) (ws' := [(h, .inr (4, [.ref h_ring])), (h_ring, .inr (3, [.ref h_ring_numbers])), (h_ring_numbers, .inl (cI, 352, .inl f_h_ring_numbers))]) dX4_shareComingBack_63 pkX4_bitsOf gX4_shareComingBack_X4_bitsOf (kkX4_bitsOf l D cI cR v14 v17 h18) ⟨rfl, rfl⟩ ⟨Nat.le_of_ble_eq_true rfl, Nat.le_of_ble_eq_true rfl⟩ rfl rfl (Nat.le_of_ble_eq_true rfl) [] [0, 1, 2] rfl rfl ⟨rfl, rfl, by decide⟩ ⟨Nat.zero_le _, Nat.zero_le _⟩ [0, 1, 2] rfl rfl ?_
      cases h19
      exact rt _ _ _ _ dX4_shareComingBack_66 ⟨rfl, rfl⟩
  refine G_lv [3, 2, 1, 0] rfl ?_
  refine itr_ind (P := fun s1 : (Int32 × Int32 × Int32) => G p l e rmX4_shareComingBack s m args below meth c D A 4 Q 0 0 6 [(0, .ref h), (1, .int s1.1), (2, .int s1.2.1), (3, .int s1.2.2)] [] [(h, .inr (4, [.ref h_ring])), (h_ring, .inr (3, [.ref h_ring_numbers])), (h_ring_numbers, .inl (cI, 352, .inl f_h_ring_numbers))]) (fun s1 o8 h5 h6 h7 => ?_) FU _ h3
  unfold SX4_shareComingBack_6 at h5
  refine G_iload_n X dX4_shareComingBack_6 3 rfl ?_
  refine G_aload_n X dX4_shareComingBack_7 0 rfl ?_
  refine G_get X (i0 := 0) (ci := 4) (j := 0) (C := RX4) (ref := RX4) (T := TX4) (N := 1) dX4_shareComingBack_8 rfl rfl hiX4_shareComingBack_X4 (by decide) flX4_shareComingBack_9 rfl rfl ?_
  refine G_iconst X (v := 1) dX4_shareComingBack_11 (by decide) ?_
  obtain ⟨v20, h21, h22⟩ := bnd h5
  refine G1_calli X (As := [.int 1]) (rest := [.int s1.2.2]) (wr := [(h, .inr (4, [.ref h_ring]))]) (ws' := [(h, .inr (4, [.ref h_ring])), (h_ring, .inr (3, [.ref h_ring_numbers])), (h_ring_numbers, .inl (cI, 352, .inl f_h_ring_numbers))]) dX4_shareComingBack_12 pkX3_get gX4_shareComingBack_X3_get (kkX3_get l D cI cR h_ring h_ring_numbers f_h_ring_numbers 1 v20 h21) ⟨rfl, rfl⟩ ⟨Nat.le_of_ble_eq_true rfl, Nat.le_of_ble_eq_true rfl⟩ rfl rfl (Nat.le_of_ble_eq_true rfl) 0 rfl rfl [1, 2] [0] rfl rfl ⟨rfl, rfl, by decide⟩ ⟨Nat.zero_le _, Nat.zero_le _⟩ [0, 1, 2] rfl rfl ?_
  refine G_icmp_ge X (tgt := 49) dX4_shareComingBack_15 (by decide) (fun h23 => ?_) (fun h23 => ?_)
  · have h24 := ifp h23 h22
    cases h24
    have h25 := h7 _ rfl
    subst h25
    exact G_lv [1, 2] rfl (J9)
  · have h26 := ifn h23 h22
    refine G_aload_n X dX4_shareComingBack_18 0 rfl ?_
    refine G_get X (i0 := 0) (ci := 4) (j := 0) (C := RX4) (ref := RX4) (T := TX4) (N := 1) dX4_shareComingBack_19 rfl rfl hiX4_shareComingBack_X4 (by decide) flX4_shareComingBack_9 rfl rfl ?_
    refine G_iload_n X dX4_shareComingBack_22 3 rfl ?_
    obtain ⟨v27, h28, h29⟩ := bnd h26
    refine G1_calli X (As := [.int s1.2.2]) (rest := []) (wr := [(h, .inr (4, [.ref h_ring]))]) (ws' := [(h, .inr (4, [.ref h_ring])), (h_ring, .inr (3, [.ref h_ring_numbers])), (h_ring_numbers, .inl (cI, 352, .inl f_h_ring_numbers))]) dX4_shareComingBack_23 pkX3_lives gX4_shareComingBack_X3_lives (kkX3_lives l D cI cR h_ring h_ring_numbers f_h_ring_numbers s1.2.2 v27 h28) ⟨rfl, rfl⟩ ⟨Nat.le_of_ble_eq_true rfl, Nat.le_of_ble_eq_true rfl⟩ rfl rfl (Nat.le_of_ble_eq_true rfl) 0 rfl rfl [1, 2] [0] rfl rfl ⟨rfl, rfl, by decide⟩ ⟨Nat.zero_le _, Nat.zero_le _⟩ [0, 1, 2] rfl rfl ?_
    refine G_if_eq X (tgt := 43) dX4_shareComingBack_26 (by decide) (fun h30 => ?_) (fun h30 => ?_)
    · have h31 := ifp h30 h29
      refine G_iinc X (v := (s1.2.2 + 1)) (lv' := [(3, .int (s1.2.2 + 1)), (0, .ref h), (1, .int s1.1), (2, .int s1.2.1)]) dX4_shareComingBack_43 3 rfl rfl (by decide) rfl ?_
      refine G_goto X (tgt := 6) dX4_shareComingBack_46 (by decide) ?_
      cases h31
      exact G_lv [1, 2, 3, 0] rfl (h6 _ rfl)
    · have h32 := ifn h30 h29
      refine G_iload_n X dX4_shareComingBack_29 1 rfl ?_
      refine G_aload_n X dX4_shareComingBack_30 0 rfl ?_
      refine G_get X (i0 := 0) (ci := 4) (j := 0) (C := RX4) (ref := RX4) (T := TX4) (N := 1) dX4_shareComingBack_31 rfl rfl hiX4_shareComingBack_X4 (by decide) flX4_shareComingBack_9 rfl rfl ?_
      refine G_iload_n X dX4_shareComingBack_34 3 rfl ?_
      obtain ⟨v33, h34, h35⟩ := bnd h32
      refine G1_calli X (As := [.int s1.2.2]) (rest := [.int s1.1]) (wr := [(h, .inr (4, [.ref h_ring]))]) (ws' := [(h, .inr (4, [.ref h_ring])), (h_ring, .inr (3, [.ref h_ring_numbers])), (h_ring_numbers, .inl (cI, 352, .inl f_h_ring_numbers))]) dX4_shareComingBack_35 pkX3_comingBack gX4_shareComingBack_X3_comingBack (kkX3_comingBack l D cI cR h_ring h_ring_numbers f_h_ring_numbers s1.2.2 v33 h34) ⟨rfl, rfl⟩ ⟨Nat.le_of_ble_eq_true rfl, Nat.le_of_ble_eq_true rfl⟩ rfl rfl (Nat.le_of_ble_eq_true rfl) 0 rfl rfl [1, 2] [0] rfl rfl ⟨rfl, rfl, by decide⟩ ⟨Nat.zero_le _, Nat.zero_le _⟩ [0, 1, 2] rfl rfl ?_
      refine G_iadd X dX4_shareComingBack_38 ?_
      refine G_istore_n X (lv' := [(1, .int (s1.1 + v33)), (0, .ref h), (2, .int s1.2.1), (3, .int s1.2.2)]) dX4_shareComingBack_39 (by decide) rfl ?_
      refine G_iinc X (v := (s1.2.1 + 8)) (lv' := [(2, .int (s1.2.1 + 8)), (1, .int (s1.1 + v33)), (0, .ref h), (3, .int s1.2.2)]) dX4_shareComingBack_40 2 rfl rfl (by decide) rfl ?_
      refine G_iinc X (v := (s1.2.2 + 1)) (lv' := [(3, .int (s1.2.2 + 1)), (2, .int (s1.2.1 + 8)), (1, .int (s1.1 + v33)), (0, .ref h)]) dX4_shareComingBack_43 3 rfl rfl (by decide) rfl ?_
      refine G_goto X (tgt := 6) dX4_shareComingBack_46 (by decide) ?_
      cases h35
      exact G_lv [3, 2, 1, 0] rfl (h6 _ rfl)
