/-! the law: from its entry to its end -/
theorem wsL_ao : Cond.arrayOver (.object RX3) ∈ lw_tbl := by decide +kernel
theorem wsL_ai : Cond.arrayClass .int ∈ lw_tbl := by decide +kernel
theorem hiL_X0 : ∀ w ∈ wsX00, w ∈ wsL_law := inlX0
theorem hiL_X1 : ∀ w ∈ wsX10, w ∈ wsL_law := inlX1
theorem hiL_X2 : ∀ w ∈ wsX20, w ∈ wsL_law := inlX2
theorem hiL_X3 : ∀ w ∈ wsX30, w ∈ wsL_law := inlX3
theorem hiL_X4 : ∀ w ∈ wsX40, w ∈ wsL_law := inlX4
theorem hiL_X5 : ∀ w ∈ wsX50, w ∈ wsL_law := inlX5
theorem inL_X0 : Cond.instantiable RX0 3 ∈ lw_tbl := by decide +kernel
theorem inL_X1 : Cond.instantiable RX1 4 ∈ lw_tbl := by decide +kernel
theorem inL_X2 : Cond.instantiable RX2 7 ∈ lw_tbl := by decide +kernel
theorem inL_X3 : Cond.instantiable RX3 1 ∈ lw_tbl := by decide +kernel
theorem inL_X4 : Cond.instantiable RX4 1 ∈ lw_tbl := by decide +kernel
theorem inL_X5 : Cond.instantiable RX5 6 ∈ lw_tbl := by decide +kernel
theorem clL_X5 : Cond.classLink RL 14 RX5 ∈ wsL_law := by decide +kernel
theorem isL_X5 : Cond.instantiable RX5 6 ∈ wsL_law := by decide +kernel
theorem izL_X5 : Cond.initialized RX5 ∈ wsL_law := by decide +kernel
theorem imL_X5 : Cond.instanceMethod yX5_init ∈ wsL_law := by decide +kernel
theorem mlL_X5 : Cond.methodLink RL 110 yX5_init ∈ wsL_law := by decide +kernel
theorem world_K {s : State} {b : Nat} (hts : ∀ w ∈ lw_tbl, w.before #[Value.ref b] s = true) : ∃ (D : va_G) (cI cR : ClassId), va_K D vwCl (tyK cI cR) s ∧ va_AO RX3 s := by
  have htl : ∀ w ∈ wsL_law, w.before #[Value.ref b] s = true := fun w h => hts w (wsL_law_in w h)
  obtain ⟨c0, i0, h0⟩ := u_known (C := RX0) (T := TX0) (N := 3) (n := 3) htl hiL_X0 (hts _ inL_X0)
  obtain ⟨c1, i1, h1⟩ := u_known (C := RX1) (T := TX1) (N := 4) (n := 4) htl hiL_X1 (hts _ inL_X1)
  obtain ⟨c2, i2, h2⟩ := u_known (C := RX2) (T := TX2) (N := 7) (n := 7) htl hiL_X2 (hts _ inL_X2)
  obtain ⟨c3, i3, h3⟩ := u_known (C := RX3) (T := TX3) (N := 1) (n := 1) htl hiL_X3 (hts _ inL_X3)
  obtain ⟨c4, i4, h4⟩ := u_known (C := RX4) (T := TX4) (N := 1) (n := 1) htl hiL_X4 (hts _ inL_X4)
  obtain ⟨c5, i5, h5⟩ := u_known (C := RX5) (T := TX5) (N := 6) (n := 6) htl hiL_X5 (hts _ inL_X5)
  obtain ⟨dC, dI, hKc⟩ : ∃ (dC : Nat → ClassId) (dI : Nat → Nat → Nat), ∀ (k : Nat) (q : vw_C), vwCl[k]? = some q → u_Kn s q.1 q.2.1 q.2.2 (dC k) (dI k) := by
    refine ⟨fun k => if k = 0 then c0 else if k = 1 then c1 else if k = 2 then c2 else if k = 3 then c3 else if k = 4 then c4 else c5, fun k => if k = 0 then i0 else if k = 1 then i1 else if k = 2 then i2 else if k = 3 then i3 else if k = 4 then i4 else i5, ?_⟩
    intro k q hq
    match k, hq with
    | 0, hq => cases hq; exact h0
    | 1, hq => cases hq; exact h1
    | 2, hq => cases hq; exact h2
    | 3, hq => cases hq; exact h3
    | 4, hq => cases hq; exact h4
    | 5, hq => cases hq; exact h5
    | k + 6, hq => simp [vwCl] at hq
  obtain ⟨cI, kI, mI, a1, a2, a3⟩ := Cond.arrayClass_spec (hts _ wsL_ai)
  obtain ⟨mR, cR, kR, b1, b2, b3, b4, b5⟩ := Cond.arrayOver_spec (hts _ wsL_ao)
  refine ⟨(dC, dI), cI, cR, ⟨hKc, fun k q hq => ?_⟩, va_AO.of (hts _ wsL_ao)⟩
  match k, hq with
  | 0, hq => cases hq; exact ⟨fun N z => ⟨(fun k h => by cases h), kI, a2, mI, a3⟩, a1⟩
  | 1, hq => cases hq; exact ⟨fun N z => ⟨(fun k h => by cases h), kR, b3, mR, b4⟩, kR, mR, b3, b4, b1, b5⟩
  | k + 2, hq => simp [tyK] at hq
section BEGIN1
variable {a : Abs} {f : Nat → Int32}
theorem begin_gen (h : f 0 = nI (aG a 1) ∧ f 2 = nI (aG a 2) ∧ f 3 = nI (aG a 3)) (hi : aG a 1 ≤ 9999 ∧ (1 ≤ aG a 2 ∧ aG a 2 ≤ 16) ∧ (1 ≤ aG a 3 ∧ aG a 3 ≤ 99)) {n : Nat} (hn1 : 3 ≤ n) (hn2 : n ≤ 9) : ∃ b x g, MX3_beginAnew f (nI n) = some (x, g) ∧ RepC b g ∧ GoodA 0 b := by
  obtain ⟨g, p1, p2⟩ := C_begin0 h hi hn1 hn2
  have hI : aInv (aBegin a n).2 := by
    have := (rows_inv (fresh_inv a hi.1 hi.2.1 hi.2.2 ⟨hn1, hn2⟩) n (by rw [fr_0]; exact Nat.le_refl _)).1
    exact (this :)
  have hW : aWz (aBegin a n).2 := by
    intro p q hp hq h0
    have := (rows_inv (fresh_inv a hi.1 hi.2.1 hi.2.2 ⟨hn1, hn2⟩) n (by rw [fr_0]; exact Nat.le_refl _)).2.2.1
    have z : aF (aLayRows (aFresh a n) n) 1 p = 0 := h0
    rw [this] at z
    exact absurd z (by show ¬ (if 1 = 1 then 1 else p) = 0; rw [if_pos rfl]; decide)
  exact ⟨_, _, g, p1, p2, hI, hW, cnt_begin hi.1 hi.2.1 hi.2.2 ⟨hn1, hn2⟩⟩
theorem begin_start : ∃ b x g, MX3_beginAnew row0 5 = some (x, g) ∧ RepC b g ∧ GoodA 0 b :=
  begin_gen (a := abs0) (f := row0) ⟨rfl, rfl, rfl⟩ (by decide) (n := 5) (by decide) (by decide)
end BEGIN1
set_option maxHeartbeats 8000000 in
set_option maxRecDepth 100000 in
theorem law_entry {p : Program} {l : Launch} {e : Env} {s : State} {m : MethodId} {below : List Frame} {meth : Method} {c : Code} {D : va_G} {cI cR : ClassId} {A : Nat → Prop} {Q : State → Prop} {b L : Nat} {xs : Nat → Int32} (X : gX p l e room_1 s m #[.ref b] below meth c code 11 wsL_law RL D cI cR A) (hX : va_X b L xs s s.heap) (hbl : b < s.heap.size) (hbA : ¬ A b) (hL : L ≤ 260) (hAO : va_AO RX3 s) (rt : ∀ (pc : Nat) (lv : List (Nat × Value)) (v : Int32) (ws : va_W), decode code pc = .ok (.ireturn, 1) → narrow .boolean (.int v) = .int v → v = 1 → G p l e room_1 s m #[.ref b] below meth c D A 11 Q 33 3984 pc lv [.int v] ws) : G p l e room_1 s m #[.ref b] below meth c D A 11 Q 0 0 0 [(0, .ref b)] [] [] := by
  obtain ⟨bb, x, g, hz5, hT, hG⟩ := begin_start
  refine G_newo X (C := RX5) (T := TX5) (N := 6) (ci := 5) (k' := 1) (n' := 6) (fs := [.null, .null, .null, .null, .null, .null]) tyX5 dL_law_0 hiL_X5 tyX5_ok clL_X5 isL_X5 izL_X5 rfl (fun j z => match j, z with | 0, _ => rfl | 1, _ => rfl | 2, _ => rfl | 3, _ => rfl | 4, _ => rfl | 5, _ => rfl | (k + 6), z => absurd z (by omega)) rfl rfl (Nat.le_of_ble_eq_true rfl) (Nat.le_of_ble_eq_true rfl) (fun h => ?_)
  refine G_dup X dL_law_3 rfl ?_
  refine G_callA X hAO (nA := 0) (y := yX5_init) (cws := wsX5_init) (As := []) (rest := [.ref h]) (wc := [(h, .inr (5, [.null, .null, .null, .null, .null, .null]))]) (wr := []) (k' := 33) (n' := 3984) dL_law_4 ⟨_, rfl⟩ rfl (by decide +kernel) gL_law_X5_init izL_X5 mlL_X5 imL_X5 (kkKX5_init l D cI cR h x g hz5) ⟨rfl, rfl⟩ ⟨Nat.le_of_ble_eq_true rfl, Nat.le_of_ble_eq_true rfl⟩ rfl rfl (Nat.le_of_ble_eq_true rfl) [0] [] rfl rfl ⟨rfl, rfl, by decide⟩ rfl rfl ⟨Nat.le_of_ble_eq_true rfl, Nat.le_of_ble_eq_true rfl⟩ (fun u hu => ?_)
  obtain ⟨h_now, h_now_numbers, h_trial, h_trial_numbers, h_survey, h_mending, h_mending_steps, h_mending_tried, h_mending_best, h_past, h_past_states, h_text, h_text_signs, h_text_numbers, h_mending_steps_r, h_mending_steps_a, h_past_states_r, h_past_states_a, rfl⟩ := hu
  refine G_ws (ws' := [(h, .inr (5, [.ref h_now, .ref h_trial, .ref h_survey, .ref h_mending, .ref h_past, .ref h_text])), (h_now, .inr (3, [.ref h_now_numbers])), (h_now_numbers, .inl (cI, 352, .inl g)), (h_trial, .inr (3, [.ref h_trial_numbers])), (h_trial_numbers, .inl (cI, 352, .inl row0)), (h_survey, .inr (4, [.ref h_now])), (h_mending, .inr (1, [.ref h_mending_steps, .ref h_mending_tried, .ref h_mending_best, .int 0])), (h_mending_steps, .inl (cR, 4, .inr (.inr (.inr (.inr (fun j => some (h_mending_steps_r j))))))), ((h_mending_steps_r 0), .inr (3, [.ref (h_mending_steps_a 0)])), ((h_mending_steps_a 0), .inl (cI, 352, .inl row0)), ((h_mending_steps_r 1), .inr (3, [.ref (h_mending_steps_a 1)])), ((h_mending_steps_a 1), .inl (cI, 352, .inl row0)), ((h_mending_steps_r 2), .inr (3, [.ref (h_mending_steps_a 2)])), ((h_mending_steps_a 2), .inl (cI, 352, .inl row0)), ((h_mending_steps_r 3), .inr (3, [.ref (h_mending_steps_a 3)])), ((h_mending_steps_a 3), .inl (cI, 352, .inl row0)), (h_mending_tried, .inl (cI, 4, .inl (fun _ => 0))), (h_mending_best, .inl (cI, 4, .inl (fun _ => 0))), (h_past, .inr (0, [.ref h_past_states, .int 0, .int 0])), (h_past_states, .inl (cR, 5, .inr (.inr (.inr (.inr (fun j => some (h_past_states_r j))))))), ((h_past_states_r 0), .inr (3, [.ref (h_past_states_a 0)])), ((h_past_states_a 0), .inl (cI, 352, .inl row0)), ((h_past_states_r 1), .inr (3, [.ref (h_past_states_a 1)])), ((h_past_states_a 1), .inl (cI, 352, .inl row0)), ((h_past_states_r 2), .inr (3, [.ref (h_past_states_a 2)])), ((h_past_states_a 2), .inl (cI, 352, .inl row0)), ((h_past_states_r 3), .inr (3, [.ref (h_past_states_a 3)])), ((h_past_states_a 3), .inl (cI, 352, .inl row0)), ((h_past_states_r 4), .inr (3, [.ref (h_past_states_a 4)])), ((h_past_states_a 4), .inl (cI, 352, .inl row0)), (h_text, .inr (2, [.ref h_text_signs, .ref h_text_numbers, .int 0, .int 0, .int 0, .int 0, .int 0])), (h_text_signs, .inl (cI, 60, .inl (fun _ => 0))), (h_text_numbers, .inl (cI, 3, .inl (fun _ => 0)))]) [0, 1, 2, 3, 4, 5, 6, 7, 8, 9, 10, 11, 12, 13, 14, 15, 16, 17, 18, 19, 20, 21, 22, 23, 24, 25, 26, 27, 28, 29, 30, 31, 32] rfl rfl ?_
  refine G_astore_n X (lv' := [(1, .ref h), (0, .ref b)]) dL_law_7 (by decide) rfl ?_
  have hI : LInv 0 bb [] g 0 0 (fun _ => row0) := ⟨hT, hG, ⟨Nat.zero_le _, rfl, 0, by decide, rfl, fun k c z => by cases z⟩, fun c hc => absurd hc List.not_mem_nil⟩
  have hz := law_ok (zs := xs) hL hI row0 0 row0 row0 row0 row0 (fun _ => 0) (fun _ => 0) 0 0 0 0 (fun _ => 0) (fun _ => 0)
  exact law_walk X hX hbl hbA h h_now h_trial h_survey h_mending h_past h_text h_now_numbers h_trial_numbers h_mending_steps h_mending_tried h_mending_best h_past_states h_text_signs h_text_numbers h_mending_steps_r h_mending_steps_a h_past_states_r h_past_states_a g row0 0 row0 row0 row0 row0 (fun _ => 0) (fun _ => 0) 0 0 (fun _ => row0) 0 0 0 0 0 (fun _ => 0) (fun _ => 0) 1 rt hz
