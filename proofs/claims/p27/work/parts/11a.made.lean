/-! what is made -/
def cMA (l : Launch) (y : MethodName) (cws : List Cond) (rm : Room) (mc ms : Nat) (D : va_G) (cI cR : ClassId) (av : List Value) (w : va_W) (post : va_W → Prop) : Prop :=
  ∀ sz : Nat, Met l y cws rm (va_Pc av (fun U => pB D cI cR w sz U ∧ va_AO RX3 U)) (va_Qv post (qB D (va_A w sz)) (va_A w sz)) mc ms (va_A w sz)
section MADE2
variable {p : Program} {l : Launch} {e : Env} {R : Room} {s : State} {m : MethodId} {args : Array Value} {below : List Frame} {meth : Method} {c : Code} {Q : State → Prop} {cc : ByteArray} {nL : Nat} {Ts : List Cond} {own : String} {D : va_G} {cI cR : ClassId} {A : Nat → Prop} {k n pc : Nat} {lv : List (Nat × Value)} {st : List Value} {ws : va_W}
theorem kA_of {y : MethodName} {cws cws' : List Cond} {rm : Room} {mc ms maxL : Nat} {av : List Value} {w : va_W} {post : va_W → Prop} {lv0 : List (Nat × Value)} (hy : plainFor y = true) (hw : cws = Cond.code y cc maxL none :: cws') (ho : y.cls = own) (hi : y.name = "<init>") (hz : (lg_sl av).length ≤ maxL) (hlv : lv_args 0 av = lv0)
    (body : ∀ p e s m args below meth c A Q, gX p l e rm s m args below meth c cc maxL cws own D cI cR A → va_AO RX3 s → meth.name = "<init>" → (∀ (pc : Nat) (lv : List (Nat × Value)) (ws : va_W), decode cc pc = .ok (.return_, 1) → post ws → G p l e rm s m args below meth c D A maxL Q mc ms pc lv [] ws) → G p l e rm s m args below meth c D A maxL Q 0 0 0 lv0 [] w) : cMA l y cws rm mc ms D cI cR av w post := by
  intro sz
  refine ofWF (cc := cc) (maxL := maxL) (ret := none) hy hw ?_
  intro p e s m args below meth c s₁ B hml hv
  obtain ⟨ha, ⟨hsz, hP, hK, hD0⟩, hAO⟩ := hv
  subst hsz
  subst ha
  subst ho
  have X : gX p l e (headSpec cws rm).room s m av.toArray below meth c cc maxL cws y.cls D cI cR (va_A w s.heap.size) := ⟨⟨B.exec, B.bytes, hml, findClass_of_methodNamed B.named, atoms_spec (ws := cws) B.pre⟩, hK, fun q h => Or.inr h, B.notSynchronized, rfl, rfl, rfl, rfl⟩
  have hin : meth.name = "<init>" := (name_of_methodNamed B.named B.method).1.trans hi
  have g := body p e s m av.toArray below meth c (va_A w s.heap.size) _ X hAO hin (fun pc lv ws hd hp => G_vret X B.returns hd hp)
  have hl := lv_entry av (n := maxL) hz
  rw [lg_entry_eq]
  rw [hlv] at hl
  exact g _ _ _ hl hP hD0.self va_S.rf
theorem G_newr2 (X : gX p l e R s m args below meth c cc nL Ts own D cI cR A) (hAO : va_AO RX3 s) {v : Int32} {N k' n' index : Nat} (hd : decode cc pc = .ok (.anewarray index, 3)) (hcl : Cond.classLink own index RX3 ∈ Ts) (hv : ¬ v < 0) (hN : v.toNatClampNeg = N) (hb : N * 4 ≤ 536870912) (hk : k + 1 = k') (hn : n + N = n') (hc : k' ≤ R.cells) (hs : n' ≤ R.slots) (kk : ∀ q : Nat, G p l e R s m args below meth c D A nL Q k' n' (pc + 3) lv (.ref q :: st) (ws ++ [(q, .inl (cR, N, .inr (.inr (.inr (.inr (fun _ => none))))))])) : G p l e R s m args below meth c D A nL Q k n pc lv (.int v :: st) ws := by
  subst hk
  subst hn
  intro ls H locs hl hP hD hS
  refine va_newq X.1.1 X.1.2.1 X.1.2.2.2.1 (X.1.2.2.2.2 _ hcl) hAO X.2.1 hP hD hS X.2.2.1 hv hN hb hc hs hd (fun q cA H1 hK1 hP1 hD1 hS1 => ?_)
  obtain ⟨kA1, c1, -, -, -, e1⟩ := (X.2.1.2 1 (cR, .object RX3) rfl).2
  obtain ⟨kA2, c2, -, -, -, e2⟩ := (hK1.2 2 (cA, .object RX3) rfl).2
  rw [e1] at e2
  obtain rfl := Option.some.inj e2
  exact kk q ls H1 locs hl hP1 hD1 hS1
theorem G_blindA {av : List Value} {w : va_W} {sz : Nat} : FrameBlind (va_Pc av (fun U => pB D cI cR w sz U ∧ va_AO RX3 U)) := fun a U g mk q => by
  obtain ⟨q0, ⟨q1, qP, qK, qD⟩, qA⟩ := q
  exact ⟨q0, ⟨q1, qP, va_K.moved (u := U) (U := U.calling g mk a) (Vm.Alike.refl U.vm) qK, qD⟩, va_AO.moved (u := U) (U := U.calling g mk a) (Vm.Alike.refl U.vm) qA⟩
theorem G_callA (X : gX p l e R s m args below meth c cc nL Ts own D cI cR A) (hAO : va_AO RX3 s) {y : MethodName} {cws : List Cond} {rm : Room} {b : Nat} {As rest : List Value} {wc wr : va_W} {post : va_W → Prop} {bytes : ByteArray} {maxL nA idx mc ms k' n' : Nat} (hd : decode cc pc = .ok (.invokespecial idx, 3)) (hk : ∃ ws', cws = Cond.code y bytes maxL none :: ws') (hy : y.name = "<init>") (hyc : y.cls ≠ "java/lang/invoke/MethodHandle" ∧ y.cls ≠ "java/lang/invoke/VarHandle" ∧ (parseMethodDescriptor y.desc).map (fun d => d.parameters.length) = some nA) (hG : GoodIn Ts cws) (hini : Cond.initialized y.cls ∈ Ts) (hli : Cond.methodLink own idx y ∈ Ts) (hin : Cond.instanceMethod y ∈ Ts)
    (hM : cMA l y cws rm mc ms D cI cR (.ref b :: As) wc post) (hrm : rm.cells = mc ∧ rm.slots = ms) (hR : rm.frames + 1 ≤ R.frames ∧ 8 + (maxL + 11) + rm.locals ≤ R.locals) (hst : st = As.reverse ++ .ref b :: rest) (hn : As.length = nA) (hW : (rest.map fun v => v.category).sum ≤ 8)
    (isC isR : List Nat) (hC : isC.map (fun i => ws[i]?) = wc.map some) (hRr : isR.map (fun i => ws[i]?) = wr.map some) (hnd : va_nd isC = true ∧ va_nd isR = true ∧ ∀ i ∈ isR, i ∉ isC) (hkk : k + mc = k') (hnn : n + ms = n') (hf : k' ≤ R.cells ∧ n' ≤ R.slots)
    (kk : ∀ (u : va_W), post u → G p l e R s m args below meth c D A nL Q k' n' (pc + 3) lv rest (wr ++ u)) : G p l e R s m args below meth c D A nL Q k n pc lv st ws := by
  subst hkk
  subst hnn
  intro ls H locs hl hP hD hS
  obtain ⟨ws', hw⟩ := hk
  have hPc := hP.sub isC (map_fm hC)
  have hDc := hD.sub isC hnd.1 hC
  have hFc := va_free (wc := wc) hD hS X.2.2.1 isC hC
  have hts := X.1.2.2.2.2
  refine va_callv (va_runI (As := As) (rest := rest) X.1 (hM H.size) ⟨callB_of nA hts hG hw hrm.1 hrm.2 (hts _ hini) (hts _ hli) hyc hR, hy, hts _ hin⟩ ⟨G_blindA, fun U hU hW => ⟨rfl, ⟨by rw [hU], by rw [hU]; exact hPc, va_K.moved hW.alike X.2.1, hDc.weaken (fun _ _ _ _ => trivial)⟩, va_AO.moved hW.alike hAO⟩⟩ rfl hn hl.1 hst (lv_room hW) hd hf) hS (fun q _ h => hFc q h) hFc (fun u t H1 locs1 ht hvm hw2 hB hz1 hk1 hS1 => ?_)
  obtain ⟨hP1, hD1⟩ := hB
  rw [ht] at hP1
  obtain ⟨hP2, hD2⟩ := va_join (wr := wr) (w1 := u) hP hD isC isR hC hRr hnd.2.1 hnd.2.2 hk1 hFc hP1 hD1
  exact kk u hw2 ls H1 locs1 hl hP2 hD2 hS1
end MADE2
def rmKX3_init : Room := { frames := 1, cells := 1, slots := 352, locals := 12 }
theorem hiX3_init_X3 : ∀ w ∈ wsX30, w ∈ wsX3_init := by decide +kernel
theorem flX3_init_w0 : Cond.methodLink RX3 5 objectInit ∈ wsX3_init := by decide +kernel
theorem flX3_init_w1 : Cond.instanceMethod objectInit ∈ wsX3_init := by decide +kernel
theorem flX3_init_w2 : Cond.code objectInit ⟨#[0xb1]⟩ 1 none ∈ wsX3_init := by decide +kernel
theorem flX3_init_w3 : Cond.arrayClass .int ∈ wsX3_init := by decide +kernel
theorem flX3_init_w4 : Cond.fieldLink RX3 11 "EchoMargins$Ring" "numbers" "[I" ∈ wsX3_init := by decide +kernel
set_option maxHeartbeats 8000000 in
set_option maxRecDepth 100000 in
theorem kkKX3_init (l : Launch) (D : va_G) (cI cR : ClassId) (h : Nat) : cMv l yX3_init wsX3_init rmKX3_init 1 352 D cI cR [.ref h] [(h, .inr (3, [.null]))] (fun u => ∃ (q : Nat), u = [(h, .inr (3, [.ref q])), (q, .inl (cI, 352, .inl row0))]) := by
  refine kC_of (cc := cX3_init) (maxL := 1) (own := RX3) (by decide +kernel) rfl rfl rfl (Nat.le_of_ble_eq_true rfl) (lv0 := [(0, .ref h)]) rfl (fun p e s m args below meth c A Q X hmi rt => ?_)
  refine G_aload_n X dX3_init_0 0 rfl ?_
  refine G_objInit X dX3_init_1 flX3_init_w0 flX3_init_w1 flX3_init_w2 (Nat.le_of_ble_eq_true rfl) (Nat.le_of_ble_eq_true rfl) ?_
  refine G_aload_n X dX3_init_4 0 rfl ?_
  refine G_sipush X (v := 352) dX3_init_5 (by decide) ?_
  refine G_newi X (N := 352) (k' := 1) (n' := 352) dX3_init_8 flX3_init_w3 (by decide) (by decide) (Nat.le_of_ble_eq_true rfl) rfl rfl (Nat.le_of_ble_eq_true rfl) (Nat.le_of_ble_eq_true rfl) (fun q1 => ?_)
  refine G_putF X hmi (i0 := 0) (ci := 3) (j := 0) (C := RX3) (ref := RX3) (T := TX3) (N := 1) (ty := (.array .int)) (ws' := [(h, .inr (3, [.ref q1])), (q1, .inl (cI, 352, .inl (fun _ => 0)))]) tyX3 dX3_init_10 rfl rfl hiX3_init_X3 tyX3_ok nmX3 (by decide) flX3_init_w4 rfl rfl rfl rfl rfl rfl (Nat.le_of_ble_eq_true rfl) rfl ?_
  refine G_aload_n X dX3_init_13 0 rfl ?_
  refine G_get X (i0 := 0) (ci := 3) (j := 0) (C := RX3) (ref := RX3) (T := TX3) (N := 1) dX3_init_14 rfl rfl hiX3_init_X3 (by decide) flX3_init_w4 rfl rfl ?_
  refine G_iconst X (v := 2) dX3_init_17 (by decide) ?_
  refine G_bipush X (v := 8) dX3_init_18 (by decide) ?_
  refine G_iast X (i0 := 1) (ws' := [(h, .inr (3, [.ref q1])), (q1, .inl (cI, 352, .inl (upd (fun _ => 0) 2 8)))]) dX3_init_20 rfl (show stA 352 (fun _ => 0) 2 8 = some (upd (fun _ => 0) 2 8) from stA_nI (i := 2) _ (by decide) (by decide)) rfl ?_
  refine G_aload_n X dX3_init_21 0 rfl ?_
  refine G_get X (i0 := 0) (ci := 3) (j := 0) (C := RX3) (ref := RX3) (T := TX3) (N := 1) dX3_init_22 rfl rfl hiX3_init_X3 (by decide) flX3_init_w4 rfl rfl ?_
  refine G_iconst X (v := 3) dX3_init_25 (by decide) ?_
  refine G_bipush X (v := 20) dX3_init_26 (by decide) ?_
  refine G_iast X (i0 := 1) (ws' := [(h, .inr (3, [.ref q1])), (q1, .inl (cI, 352, .inl (upd (upd (fun _ => 0) 2 8) 3 20)))]) dX3_init_28 rfl (show stA 352 (upd (fun _ => 0) 2 8) 3 20 = some (upd (upd (fun _ => 0) 2 8) 3 20) from stA_nI (i := 3) _ (by decide) (by decide)) rfl ?_
  exact rt _ _ _ dX3_init_29 ⟨_, rfl⟩
def rmKX4_init : Room := { frames := 1, cells := 0, slots := 0, locals := 12 }
theorem hiX4_init_X4 : ∀ w ∈ wsX40, w ∈ wsX4_init := by decide +kernel
theorem flX4_init_w0 : Cond.methodLink RX4 3 objectInit ∈ wsX4_init := by decide +kernel
theorem flX4_init_w1 : Cond.instanceMethod objectInit ∈ wsX4_init := by decide +kernel
theorem flX4_init_w2 : Cond.code objectInit ⟨#[0xb1]⟩ 1 none ∈ wsX4_init := by decide +kernel
theorem flX4_init_w3 : Cond.fieldLink RX4 9 "EchoMargins$Survey" "ring" "LEchoMargins$Ring;" ∈ wsX4_init := by decide +kernel
set_option maxHeartbeats 8000000 in
set_option maxRecDepth 100000 in
theorem kkKX4_init (l : Launch) (D : va_G) (cI cR : ClassId) (h : Nat) (a0 : Nat) : cMv l yX4_init wsX4_init rmKX4_init 0 0 D cI cR [.ref h, .ref a0] [(h, .inr (4, [.null]))] (fun u => u = [(h, .inr (4, [.ref a0]))]) := by
  refine kC_of (cc := cX4_init) (maxL := 2) (own := RX4) (by decide +kernel) rfl rfl rfl (Nat.le_of_ble_eq_true rfl) (lv0 := [(0, .ref h), (1, .ref a0)]) rfl (fun p e s m args below meth c A Q X hmi rt => ?_)
  refine G_aload_n X dX4_init_0 0 rfl ?_
  refine G_objInit X dX4_init_1 flX4_init_w0 flX4_init_w1 flX4_init_w2 (Nat.le_of_ble_eq_true rfl) (Nat.le_of_ble_eq_true rfl) ?_
  refine G_aload_n X dX4_init_4 0 rfl ?_
  refine G_aload_n X dX4_init_5 1 rfl ?_
  refine G_putF X hmi (i0 := 0) (ci := 4) (j := 0) (C := RX4) (ref := RX4) (T := TX4) (N := 1) (ty := (.object RX3)) (ws' := [(h, .inr (4, [.ref a0]))]) tyX4 dX4_init_6 rfl rfl hiX4_init_X4 tyX4_ok nmX4 (by decide) flX4_init_w3 rfl rfl rfl rfl rfl rfl (Nat.le_of_ble_eq_true rfl) rfl ?_
  exact rt _ _ _ dX4_init_9 rfl
def rmKX2_init : Room := { frames := 1, cells := 2, slots := 63, locals := 12 }
theorem hiX2_init_X2 : ∀ w ∈ wsX20, w ∈ wsX2_init := by decide +kernel
theorem flX2_init_w0 : Cond.methodLink RX2 3 objectInit ∈ wsX2_init := by decide +kernel
theorem flX2_init_w1 : Cond.instanceMethod objectInit ∈ wsX2_init := by decide +kernel
theorem flX2_init_w2 : Cond.code objectInit ⟨#[0xb1]⟩ 1 none ∈ wsX2_init := by decide +kernel
theorem flX2_init_w3 : Cond.arrayClass .int ∈ wsX2_init := by decide +kernel
theorem flX2_init_w4 : Cond.fieldLink RX2 11 "EchoMargins$Orders" "signs" "[I" ∈ wsX2_init := by decide +kernel
theorem flX2_init_w5 : Cond.fieldLink RX2 15 "EchoMargins$Orders" "numbers" "[I" ∈ wsX2_init := by decide +kernel
theorem flX2_init_w6 : Cond.fieldLink RX2 18 "EchoMargins$Orders" "length" "I" ∈ wsX2_init := by decide +kernel
theorem flX2_init_w7 : Cond.fieldLink RX2 22 "EchoMargins$Orders" "at" "I" ∈ wsX2_init := by decide +kernel
theorem flX2_init_w8 : Cond.fieldLink RX2 25 "EchoMargins$Orders" "faultPosition" "I" ∈ wsX2_init := by decide +kernel
theorem flX2_init_w9 : Cond.fieldLink RX2 28 "EchoMargins$Orders" "faultReason" "I" ∈ wsX2_init := by decide +kernel
theorem flX2_init_w10 : Cond.fieldLink RX2 31 "EchoMargins$Orders" "faultCause" "I" ∈ wsX2_init := by decide +kernel
set_option maxHeartbeats 8000000 in
set_option maxRecDepth 100000 in
theorem kkKX2_init (l : Launch) (D : va_G) (cI cR : ClassId) (h : Nat) : cMv l yX2_init wsX2_init rmKX2_init 2 63 D cI cR [.ref h] [(h, .inr (2, [.null, .null, .int 0, .int 0, .int 0, .int 0, .int 0]))] (fun u => ∃ (q1 q2 : Nat), u = [(h, .inr (2, [.ref q1, .ref q2, .int 0, .int 0, .int 0, .int 0, .int 0])), (q1, .inl (cI, 60, .inl (fun _ => 0))), (q2, .inl (cI, 3, .inl (fun _ => 0)))]) := by
  refine kC_of (cc := cX2_init) (maxL := 1) (own := RX2) (by decide +kernel) rfl rfl rfl (Nat.le_of_ble_eq_true rfl) (lv0 := [(0, .ref h)]) rfl (fun p e s m args below meth c A Q X hmi rt => ?_)
  refine G_aload_n X dX2_init_0 0 rfl ?_
  refine G_objInit X dX2_init_1 flX2_init_w0 flX2_init_w1 flX2_init_w2 (Nat.le_of_ble_eq_true rfl) (Nat.le_of_ble_eq_true rfl) ?_
  refine G_aload_n X dX2_init_4 0 rfl ?_
  refine G_bipush X (v := 60) dX2_init_5 (by decide) ?_
  refine G_newi X (N := 60) (k' := 1) (n' := 60) dX2_init_7 flX2_init_w3 (by decide) (by decide) (Nat.le_of_ble_eq_true rfl) rfl rfl (Nat.le_of_ble_eq_true rfl) (Nat.le_of_ble_eq_true rfl) (fun q1 => ?_)
  refine G_putF X hmi (i0 := 0) (ci := 2) (j := 0) (C := RX2) (ref := RX2) (T := TX2) (N := 7) (ty := (.array .int)) (ws' := [(h, .inr (2, [.ref q1, .null, .int 0, .int 0, .int 0, .int 0, .int 0])), (q1, .inl (cI, 60, .inl (fun _ => 0)))]) tyX2 dX2_init_9 rfl rfl hiX2_init_X2 tyX2_ok nmX2 (by decide) flX2_init_w4 rfl rfl rfl rfl rfl rfl (Nat.le_of_ble_eq_true rfl) rfl ?_
  refine G_aload_n X dX2_init_12 0 rfl ?_
  refine G_iconst X (v := 3) dX2_init_13 (by decide) ?_
  refine G_newi X (N := 3) (k' := 2) (n' := 63) dX2_init_14 flX2_init_w3 (by decide) (by decide) (Nat.le_of_ble_eq_true rfl) rfl rfl (Nat.le_of_ble_eq_true rfl) (Nat.le_of_ble_eq_true rfl) (fun q2 => ?_)
  refine G_putF X hmi (i0 := 0) (ci := 2) (j := 1) (C := RX2) (ref := RX2) (T := TX2) (N := 7) (ty := (.array .int)) (ws' := [(h, .inr (2, [.ref q1, .ref q2, .int 0, .int 0, .int 0, .int 0, .int 0])), (q1, .inl (cI, 60, .inl (fun _ => 0))), (q2, .inl (cI, 3, .inl (fun _ => 0)))]) tyX2 dX2_init_16 rfl rfl hiX2_init_X2 tyX2_ok nmX2 (by decide) flX2_init_w5 rfl rfl rfl rfl rfl rfl (Nat.le_of_ble_eq_true rfl) rfl ?_
  refine G_aload_n X dX2_init_19 0 rfl ?_
  refine G_iconst X (v := 0) dX2_init_20 (by decide) ?_
  refine G_put X (i0 := 0) (ci := 2) (j := 2) (C := RX2) (ref := RX2) (T := TX2) (N := 7) (ty := .int) (ws' := [(h, .inr (2, [.ref q1, .ref q2, .int 0, .int 0, .int 0, .int 0, .int 0])), (q1, .inl (cI, 60, .inl (fun _ => 0))), (q2, .inl (cI, 3, .inl (fun _ => 0)))]) tyX2 dX2_init_21 rfl rfl hiX2_init_X2 tyX2_ok nmX2 (by decide) flX2_init_w6 rfl rfl rfl rfl rfl (Nat.le_of_ble_eq_true rfl) rfl ?_
  refine G_aload_n X dX2_init_24 0 rfl ?_
  refine G_iconst X (v := 0) dX2_init_25 (by decide) ?_
  refine G_put X (i0 := 0) (ci := 2) (j := 3) (C := RX2) (ref := RX2) (T := TX2) (N := 7) (ty := .int) (ws' := [(h, .inr (2, [.ref q1, .ref q2, .int 0, .int 0, .int 0, .int 0, .int 0])), (q1, .inl (cI, 60, .inl (fun _ => 0))), (q2, .inl (cI, 3, .inl (fun _ => 0)))]) tyX2 dX2_init_26 rfl rfl hiX2_init_X2 tyX2_ok nmX2 (by decide) flX2_init_w7 rfl rfl rfl rfl rfl (Nat.le_of_ble_eq_true rfl) rfl ?_
  refine G_aload_n X dX2_init_29 0 rfl ?_
  refine G_iconst X (v := 0) dX2_init_30 (by decide) ?_
  refine G_put X (i0 := 0) (ci := 2) (j := 4) (C := RX2) (ref := RX2) (T := TX2) (N := 7) (ty := .int) (ws' := [(h, .inr (2, [.ref q1, .ref q2, .int 0, .int 0, .int 0, .int 0, .int 0])), (q1, .inl (cI, 60, .inl (fun _ => 0))), (q2, .inl (cI, 3, .inl (fun _ => 0)))]) tyX2 dX2_init_31 rfl rfl hiX2_init_X2 tyX2_ok nmX2 (by decide) flX2_init_w8 rfl rfl rfl rfl rfl (Nat.le_of_ble_eq_true rfl) rfl ?_
  refine G_aload_n X dX2_init_34 0 rfl ?_
  refine G_iconst X (v := 0) dX2_init_35 (by decide) ?_
  refine G_put X (i0 := 0) (ci := 2) (j := 5) (C := RX2) (ref := RX2) (T := TX2) (N := 7) (ty := .int) (ws' := [(h, .inr (2, [.ref q1, .ref q2, .int 0, .int 0, .int 0, .int 0, .int 0])), (q1, .inl (cI, 60, .inl (fun _ => 0))), (q2, .inl (cI, 3, .inl (fun _ => 0)))]) tyX2 dX2_init_36 rfl rfl hiX2_init_X2 tyX2_ok nmX2 (by decide) flX2_init_w9 rfl rfl rfl rfl rfl (Nat.le_of_ble_eq_true rfl) rfl ?_
  refine G_aload_n X dX2_init_39 0 rfl ?_
  refine G_iconst X (v := 0) dX2_init_40 (by decide) ?_
  refine G_put X (i0 := 0) (ci := 2) (j := 6) (C := RX2) (ref := RX2) (T := TX2) (N := 7) (ty := .int) (ws' := [(h, .inr (2, [.ref q1, .ref q2, .int 0, .int 0, .int 0, .int 0, .int 0])), (q1, .inl (cI, 60, .inl (fun _ => 0))), (q2, .inl (cI, 3, .inl (fun _ => 0)))]) tyX2 dX2_init_41 rfl rfl hiX2_init_X2 tyX2_ok nmX2 (by decide) flX2_init_w10 rfl rfl rfl rfl rfl (Nat.le_of_ble_eq_true rfl) rfl ?_
  exact rt _ _ _ dX2_init_44 ⟨_, _, rfl⟩
def rmKX1_init : Room := { frames := 2, cells := 11, slots := 1424, locals := 32 }
theorem hiX1_init_X1 : ∀ w ∈ wsX10, w ∈ wsX1_init := by decide +kernel
theorem hiX1_init_X3 : ∀ w ∈ wsX30, w ∈ wsX1_init := by decide +kernel
theorem flX1_init_w0 : Cond.methodLink RX1 3 objectInit ∈ wsX1_init := by decide +kernel
theorem flX1_init_w1 : Cond.instanceMethod objectInit ∈ wsX1_init := by decide +kernel
theorem flX1_init_w2 : Cond.code objectInit ⟨#[0xb1]⟩ 1 none ∈ wsX1_init := by decide +kernel
theorem flX1_init_w3 : Cond.classLink RX1 11 RX3 ∈ wsX1_init := by decide +kernel
theorem flX1_init_w4 : Cond.fieldLink RX1 13 "EchoMargins$Mending" "steps" "[LEchoMargins$Ring;" ∈ wsX1_init := by decide +kernel
theorem flX1_init_w5 : Cond.instantiable RX3 1 ∈ wsX1_init := by decide +kernel
theorem flX1_init_w6 : Cond.initialized RX3 ∈ wsX1_init := by decide +kernel
theorem flX1_init_w7 : Cond.methodLink RX1 17 yX3_init ∈ wsX1_init := by decide +kernel
theorem flX1_init_w8 : Cond.instanceMethod yX3_init ∈ wsX1_init := by decide +kernel
theorem flX1_init_w9 : Cond.arrayClass .int ∈ wsX1_init := by decide +kernel
theorem flX1_init_w10 : Cond.fieldLink RX1 18 "EchoMargins$Mending" "tried" "[I" ∈ wsX1_init := by decide +kernel
theorem flX1_init_w11 : Cond.fieldLink RX1 22 "EchoMargins$Mending" "best" "[I" ∈ wsX1_init := by decide +kernel
theorem flX1_init_w12 : Cond.fieldLink RX1 25 "EchoMargins$Mending" "sum" "I" ∈ wsX1_init := by decide +kernel
set_option maxHeartbeats 8000000 in
set_option maxRecDepth 100000 in
theorem kkKX1_init (l : Launch) (D : va_G) (cI cR : ClassId) (h : Nat) : cMA l yX1_init wsX1_init rmKX1_init 11 1424 D cI cR [.ref h] [(h, .inr (1, [.null, .null, .null, .int 0]))] (fun u => ∃ (S : Nat) (S_r S_a : Nat → Nat) (t b : Nat), u = [(h, .inr (1, [.ref S, .ref t, .ref b, .int 0])), (S, .inl (cR, 4, .inr (.inr (.inr (.inr (fun j => some (S_r j))))))), ((S_r 0), .inr (3, [.ref (S_a 0)])), ((S_a 0), .inl (cI, 352, .inl row0)), ((S_r 1), .inr (3, [.ref (S_a 1)])), ((S_a 1), .inl (cI, 352, .inl row0)), ((S_r 2), .inr (3, [.ref (S_a 2)])), ((S_a 2), .inl (cI, 352, .inl row0)), ((S_r 3), .inr (3, [.ref (S_a 3)])), ((S_a 3), .inl (cI, 352, .inl row0)), (t, .inl (cI, 4, .inl (fun _ => 0))), (b, .inl (cI, 4, .inl (fun _ => 0)))]) := by
  refine kA_of (cc := cX1_init) (maxL := 2) (own := RX1) (by decide +kernel) rfl rfl rfl (Nat.le_of_ble_eq_true rfl) (lv0 := [(0, .ref h)]) rfl (fun p e s m args below meth c A Q X hAO hmi rt => ?_)
  refine G_aload_n X dX1_init_0 0 rfl ?_
  refine G_objInit X dX1_init_1 flX1_init_w0 flX1_init_w1 flX1_init_w2 (Nat.le_of_ble_eq_true rfl) (Nat.le_of_ble_eq_true rfl) ?_
  refine G_aload_n X dX1_init_4 0 rfl ?_
  refine G_iconst X (v := 4) dX1_init_5 (by decide) ?_
  refine G_newr2 X hAO (N := 4) (k' := 1) (n' := 4) dX1_init_6 flX1_init_w3 (by decide) (by decide) (Nat.le_of_ble_eq_true rfl) rfl rfl (Nat.le_of_ble_eq_true rfl) (Nat.le_of_ble_eq_true rfl) (fun q1 => ?_)
  refine G_putF X hmi (i0 := 0) (ci := 1) (j := 0) (C := RX1) (ref := RX1) (T := TX1) (N := 4) (ty := (.array (.object RX3))) (ws' := [(h, .inr (1, [.ref q1, .null, .null, .int 0])), (q1, .inl (cR, 4, .inr (.inr (.inr (.inr (fun _ => none))))))]) tyX1 dX1_init_9 rfl rfl hiX1_init_X1 tyX1_ok nmX1 (by decide) flX1_init_w4 rfl rfl rfl rfl rfl rfl (Nat.le_of_ble_eq_true rfl) rfl ?_
  refine G_iconst X (v := 0) dX1_init_12 (by decide) ?_
  refine G_istore_n X (lv' := [(1, .int 0), (0, .ref h)]) dX1_init_13 (by decide) rfl ?_
  refine G_iload_n X dX1_init_14 0 rfl ?_
  refine G_iconst X (v := 4) dX1_init_15 (by decide) ?_
  refine G_icmp_ge X (tgt := 38) dX1_init_16 (by decide) (fun q => absurd q (show ¬ (4 : Int32) ≤ 0 by decide)) (fun _ => ?_)
  refine G_aload_n X dX1_init_19 1 rfl ?_
  refine G_get X (i0 := 0) (ci := 1) (j := 0) (C := RX1) (ref := RX1) (T := TX1) (N := 4) dX1_init_20 rfl rfl hiX1_init_X1 (by decide) flX1_init_w4 rfl rfl ?_
  refine G_iload_n X dX1_init_23 0 rfl ?_
  refine G_newo X (C := RX3) (T := TX3) (N := 1) (ci := 3) (k' := 2) (n' := 5) (fs := [.null]) tyX3 dX1_init_24 hiX1_init_X3 tyX3_ok flX1_init_w3 flX1_init_w5 flX1_init_w6 rfl (fun j z => match j, z with | 0, _ => rfl | (k + 1), z => absurd z (by omega)) rfl rfl (Nat.le_of_ble_eq_true rfl) (Nat.le_of_ble_eq_true rfl) (fun q2 => ?_)
  refine G_dup X dX1_init_27 rfl ?_
  refine G_callI X (nA := 0) (y := yX3_init) (cws := wsX3_init) (As := []) (rest := [.ref q2, .int 0, .ref q1]) (wc := [(q2, .inr (3, [.null]))]) (wr := [(h, .inr (1, [.ref q1, .null, .null, .int 0])), (q1, .inl (cR, 4, .inr (.inr (.inr (.inr (fun _ => none))))))]) (k' := 3) (n' := 357) dX1_init_28 ⟨_, rfl⟩ rfl (by decide +kernel) gX1_init_X3_init flX1_init_w6 flX1_init_w7 flX1_init_w8 (kkKX3_init l D cI cR q2) ⟨rfl, rfl⟩ ⟨(Nat.le_of_ble_eq_true rfl), (Nat.le_of_ble_eq_true rfl)⟩ rfl rfl (Nat.le_of_ble_eq_true rfl) [2] [0, 1] rfl rfl ⟨rfl, rfl, by decide⟩ rfl rfl ⟨(Nat.le_of_ble_eq_true rfl), (Nat.le_of_ble_eq_true rfl)⟩ (fun u17 u17h => ?_)
  obtain ⟨q3, rfl⟩ := u17h
  refine G_astq X (i0 := 1) (ik := 2) (ci := 3) (T := TX3) (N := 1) (j := 0) (ws' := [(h, .inr (1, [.ref q1, .null, .null, .int 0])), (q1, .inl (cR, 4, .inr (.inr (.inr (.inr (va_up (fun _ => none) 0 (some q2))))))), (q2, .inr (3, [.ref q3])), (q3, .inl (cI, 352, .inl row0))]) dX1_init_31 rfl rfl rfl (by decide) (by decide) rfl ?_
  refine G_iinc X (v := (0 + 1)) (lv' := [(1, .int (0 + 1)), (0, .ref h)]) dX1_init_32 0 rfl rfl (by decide) rfl ?_
  refine G_goto X (tgt := 14) dX1_init_35 (by decide) ?_
  refine G_iload_n X dX1_init_14 0 rfl ?_
  refine G_iconst X (v := 4) dX1_init_15 (by decide) ?_
  refine G_icmp_ge X (tgt := 38) dX1_init_16 (by decide) (fun q => absurd q (show ¬ (4 : Int32) ≤ (0 + 1) by decide)) (fun _ => ?_)
  refine G_aload_n X dX1_init_19 1 rfl ?_
  refine G_get X (i0 := 0) (ci := 1) (j := 0) (C := RX1) (ref := RX1) (T := TX1) (N := 4) dX1_init_20 rfl rfl hiX1_init_X1 (by decide) flX1_init_w4 rfl rfl ?_
  refine G_iload_n X dX1_init_23 0 rfl ?_
  refine G_newo X (C := RX3) (T := TX3) (N := 1) (ci := 3) (k' := 4) (n' := 358) (fs := [.null]) tyX3 dX1_init_24 hiX1_init_X3 tyX3_ok flX1_init_w3 flX1_init_w5 flX1_init_w6 rfl (fun j z => match j, z with | 0, _ => rfl | (k + 1), z => absurd z (by omega)) rfl rfl (Nat.le_of_ble_eq_true rfl) (Nat.le_of_ble_eq_true rfl) (fun q4 => ?_)
  refine G_dup X dX1_init_27 rfl ?_
  refine G_callI X (nA := 0) (y := yX3_init) (cws := wsX3_init) (As := []) (rest := [.ref q4, .int (0 + 1), .ref q1]) (wc := [(q4, .inr (3, [.null]))]) (wr := [(h, .inr (1, [.ref q1, .null, .null, .int 0])), (q1, .inl (cR, 4, .inr (.inr (.inr (.inr (va_up (fun _ => none) 0 (some q2))))))), (q2, .inr (3, [.ref q3])), (q3, .inl (cI, 352, .inl row0))]) (k' := 5) (n' := 710) dX1_init_28 ⟨_, rfl⟩ rfl (by decide +kernel) gX1_init_X3_init flX1_init_w6 flX1_init_w7 flX1_init_w8 (kkKX3_init l D cI cR q4) ⟨rfl, rfl⟩ ⟨(Nat.le_of_ble_eq_true rfl), (Nat.le_of_ble_eq_true rfl)⟩ rfl rfl (Nat.le_of_ble_eq_true rfl) [4] [0, 1, 2, 3] rfl rfl ⟨rfl, rfl, by decide⟩ rfl rfl ⟨(Nat.le_of_ble_eq_true rfl), (Nat.le_of_ble_eq_true rfl)⟩ (fun u29 u29h => ?_)
  obtain ⟨q5, rfl⟩ := u29h
  refine G_astq X (i0 := 1) (ik := 4) (ci := 3) (T := TX3) (N := 1) (j := 1) (ws' := [(h, .inr (1, [.ref q1, .null, .null, .int 0])), (q1, .inl (cR, 4, .inr (.inr (.inr (.inr (va_up (va_up (fun _ => none) 0 (some q2)) 1 (some q4))))))), (q2, .inr (3, [.ref q3])), (q3, .inl (cI, 352, .inl row0)), (q4, .inr (3, [.ref q5])), (q5, .inl (cI, 352, .inl row0))]) dX1_init_31 rfl rfl rfl (by decide) (by decide) rfl ?_
  refine G_iinc X (v := ((0 + 1) + 1)) (lv' := [(1, .int ((0 + 1) + 1)), (0, .ref h)]) dX1_init_32 0 rfl rfl (by decide) rfl ?_
  refine G_goto X (tgt := 14) dX1_init_35 (by decide) ?_
  refine G_iload_n X dX1_init_14 0 rfl ?_
  refine G_iconst X (v := 4) dX1_init_15 (by decide) ?_
  refine G_icmp_ge X (tgt := 38) dX1_init_16 (by decide) (fun q => absurd q (show ¬ (4 : Int32) ≤ ((0 + 1) + 1) by decide)) (fun _ => ?_)
  refine G_aload_n X dX1_init_19 1 rfl ?_
  refine G_get X (i0 := 0) (ci := 1) (j := 0) (C := RX1) (ref := RX1) (T := TX1) (N := 4) dX1_init_20 rfl rfl hiX1_init_X1 (by decide) flX1_init_w4 rfl rfl ?_
  refine G_iload_n X dX1_init_23 0 rfl ?_
  refine G_newo X (C := RX3) (T := TX3) (N := 1) (ci := 3) (k' := 6) (n' := 711) (fs := [.null]) tyX3 dX1_init_24 hiX1_init_X3 tyX3_ok flX1_init_w3 flX1_init_w5 flX1_init_w6 rfl (fun j z => match j, z with | 0, _ => rfl | (k + 1), z => absurd z (by omega)) rfl rfl (Nat.le_of_ble_eq_true rfl) (Nat.le_of_ble_eq_true rfl) (fun q6 => ?_)
  refine G_dup X dX1_init_27 rfl ?_
  refine G_callI X (nA := 0) (y := yX3_init) (cws := wsX3_init) (As := []) (rest := [.ref q6, .int ((0 + 1) + 1), .ref q1]) (wc := [(q6, .inr (3, [.null]))]) (wr := [(h, .inr (1, [.ref q1, .null, .null, .int 0])), (q1, .inl (cR, 4, .inr (.inr (.inr (.inr (va_up (va_up (fun _ => none) 0 (some q2)) 1 (some q4))))))), (q2, .inr (3, [.ref q3])), (q3, .inl (cI, 352, .inl row0)), (q4, .inr (3, [.ref q5])), (q5, .inl (cI, 352, .inl row0))]) (k' := 7) (n' := 1063) dX1_init_28 ⟨_, rfl⟩ rfl (by decide +kernel) gX1_init_X3_init flX1_init_w6 flX1_init_w7 flX1_init_w8 (kkKX3_init l D cI cR q6) ⟨rfl, rfl⟩ ⟨(Nat.le_of_ble_eq_true rfl), (Nat.le_of_ble_eq_true rfl)⟩ rfl rfl (Nat.le_of_ble_eq_true rfl) [6] [0, 1, 2, 3, 4, 5] rfl rfl ⟨rfl, rfl, by decide⟩ rfl rfl ⟨(Nat.le_of_ble_eq_true rfl), (Nat.le_of_ble_eq_true rfl)⟩ (fun u41 u41h => ?_)
  obtain ⟨q7, rfl⟩ := u41h
  refine G_astq X (i0 := 1) (ik := 6) (ci := 3) (T := TX3) (N := 1) (j := 2) (ws' := [(h, .inr (1, [.ref q1, .null, .null, .int 0])), (q1, .inl (cR, 4, .inr (.inr (.inr (.inr (va_up (va_up (va_up (fun _ => none) 0 (some q2)) 1 (some q4)) 2 (some q6))))))), (q2, .inr (3, [.ref q3])), (q3, .inl (cI, 352, .inl row0)), (q4, .inr (3, [.ref q5])), (q5, .inl (cI, 352, .inl row0)), (q6, .inr (3, [.ref q7])), (q7, .inl (cI, 352, .inl row0))]) dX1_init_31 rfl rfl rfl (by decide) (by decide) rfl ?_
  refine G_iinc X (v := (((0 + 1) + 1) + 1)) (lv' := [(1, .int (((0 + 1) + 1) + 1)), (0, .ref h)]) dX1_init_32 0 rfl rfl (by decide) rfl ?_
  refine G_goto X (tgt := 14) dX1_init_35 (by decide) ?_
  refine G_iload_n X dX1_init_14 0 rfl ?_
  refine G_iconst X (v := 4) dX1_init_15 (by decide) ?_
  refine G_icmp_ge X (tgt := 38) dX1_init_16 (by decide) (fun q => absurd q (show ¬ (4 : Int32) ≤ (((0 + 1) + 1) + 1) by decide)) (fun _ => ?_)
  refine G_aload_n X dX1_init_19 1 rfl ?_
  refine G_get X (i0 := 0) (ci := 1) (j := 0) (C := RX1) (ref := RX1) (T := TX1) (N := 4) dX1_init_20 rfl rfl hiX1_init_X1 (by decide) flX1_init_w4 rfl rfl ?_
  refine G_iload_n X dX1_init_23 0 rfl ?_
  refine G_newo X (C := RX3) (T := TX3) (N := 1) (ci := 3) (k' := 8) (n' := 1064) (fs := [.null]) tyX3 dX1_init_24 hiX1_init_X3 tyX3_ok flX1_init_w3 flX1_init_w5 flX1_init_w6 rfl (fun j z => match j, z with | 0, _ => rfl | (k + 1), z => absurd z (by omega)) rfl rfl (Nat.le_of_ble_eq_true rfl) (Nat.le_of_ble_eq_true rfl) (fun q8 => ?_)
  refine G_dup X dX1_init_27 rfl ?_
  refine G_callI X (nA := 0) (y := yX3_init) (cws := wsX3_init) (As := []) (rest := [.ref q8, .int (((0 + 1) + 1) + 1), .ref q1]) (wc := [(q8, .inr (3, [.null]))]) (wr := [(h, .inr (1, [.ref q1, .null, .null, .int 0])), (q1, .inl (cR, 4, .inr (.inr (.inr (.inr (va_up (va_up (va_up (fun _ => none) 0 (some q2)) 1 (some q4)) 2 (some q6))))))), (q2, .inr (3, [.ref q3])), (q3, .inl (cI, 352, .inl row0)), (q4, .inr (3, [.ref q5])), (q5, .inl (cI, 352, .inl row0)), (q6, .inr (3, [.ref q7])), (q7, .inl (cI, 352, .inl row0))]) (k' := 9) (n' := 1416) dX1_init_28 ⟨_, rfl⟩ rfl (by decide +kernel) gX1_init_X3_init flX1_init_w6 flX1_init_w7 flX1_init_w8 (kkKX3_init l D cI cR q8) ⟨rfl, rfl⟩ ⟨(Nat.le_of_ble_eq_true rfl), (Nat.le_of_ble_eq_true rfl)⟩ rfl rfl (Nat.le_of_ble_eq_true rfl) [8] [0, 1, 2, 3, 4, 5, 6, 7] rfl rfl ⟨rfl, rfl, by decide⟩ rfl rfl ⟨(Nat.le_of_ble_eq_true rfl), (Nat.le_of_ble_eq_true rfl)⟩ (fun u53 u53h => ?_)
  obtain ⟨q9, rfl⟩ := u53h
  refine G_astq X (i0 := 1) (ik := 8) (ci := 3) (T := TX3) (N := 1) (j := 3) (ws' := [(h, .inr (1, [.ref q1, .null, .null, .int 0])), (q1, .inl (cR, 4, .inr (.inr (.inr (.inr (va_up (va_up (va_up (va_up (fun _ => none) 0 (some q2)) 1 (some q4)) 2 (some q6)) 3 (some q8))))))), (q2, .inr (3, [.ref q3])), (q3, .inl (cI, 352, .inl row0)), (q4, .inr (3, [.ref q5])), (q5, .inl (cI, 352, .inl row0)), (q6, .inr (3, [.ref q7])), (q7, .inl (cI, 352, .inl row0)), (q8, .inr (3, [.ref q9])), (q9, .inl (cI, 352, .inl row0))]) dX1_init_31 rfl rfl rfl (by decide) (by decide) rfl ?_
  refine G_iinc X (v := ((((0 + 1) + 1) + 1) + 1)) (lv' := [(1, .int ((((0 + 1) + 1) + 1) + 1)), (0, .ref h)]) dX1_init_32 0 rfl rfl (by decide) rfl ?_
  refine G_goto X (tgt := 14) dX1_init_35 (by decide) ?_
  refine G_iload_n X dX1_init_14 0 rfl ?_
  refine G_iconst X (v := 4) dX1_init_15 (by decide) ?_
  refine G_icmp_ge X (tgt := 38) dX1_init_16 (by decide) (fun _ => ?_) (fun q => absurd (show (4 : Int32) ≤ ((((0 + 1) + 1) + 1) + 1) by decide) q)
  refine G_aload_n X dX1_init_38 1 rfl ?_
  refine G_iconst X (v := 4) dX1_init_39 (by decide) ?_
  refine G_newi X (N := 4) (k' := 10) (n' := 1420) dX1_init_40 flX1_init_w9 (by decide) (by decide) (Nat.le_of_ble_eq_true rfl) rfl rfl (Nat.le_of_ble_eq_true rfl) (Nat.le_of_ble_eq_true rfl) (fun q10 => ?_)
  refine G_putF X hmi (i0 := 0) (ci := 1) (j := 1) (C := RX1) (ref := RX1) (T := TX1) (N := 4) (ty := (.array .int)) (ws' := [(h, .inr (1, [.ref q1, .ref q10, .null, .int 0])), (q1, .inl (cR, 4, .inr (.inr (.inr (.inr (va_up (va_up (va_up (va_up (fun _ => none) 0 (some q2)) 1 (some q4)) 2 (some q6)) 3 (some q8))))))), (q2, .inr (3, [.ref q3])), (q3, .inl (cI, 352, .inl row0)), (q4, .inr (3, [.ref q5])), (q5, .inl (cI, 352, .inl row0)), (q6, .inr (3, [.ref q7])), (q7, .inl (cI, 352, .inl row0)), (q8, .inr (3, [.ref q9])), (q9, .inl (cI, 352, .inl row0)), (q10, .inl (cI, 4, .inl (fun _ => 0)))]) tyX1 dX1_init_42 rfl rfl hiX1_init_X1 tyX1_ok nmX1 (by decide) flX1_init_w10 rfl rfl rfl rfl rfl rfl (Nat.le_of_ble_eq_true rfl) rfl ?_
  refine G_aload_n X dX1_init_45 1 rfl ?_
  refine G_iconst X (v := 4) dX1_init_46 (by decide) ?_
  refine G_newi X (N := 4) (k' := 11) (n' := 1424) dX1_init_47 flX1_init_w9 (by decide) (by decide) (Nat.le_of_ble_eq_true rfl) rfl rfl (Nat.le_of_ble_eq_true rfl) (Nat.le_of_ble_eq_true rfl) (fun q11 => ?_)
  refine G_putF X hmi (i0 := 0) (ci := 1) (j := 2) (C := RX1) (ref := RX1) (T := TX1) (N := 4) (ty := (.array .int)) (ws' := [(h, .inr (1, [.ref q1, .ref q10, .ref q11, .int 0])), (q1, .inl (cR, 4, .inr (.inr (.inr (.inr (va_up (va_up (va_up (va_up (fun _ => none) 0 (some q2)) 1 (some q4)) 2 (some q6)) 3 (some q8))))))), (q2, .inr (3, [.ref q3])), (q3, .inl (cI, 352, .inl row0)), (q4, .inr (3, [.ref q5])), (q5, .inl (cI, 352, .inl row0)), (q6, .inr (3, [.ref q7])), (q7, .inl (cI, 352, .inl row0)), (q8, .inr (3, [.ref q9])), (q9, .inl (cI, 352, .inl row0)), (q10, .inl (cI, 4, .inl (fun _ => 0))), (q11, .inl (cI, 4, .inl (fun _ => 0)))]) tyX1 dX1_init_49 rfl rfl hiX1_init_X1 tyX1_ok nmX1 (by decide) flX1_init_w11 rfl rfl rfl rfl rfl rfl (Nat.le_of_ble_eq_true rfl) rfl ?_
  refine G_aload_n X dX1_init_52 1 rfl ?_
  refine G_iconst X (v := 0) dX1_init_53 (by decide) ?_
  refine G_put X (i0 := 0) (ci := 1) (j := 3) (C := RX1) (ref := RX1) (T := TX1) (N := 4) (ty := .int) (ws' := [(h, .inr (1, [.ref q1, .ref q10, .ref q11, .int 0])), (q1, .inl (cR, 4, .inr (.inr (.inr (.inr (va_up (va_up (va_up (va_up (fun _ => none) 0 (some q2)) 1 (some q4)) 2 (some q6)) 3 (some q8))))))), (q2, .inr (3, [.ref q3])), (q3, .inl (cI, 352, .inl row0)), (q4, .inr (3, [.ref q5])), (q5, .inl (cI, 352, .inl row0)), (q6, .inr (3, [.ref q7])), (q7, .inl (cI, 352, .inl row0)), (q8, .inr (3, [.ref q9])), (q9, .inl (cI, 352, .inl row0)), (q10, .inl (cI, 4, .inl (fun _ => 0))), (q11, .inl (cI, 4, .inl (fun _ => 0)))]) tyX1 dX1_init_54 rfl rfl hiX1_init_X1 tyX1_ok nmX1 (by decide) flX1_init_w12 rfl rfl rfl rfl rfl (Nat.le_of_ble_eq_true rfl) rfl ?_
  refine G_qa (i0 := 1) (g := fun j => some ((fun j => if j = 0 then q2 else if j = 1 then q4 else if j = 2 then q6 else q8) j)) (ws' := [(h, .inr (1, [.ref q1, .ref q10, .ref q11, .int 0])), (q1, .inl (cR, 4, .inr (.inr (.inr (.inr (fun j => some ((fun j => if j = 0 then q2 else if j = 1 then q4 else if j = 2 then q6 else q8) j))))))), (q2, .inr (3, [.ref q3])), (q3, .inl (cI, 352, .inl row0)), (q4, .inr (3, [.ref q5])), (q5, .inl (cI, 352, .inl row0)), (q6, .inr (3, [.ref q7])), (q7, .inl (cI, 352, .inl row0)), (q8, .inr (3, [.ref q9])), (q9, .inl (cI, 352, .inl row0)), (q10, .inl (cI, 4, .inl (fun _ => 0))), (q11, .inl (cI, 4, .inl (fun _ => 0)))]) rfl (fun j z => match j, z with | 0, _ => rfl | 1, _ => rfl | 2, _ => rfl | 3, _ => rfl | (k + 4), z => absurd z (by omega)) rfl ?_
  exact rt _ _ _ dX1_init_57 ⟨q1, (fun j => if j = 0 then q2 else if j = 1 then q4 else if j = 2 then q6 else q8), (fun j => if j = 0 then q3 else if j = 1 then q5 else if j = 2 then q7 else q9), q10, q11, rfl⟩
def rmKX0_init : Room := { frames := 2, cells := 11, slots := 1770, locals := 32 }
theorem hiX0_init_X0 : ∀ w ∈ wsX00, w ∈ wsX0_init := by decide +kernel
theorem hiX0_init_X3 : ∀ w ∈ wsX30, w ∈ wsX0_init := by decide +kernel
theorem flX0_init_w0 : Cond.methodLink RX0 5 objectInit ∈ wsX0_init := by decide +kernel
theorem flX0_init_w1 : Cond.instanceMethod objectInit ∈ wsX0_init := by decide +kernel
theorem flX0_init_w2 : Cond.code objectInit ⟨#[0xb1]⟩ 1 none ∈ wsX0_init := by decide +kernel
theorem flX0_init_w3 : Cond.classLink RX0 11 RX3 ∈ wsX0_init := by decide +kernel
theorem flX0_init_w4 : Cond.fieldLink RX0 13 "EchoMargins$History" "states" "[LEchoMargins$Ring;" ∈ wsX0_init := by decide +kernel
theorem flX0_init_w5 : Cond.instantiable RX3 1 ∈ wsX0_init := by decide +kernel
theorem flX0_init_w6 : Cond.initialized RX3 ∈ wsX0_init := by decide +kernel
theorem flX0_init_w7 : Cond.methodLink RX0 17 yX3_init ∈ wsX0_init := by decide +kernel
theorem flX0_init_w8 : Cond.instanceMethod yX3_init ∈ wsX0_init := by decide +kernel
theorem flX0_init_w9 : Cond.fieldLink RX0 18 "EchoMargins$History" "oldest" "I" ∈ wsX0_init := by decide +kernel
theorem flX0_init_w10 : Cond.fieldLink RX0 22 "EchoMargins$History" "many" "I" ∈ wsX0_init := by decide +kernel
set_option maxHeartbeats 8000000 in
set_option maxRecDepth 100000 in
theorem kkKX0_init (l : Launch) (D : va_G) (cI cR : ClassId) (h : Nat) : cMA l yX0_init wsX0_init rmKX0_init 11 1770 D cI cR [.ref h] [(h, .inr (0, [.null, .int 0, .int 0]))] (fun u => ∃ (S : Nat) (S_r S_a : Nat → Nat), u = [(h, .inr (0, [.ref S, .int 0, .int 0])), (S, .inl (cR, 5, .inr (.inr (.inr (.inr (fun j => some (S_r j))))))), ((S_r 0), .inr (3, [.ref (S_a 0)])), ((S_a 0), .inl (cI, 352, .inl row0)), ((S_r 1), .inr (3, [.ref (S_a 1)])), ((S_a 1), .inl (cI, 352, .inl row0)), ((S_r 2), .inr (3, [.ref (S_a 2)])), ((S_a 2), .inl (cI, 352, .inl row0)), ((S_r 3), .inr (3, [.ref (S_a 3)])), ((S_a 3), .inl (cI, 352, .inl row0)), ((S_r 4), .inr (3, [.ref (S_a 4)])), ((S_a 4), .inl (cI, 352, .inl row0))]) := by
  refine kA_of (cc := cX0_init) (maxL := 2) (own := RX0) (by decide +kernel) rfl rfl rfl (Nat.le_of_ble_eq_true rfl) (lv0 := [(0, .ref h)]) rfl (fun p e s m args below meth c A Q X hAO hmi rt => ?_)
  refine G_aload_n X dX0_init_0 0 rfl ?_
  refine G_objInit X dX0_init_1 flX0_init_w0 flX0_init_w1 flX0_init_w2 (Nat.le_of_ble_eq_true rfl) (Nat.le_of_ble_eq_true rfl) ?_
  refine G_aload_n X dX0_init_4 0 rfl ?_
  refine G_iconst X (v := 5) dX0_init_5 (by decide) ?_
  refine G_newr2 X hAO (N := 5) (k' := 1) (n' := 5) dX0_init_6 flX0_init_w3 (by decide) (by decide) (Nat.le_of_ble_eq_true rfl) rfl rfl (Nat.le_of_ble_eq_true rfl) (Nat.le_of_ble_eq_true rfl) (fun q1 => ?_)
  refine G_putF X hmi (i0 := 0) (ci := 0) (j := 0) (C := RX0) (ref := RX0) (T := TX0) (N := 3) (ty := (.array (.object RX3))) (ws' := [(h, .inr (0, [.ref q1, .int 0, .int 0])), (q1, .inl (cR, 5, .inr (.inr (.inr (.inr (fun _ => none))))))]) tyX0 dX0_init_9 rfl rfl hiX0_init_X0 tyX0_ok nmX0 (by decide) flX0_init_w4 rfl rfl rfl rfl rfl rfl (Nat.le_of_ble_eq_true rfl) rfl ?_
  refine G_iconst X (v := 0) dX0_init_12 (by decide) ?_
  refine G_istore_n X (lv' := [(1, .int 0), (0, .ref h)]) dX0_init_13 (by decide) rfl ?_
  refine G_iload_n X dX0_init_14 0 rfl ?_
  refine G_iconst X (v := 5) dX0_init_15 (by decide) ?_
  refine G_icmp_ge X (tgt := 38) dX0_init_16 (by decide) (fun q => absurd q (show ¬ (5 : Int32) ≤ 0 by decide)) (fun _ => ?_)
  refine G_aload_n X dX0_init_19 1 rfl ?_
  refine G_get X (i0 := 0) (ci := 0) (j := 0) (C := RX0) (ref := RX0) (T := TX0) (N := 3) dX0_init_20 rfl rfl hiX0_init_X0 (by decide) flX0_init_w4 rfl rfl ?_
  refine G_iload_n X dX0_init_23 0 rfl ?_
  refine G_newo X (C := RX3) (T := TX3) (N := 1) (ci := 3) (k' := 2) (n' := 6) (fs := [.null]) tyX3 dX0_init_24 hiX0_init_X3 tyX3_ok flX0_init_w3 flX0_init_w5 flX0_init_w6 rfl (fun j z => match j, z with | 0, _ => rfl | (k + 1), z => absurd z (by omega)) rfl rfl (Nat.le_of_ble_eq_true rfl) (Nat.le_of_ble_eq_true rfl) (fun q2 => ?_)
  refine G_dup X dX0_init_27 rfl ?_
  refine G_callI X (nA := 0) (y := yX3_init) (cws := wsX3_init) (As := []) (rest := [.ref q2, .int 0, .ref q1]) (wc := [(q2, .inr (3, [.null]))]) (wr := [(h, .inr (0, [.ref q1, .int 0, .int 0])), (q1, .inl (cR, 5, .inr (.inr (.inr (.inr (fun _ => none))))))]) (k' := 3) (n' := 358) dX0_init_28 ⟨_, rfl⟩ rfl (by decide +kernel) gX0_init_X3_init flX0_init_w6 flX0_init_w7 flX0_init_w8 (kkKX3_init l D cI cR q2) ⟨rfl, rfl⟩ ⟨(Nat.le_of_ble_eq_true rfl), (Nat.le_of_ble_eq_true rfl)⟩ rfl rfl (Nat.le_of_ble_eq_true rfl) [2] [0, 1] rfl rfl ⟨rfl, rfl, by decide⟩ rfl rfl ⟨(Nat.le_of_ble_eq_true rfl), (Nat.le_of_ble_eq_true rfl)⟩ (fun u17 u17h => ?_)
  obtain ⟨q3, rfl⟩ := u17h
  refine G_astq X (i0 := 1) (ik := 2) (ci := 3) (T := TX3) (N := 1) (j := 0) (ws' := [(h, .inr (0, [.ref q1, .int 0, .int 0])), (q1, .inl (cR, 5, .inr (.inr (.inr (.inr (va_up (fun _ => none) 0 (some q2))))))), (q2, .inr (3, [.ref q3])), (q3, .inl (cI, 352, .inl row0))]) dX0_init_31 rfl rfl rfl (by decide) (by decide) rfl ?_
  refine G_iinc X (v := (0 + 1)) (lv' := [(1, .int (0 + 1)), (0, .ref h)]) dX0_init_32 0 rfl rfl (by decide) rfl ?_
  refine G_goto X (tgt := 14) dX0_init_35 (by decide) ?_
  refine G_iload_n X dX0_init_14 0 rfl ?_
  refine G_iconst X (v := 5) dX0_init_15 (by decide) ?_
  refine G_icmp_ge X (tgt := 38) dX0_init_16 (by decide) (fun q => absurd q (show ¬ (5 : Int32) ≤ (0 + 1) by decide)) (fun _ => ?_)
  refine G_aload_n X dX0_init_19 1 rfl ?_
  refine G_get X (i0 := 0) (ci := 0) (j := 0) (C := RX0) (ref := RX0) (T := TX0) (N := 3) dX0_init_20 rfl rfl hiX0_init_X0 (by decide) flX0_init_w4 rfl rfl ?_
  refine G_iload_n X dX0_init_23 0 rfl ?_
  refine G_newo X (C := RX3) (T := TX3) (N := 1) (ci := 3) (k' := 4) (n' := 359) (fs := [.null]) tyX3 dX0_init_24 hiX0_init_X3 tyX3_ok flX0_init_w3 flX0_init_w5 flX0_init_w6 rfl (fun j z => match j, z with | 0, _ => rfl | (k + 1), z => absurd z (by omega)) rfl rfl (Nat.le_of_ble_eq_true rfl) (Nat.le_of_ble_eq_true rfl) (fun q4 => ?_)
  refine G_dup X dX0_init_27 rfl ?_
  refine G_callI X (nA := 0) (y := yX3_init) (cws := wsX3_init) (As := []) (rest := [.ref q4, .int (0 + 1), .ref q1]) (wc := [(q4, .inr (3, [.null]))]) (wr := [(h, .inr (0, [.ref q1, .int 0, .int 0])), (q1, .inl (cR, 5, .inr (.inr (.inr (.inr (va_up (fun _ => none) 0 (some q2))))))), (q2, .inr (3, [.ref q3])), (q3, .inl (cI, 352, .inl row0))]) (k' := 5) (n' := 711) dX0_init_28 ⟨_, rfl⟩ rfl (by decide +kernel) gX0_init_X3_init flX0_init_w6 flX0_init_w7 flX0_init_w8 (kkKX3_init l D cI cR q4) ⟨rfl, rfl⟩ ⟨(Nat.le_of_ble_eq_true rfl), (Nat.le_of_ble_eq_true rfl)⟩ rfl rfl (Nat.le_of_ble_eq_true rfl) [4] [0, 1, 2, 3] rfl rfl ⟨rfl, rfl, by decide⟩ rfl rfl ⟨(Nat.le_of_ble_eq_true rfl), (Nat.le_of_ble_eq_true rfl)⟩ (fun u29 u29h => ?_)
  obtain ⟨q5, rfl⟩ := u29h
  refine G_astq X (i0 := 1) (ik := 4) (ci := 3) (T := TX3) (N := 1) (j := 1) (ws' := [(h, .inr (0, [.ref q1, .int 0, .int 0])), (q1, .inl (cR, 5, .inr (.inr (.inr (.inr (va_up (va_up (fun _ => none) 0 (some q2)) 1 (some q4))))))), (q2, .inr (3, [.ref q3])), (q3, .inl (cI, 352, .inl row0)), (q4, .inr (3, [.ref q5])), (q5, .inl (cI, 352, .inl row0))]) dX0_init_31 rfl rfl rfl (by decide) (by decide) rfl ?_
  refine G_iinc X (v := ((0 + 1) + 1)) (lv' := [(1, .int ((0 + 1) + 1)), (0, .ref h)]) dX0_init_32 0 rfl rfl (by decide) rfl ?_
  refine G_goto X (tgt := 14) dX0_init_35 (by decide) ?_
  refine G_iload_n X dX0_init_14 0 rfl ?_
  refine G_iconst X (v := 5) dX0_init_15 (by decide) ?_
  refine G_icmp_ge X (tgt := 38) dX0_init_16 (by decide) (fun q => absurd q (show ¬ (5 : Int32) ≤ ((0 + 1) + 1) by decide)) (fun _ => ?_)
  refine G_aload_n X dX0_init_19 1 rfl ?_
  refine G_get X (i0 := 0) (ci := 0) (j := 0) (C := RX0) (ref := RX0) (T := TX0) (N := 3) dX0_init_20 rfl rfl hiX0_init_X0 (by decide) flX0_init_w4 rfl rfl ?_
  refine G_iload_n X dX0_init_23 0 rfl ?_
  refine G_newo X (C := RX3) (T := TX3) (N := 1) (ci := 3) (k' := 6) (n' := 712) (fs := [.null]) tyX3 dX0_init_24 hiX0_init_X3 tyX3_ok flX0_init_w3 flX0_init_w5 flX0_init_w6 rfl (fun j z => match j, z with | 0, _ => rfl | (k + 1), z => absurd z (by omega)) rfl rfl (Nat.le_of_ble_eq_true rfl) (Nat.le_of_ble_eq_true rfl) (fun q6 => ?_)
  refine G_dup X dX0_init_27 rfl ?_
  refine G_callI X (nA := 0) (y := yX3_init) (cws := wsX3_init) (As := []) (rest := [.ref q6, .int ((0 + 1) + 1), .ref q1]) (wc := [(q6, .inr (3, [.null]))]) (wr := [(h, .inr (0, [.ref q1, .int 0, .int 0])), (q1, .inl (cR, 5, .inr (.inr (.inr (.inr (va_up (va_up (fun _ => none) 0 (some q2)) 1 (some q4))))))), (q2, .inr (3, [.ref q3])), (q3, .inl (cI, 352, .inl row0)), (q4, .inr (3, [.ref q5])), (q5, .inl (cI, 352, .inl row0))]) (k' := 7) (n' := 1064) dX0_init_28 ⟨_, rfl⟩ rfl (by decide +kernel) gX0_init_X3_init flX0_init_w6 flX0_init_w7 flX0_init_w8 (kkKX3_init l D cI cR q6) ⟨rfl, rfl⟩ ⟨(Nat.le_of_ble_eq_true rfl), (Nat.le_of_ble_eq_true rfl)⟩ rfl rfl (Nat.le_of_ble_eq_true rfl) [6] [0, 1, 2, 3, 4, 5] rfl rfl ⟨rfl, rfl, by decide⟩ rfl rfl ⟨(Nat.le_of_ble_eq_true rfl), (Nat.le_of_ble_eq_true rfl)⟩ (fun u41 u41h => ?_)
  obtain ⟨q7, rfl⟩ := u41h
  refine G_astq X (i0 := 1) (ik := 6) (ci := 3) (T := TX3) (N := 1) (j := 2) (ws' := [(h, .inr (0, [.ref q1, .int 0, .int 0])), (q1, .inl (cR, 5, .inr (.inr (.inr (.inr (va_up (va_up (va_up (fun _ => none) 0 (some q2)) 1 (some q4)) 2 (some q6))))))), (q2, .inr (3, [.ref q3])), (q3, .inl (cI, 352, .inl row0)), (q4, .inr (3, [.ref q5])), (q5, .inl (cI, 352, .inl row0)), (q6, .inr (3, [.ref q7])), (q7, .inl (cI, 352, .inl row0))]) dX0_init_31 rfl rfl rfl (by decide) (by decide) rfl ?_
  refine G_iinc X (v := (((0 + 1) + 1) + 1)) (lv' := [(1, .int (((0 + 1) + 1) + 1)), (0, .ref h)]) dX0_init_32 0 rfl rfl (by decide) rfl ?_
  refine G_goto X (tgt := 14) dX0_init_35 (by decide) ?_
  refine G_iload_n X dX0_init_14 0 rfl ?_
  refine G_iconst X (v := 5) dX0_init_15 (by decide) ?_
  refine G_icmp_ge X (tgt := 38) dX0_init_16 (by decide) (fun q => absurd q (show ¬ (5 : Int32) ≤ (((0 + 1) + 1) + 1) by decide)) (fun _ => ?_)
  refine G_aload_n X dX0_init_19 1 rfl ?_
  refine G_get X (i0 := 0) (ci := 0) (j := 0) (C := RX0) (ref := RX0) (T := TX0) (N := 3) dX0_init_20 rfl rfl hiX0_init_X0 (by decide) flX0_init_w4 rfl rfl ?_
  refine G_iload_n X dX0_init_23 0 rfl ?_
  refine G_newo X (C := RX3) (T := TX3) (N := 1) (ci := 3) (k' := 8) (n' := 1065) (fs := [.null]) tyX3 dX0_init_24 hiX0_init_X3 tyX3_ok flX0_init_w3 flX0_init_w5 flX0_init_w6 rfl (fun j z => match j, z with | 0, _ => rfl | (k + 1), z => absurd z (by omega)) rfl rfl (Nat.le_of_ble_eq_true rfl) (Nat.le_of_ble_eq_true rfl) (fun q8 => ?_)
  refine G_dup X dX0_init_27 rfl ?_
  refine G_callI X (nA := 0) (y := yX3_init) (cws := wsX3_init) (As := []) (rest := [.ref q8, .int (((0 + 1) + 1) + 1), .ref q1]) (wc := [(q8, .inr (3, [.null]))]) (wr := [(h, .inr (0, [.ref q1, .int 0, .int 0])), (q1, .inl (cR, 5, .inr (.inr (.inr (.inr (va_up (va_up (va_up (fun _ => none) 0 (some q2)) 1 (some q4)) 2 (some q6))))))), (q2, .inr (3, [.ref q3])), (q3, .inl (cI, 352, .inl row0)), (q4, .inr (3, [.ref q5])), (q5, .inl (cI, 352, .inl row0)), (q6, .inr (3, [.ref q7])), (q7, .inl (cI, 352, .inl row0))]) (k' := 9) (n' := 1417) dX0_init_28 ⟨_, rfl⟩ rfl (by decide +kernel) gX0_init_X3_init flX0_init_w6 flX0_init_w7 flX0_init_w8 (kkKX3_init l D cI cR q8) ⟨rfl, rfl⟩ ⟨(Nat.le_of_ble_eq_true rfl), (Nat.le_of_ble_eq_true rfl)⟩ rfl rfl (Nat.le_of_ble_eq_true rfl) [8] [0, 1, 2, 3, 4, 5, 6, 7] rfl rfl ⟨rfl, rfl, by decide⟩ rfl rfl ⟨(Nat.le_of_ble_eq_true rfl), (Nat.le_of_ble_eq_true rfl)⟩ (fun u53 u53h => ?_)
  obtain ⟨q9, rfl⟩ := u53h
  refine G_astq X (i0 := 1) (ik := 8) (ci := 3) (T := TX3) (N := 1) (j := 3) (ws' := [(h, .inr (0, [.ref q1, .int 0, .int 0])), (q1, .inl (cR, 5, .inr (.inr (.inr (.inr (va_up (va_up (va_up (va_up (fun _ => none) 0 (some q2)) 1 (some q4)) 2 (some q6)) 3 (some q8))))))), (q2, .inr (3, [.ref q3])), (q3, .inl (cI, 352, .inl row0)), (q4, .inr (3, [.ref q5])), (q5, .inl (cI, 352, .inl row0)), (q6, .inr (3, [.ref q7])), (q7, .inl (cI, 352, .inl row0)), (q8, .inr (3, [.ref q9])), (q9, .inl (cI, 352, .inl row0))]) dX0_init_31 rfl rfl rfl (by decide) (by decide) rfl ?_
  refine G_iinc X (v := ((((0 + 1) + 1) + 1) + 1)) (lv' := [(1, .int ((((0 + 1) + 1) + 1) + 1)), (0, .ref h)]) dX0_init_32 0 rfl rfl (by decide) rfl ?_
  refine G_goto X (tgt := 14) dX0_init_35 (by decide) ?_
  refine G_iload_n X dX0_init_14 0 rfl ?_
  refine G_iconst X (v := 5) dX0_init_15 (by decide) ?_
  refine G_icmp_ge X (tgt := 38) dX0_init_16 (by decide) (fun q => absurd q (show ¬ (5 : Int32) ≤ ((((0 + 1) + 1) + 1) + 1) by decide)) (fun _ => ?_)
  refine G_aload_n X dX0_init_19 1 rfl ?_
  refine G_get X (i0 := 0) (ci := 0) (j := 0) (C := RX0) (ref := RX0) (T := TX0) (N := 3) dX0_init_20 rfl rfl hiX0_init_X0 (by decide) flX0_init_w4 rfl rfl ?_
  refine G_iload_n X dX0_init_23 0 rfl ?_
  refine G_newo X (C := RX3) (T := TX3) (N := 1) (ci := 3) (k' := 10) (n' := 1418) (fs := [.null]) tyX3 dX0_init_24 hiX0_init_X3 tyX3_ok flX0_init_w3 flX0_init_w5 flX0_init_w6 rfl (fun j z => match j, z with | 0, _ => rfl | (k + 1), z => absurd z (by omega)) rfl rfl (Nat.le_of_ble_eq_true rfl) (Nat.le_of_ble_eq_true rfl) (fun q10 => ?_)
  refine G_dup X dX0_init_27 rfl ?_
  refine G_callI X (nA := 0) (y := yX3_init) (cws := wsX3_init) (As := []) (rest := [.ref q10, .int ((((0 + 1) + 1) + 1) + 1), .ref q1]) (wc := [(q10, .inr (3, [.null]))]) (wr := [(h, .inr (0, [.ref q1, .int 0, .int 0])), (q1, .inl (cR, 5, .inr (.inr (.inr (.inr (va_up (va_up (va_up (va_up (fun _ => none) 0 (some q2)) 1 (some q4)) 2 (some q6)) 3 (some q8))))))), (q2, .inr (3, [.ref q3])), (q3, .inl (cI, 352, .inl row0)), (q4, .inr (3, [.ref q5])), (q5, .inl (cI, 352, .inl row0)), (q6, .inr (3, [.ref q7])), (q7, .inl (cI, 352, .inl row0)), (q8, .inr (3, [.ref q9])), (q9, .inl (cI, 352, .inl row0))]) (k' := 11) (n' := 1770) dX0_init_28 ⟨_, rfl⟩ rfl (by decide +kernel) gX0_init_X3_init flX0_init_w6 flX0_init_w7 flX0_init_w8 (kkKX3_init l D cI cR q10) ⟨rfl, rfl⟩ ⟨(Nat.le_of_ble_eq_true rfl), (Nat.le_of_ble_eq_true rfl)⟩ rfl rfl (Nat.le_of_ble_eq_true rfl) [10] [0, 1, 2, 3, 4, 5, 6, 7, 8, 9] rfl rfl ⟨rfl, rfl, by decide⟩ rfl rfl ⟨(Nat.le_of_ble_eq_true rfl), (Nat.le_of_ble_eq_true rfl)⟩ (fun u65 u65h => ?_)
  obtain ⟨q11, rfl⟩ := u65h
  refine G_astq X (i0 := 1) (ik := 10) (ci := 3) (T := TX3) (N := 1) (j := 4) (ws' := [(h, .inr (0, [.ref q1, .int 0, .int 0])), (q1, .inl (cR, 5, .inr (.inr (.inr (.inr (va_up (va_up (va_up (va_up (va_up (fun _ => none) 0 (some q2)) 1 (some q4)) 2 (some q6)) 3 (some q8)) 4 (some q10))))))), (q2, .inr (3, [.ref q3])), (q3, .inl (cI, 352, .inl row0)), (q4, .inr (3, [.ref q5])), (q5, .inl (cI, 352, .inl row0)), (q6, .inr (3, [.ref q7])), (q7, .inl (cI, 352, .inl row0)), (q8, .inr (3, [.ref q9])), (q9, .inl (cI, 352, .inl row0)), (q10, .inr (3, [.ref q11])), (q11, .inl (cI, 352, .inl row0))]) dX0_init_31 rfl rfl rfl (by decide) (by decide) rfl ?_
  refine G_iinc X (v := (((((0 + 1) + 1) + 1) + 1) + 1)) (lv' := [(1, .int (((((0 + 1) + 1) + 1) + 1) + 1)), (0, .ref h)]) dX0_init_32 0 rfl rfl (by decide) rfl ?_
  refine G_goto X (tgt := 14) dX0_init_35 (by decide) ?_
  refine G_iload_n X dX0_init_14 0 rfl ?_
  refine G_iconst X (v := 5) dX0_init_15 (by decide) ?_
  refine G_icmp_ge X (tgt := 38) dX0_init_16 (by decide) (fun _ => ?_) (fun q => absurd (show (5 : Int32) ≤ (((((0 + 1) + 1) + 1) + 1) + 1) by decide) q)
  refine G_aload_n X dX0_init_38 1 rfl ?_
  refine G_iconst X (v := 0) dX0_init_39 (by decide) ?_
  refine G_put X (i0 := 0) (ci := 0) (j := 1) (C := RX0) (ref := RX0) (T := TX0) (N := 3) (ty := .int) (ws' := [(h, .inr (0, [.ref q1, .int 0, .int 0])), (q1, .inl (cR, 5, .inr (.inr (.inr (.inr (va_up (va_up (va_up (va_up (va_up (fun _ => none) 0 (some q2)) 1 (some q4)) 2 (some q6)) 3 (some q8)) 4 (some q10))))))), (q2, .inr (3, [.ref q3])), (q3, .inl (cI, 352, .inl row0)), (q4, .inr (3, [.ref q5])), (q5, .inl (cI, 352, .inl row0)), (q6, .inr (3, [.ref q7])), (q7, .inl (cI, 352, .inl row0)), (q8, .inr (3, [.ref q9])), (q9, .inl (cI, 352, .inl row0)), (q10, .inr (3, [.ref q11])), (q11, .inl (cI, 352, .inl row0))]) tyX0 dX0_init_40 rfl rfl hiX0_init_X0 tyX0_ok nmX0 (by decide) flX0_init_w9 rfl rfl rfl rfl rfl (Nat.le_of_ble_eq_true rfl) rfl ?_
  refine G_aload_n X dX0_init_43 1 rfl ?_
  refine G_iconst X (v := 0) dX0_init_44 (by decide) ?_
  refine G_put X (i0 := 0) (ci := 0) (j := 2) (C := RX0) (ref := RX0) (T := TX0) (N := 3) (ty := .int) (ws' := [(h, .inr (0, [.ref q1, .int 0, .int 0])), (q1, .inl (cR, 5, .inr (.inr (.inr (.inr (va_up (va_up (va_up (va_up (va_up (fun _ => none) 0 (some q2)) 1 (some q4)) 2 (some q6)) 3 (some q8)) 4 (some q10))))))), (q2, .inr (3, [.ref q3])), (q3, .inl (cI, 352, .inl row0)), (q4, .inr (3, [.ref q5])), (q5, .inl (cI, 352, .inl row0)), (q6, .inr (3, [.ref q7])), (q7, .inl (cI, 352, .inl row0)), (q8, .inr (3, [.ref q9])), (q9, .inl (cI, 352, .inl row0)), (q10, .inr (3, [.ref q11])), (q11, .inl (cI, 352, .inl row0))]) tyX0 dX0_init_45 rfl rfl hiX0_init_X0 tyX0_ok nmX0 (by decide) flX0_init_w10 rfl rfl rfl rfl rfl (Nat.le_of_ble_eq_true rfl) rfl ?_
  refine G_qa (i0 := 1) (g := fun j => some ((fun j => if j = 0 then q2 else if j = 1 then q4 else if j = 2 then q6 else if j = 3 then q8 else q10) j)) (ws' := [(h, .inr (0, [.ref q1, .int 0, .int 0])), (q1, .inl (cR, 5, .inr (.inr (.inr (.inr (fun j => some ((fun j => if j = 0 then q2 else if j = 1 then q4 else if j = 2 then q6 else if j = 3 then q8 else q10) j))))))), (q2, .inr (3, [.ref q3])), (q3, .inl (cI, 352, .inl row0)), (q4, .inr (3, [.ref q5])), (q5, .inl (cI, 352, .inl row0)), (q6, .inr (3, [.ref q7])), (q7, .inl (cI, 352, .inl row0)), (q8, .inr (3, [.ref q9])), (q9, .inl (cI, 352, .inl row0)), (q10, .inr (3, [.ref q11])), (q11, .inl (cI, 352, .inl row0))]) rfl (fun j z => match j, z with | 0, _ => rfl | 1, _ => rfl | 2, _ => rfl | 3, _ => rfl | 4, _ => rfl | (k + 5), z => absurd z (by omega)) rfl ?_
  exact rt _ _ _ dX0_init_48 ⟨q1, (fun j => if j = 0 then q2 else if j = 1 then q4 else if j = 2 then q6 else if j = 3 then q8 else q10), (fun j => if j = 0 then q3 else if j = 1 then q5 else if j = 2 then q7 else if j = 3 then q9 else q11), rfl⟩
def rmKX5_init : Room := { frames := 6, cells := 32, slots := 3978, locals := 211 }
theorem hiX5_init_X0 : ∀ w ∈ wsX00, w ∈ wsX5_init := by decide +kernel
theorem hiX5_init_X1 : ∀ w ∈ wsX10, w ∈ wsX5_init := by decide +kernel
theorem hiX5_init_X2 : ∀ w ∈ wsX20, w ∈ wsX5_init := by decide +kernel
theorem hiX5_init_X3 : ∀ w ∈ wsX30, w ∈ wsX5_init := by decide +kernel
theorem hiX5_init_X4 : ∀ w ∈ wsX40, w ∈ wsX5_init := by decide +kernel
theorem hiX5_init_X5 : ∀ w ∈ wsX50, w ∈ wsX5_init := by decide +kernel
theorem flX5_init_w0 : Cond.methodLink RX5 1 objectInit ∈ wsX5_init := by decide +kernel
theorem flX5_init_w1 : Cond.instanceMethod objectInit ∈ wsX5_init := by decide +kernel
theorem flX5_init_w2 : Cond.code objectInit ⟨#[0xb1]⟩ 1 none ∈ wsX5_init := by decide +kernel
theorem flX5_init_w3 : Cond.classLink RX5 7 RX3 ∈ wsX5_init := by decide +kernel
theorem flX5_init_w4 : Cond.instantiable RX3 1 ∈ wsX5_init := by decide +kernel
theorem flX5_init_w5 : Cond.initialized RX3 ∈ wsX5_init := by decide +kernel
theorem flX5_init_w6 : Cond.methodLink RX5 9 yX3_init ∈ wsX5_init := by decide +kernel
theorem flX5_init_w7 : Cond.instanceMethod yX3_init ∈ wsX5_init := by decide +kernel
theorem flX5_init_w8 : Cond.fieldLink RX5 10 "EchoMargins" "now" "LEchoMargins$Ring;" ∈ wsX5_init := by decide +kernel
theorem flX5_init_w9 : Cond.fieldLink RX5 16 "EchoMargins" "trial" "LEchoMargins$Ring;" ∈ wsX5_init := by decide +kernel
theorem flX5_init_w10 : Cond.classLink RX5 19 RX4 ∈ wsX5_init := by decide +kernel
theorem flX5_init_w11 : Cond.instantiable RX4 1 ∈ wsX5_init := by decide +kernel
theorem flX5_init_w12 : Cond.initialized RX4 ∈ wsX5_init := by decide +kernel
theorem flX5_init_w13 : Cond.methodLink RX5 21 yX4_init ∈ wsX5_init := by decide +kernel
theorem flX5_init_w14 : Cond.instanceMethod yX4_init ∈ wsX5_init := by decide +kernel
theorem flX5_init_w15 : Cond.fieldLink RX5 24 "EchoMargins" "survey" "LEchoMargins$Survey;" ∈ wsX5_init := by decide +kernel
theorem flX5_init_w16 : Cond.classLink RX5 28 RX1 ∈ wsX5_init := by decide +kernel
theorem flX5_init_w17 : Cond.instantiable RX1 4 ∈ wsX5_init := by decide +kernel
theorem flX5_init_w18 : Cond.initialized RX1 ∈ wsX5_init := by decide +kernel
theorem flX5_init_w19 : Cond.methodLink RX5 30 yX1_init ∈ wsX5_init := by decide +kernel
theorem flX5_init_w20 : Cond.instanceMethod yX1_init ∈ wsX5_init := by decide +kernel
theorem flX5_init_w21 : Cond.fieldLink RX5 31 "EchoMargins" "mending" "LEchoMargins$Mending;" ∈ wsX5_init := by decide +kernel
theorem flX5_init_w22 : Cond.classLink RX5 35 RX0 ∈ wsX5_init := by decide +kernel
theorem flX5_init_w23 : Cond.instantiable RX0 3 ∈ wsX5_init := by decide +kernel
theorem flX5_init_w24 : Cond.initialized RX0 ∈ wsX5_init := by decide +kernel
theorem flX5_init_w25 : Cond.methodLink RX5 37 yX0_init ∈ wsX5_init := by decide +kernel
theorem flX5_init_w26 : Cond.instanceMethod yX0_init ∈ wsX5_init := by decide +kernel
theorem flX5_init_w27 : Cond.fieldLink RX5 38 "EchoMargins" "past" "LEchoMargins$History;" ∈ wsX5_init := by decide +kernel
theorem flX5_init_w28 : Cond.classLink RX5 42 RX2 ∈ wsX5_init := by decide +kernel
theorem flX5_init_w29 : Cond.instantiable RX2 7 ∈ wsX5_init := by decide +kernel
theorem flX5_init_w30 : Cond.initialized RX2 ∈ wsX5_init := by decide +kernel
theorem flX5_init_w31 : Cond.methodLink RX5 44 yX2_init ∈ wsX5_init := by decide +kernel
theorem flX5_init_w32 : Cond.instanceMethod yX2_init ∈ wsX5_init := by decide +kernel
theorem flX5_init_w33 : Cond.fieldLink RX5 45 "EchoMargins" "text" "LEchoMargins$Orders;" ∈ wsX5_init := by decide +kernel
set_option maxHeartbeats 8000000 in
set_option maxRecDepth 100000 in
theorem kkKX5_init (l : Launch) (D : va_G) (cI cR : ClassId) (h : Nat) (x : Int32) (g : Nat → Int32) (hz : MX3_beginAnew row0 5 = some (x, g)) : cMA l yX5_init wsX5_init rmKX5_init 32 3978 D cI cR [.ref h] [(h, .inr (5, [.null, .null, .null, .null, .null, .null]))] (fun u => ∃ (h_now h_now_numbers h_trial h_trial_numbers h_survey h_mending h_mending_steps h_mending_tried h_mending_best h_past h_past_states h_text h_text_signs h_text_numbers : Nat) (h_mending_steps_r h_mending_steps_a h_past_states_r h_past_states_a : Nat → Nat), u = [(h, .inr (5, [.ref h_now, .ref h_trial, .ref h_survey, .ref h_mending, .ref h_past, .ref h_text])), (h_now, .inr (3, [.ref h_now_numbers])), (h_now_numbers, .inl (cI, 352, .inl g)), (h_trial, .inr (3, [.ref h_trial_numbers])), (h_trial_numbers, .inl (cI, 352, .inl row0)), (h_survey, .inr (4, [.ref h_now])), (h_mending, .inr (1, [.ref h_mending_steps, .ref h_mending_tried, .ref h_mending_best, .int 0])), (h_mending_steps, .inl (cR, 4, .inr (.inr (.inr (.inr (fun j => some (h_mending_steps_r j))))))), ((h_mending_steps_r 0), .inr (3, [.ref (h_mending_steps_a 0)])), ((h_mending_steps_a 0), .inl (cI, 352, .inl row0)), ((h_mending_steps_r 1), .inr (3, [.ref (h_mending_steps_a 1)])), ((h_mending_steps_a 1), .inl (cI, 352, .inl row0)), ((h_mending_steps_r 2), .inr (3, [.ref (h_mending_steps_a 2)])), ((h_mending_steps_a 2), .inl (cI, 352, .inl row0)), ((h_mending_steps_r 3), .inr (3, [.ref (h_mending_steps_a 3)])), ((h_mending_steps_a 3), .inl (cI, 352, .inl row0)), (h_mending_tried, .inl (cI, 4, .inl (fun _ => 0))), (h_mending_best, .inl (cI, 4, .inl (fun _ => 0))), (h_past, .inr (0, [.ref h_past_states, .int 0, .int 0])), (h_past_states, .inl (cR, 5, .inr (.inr (.inr (.inr (fun j => some (h_past_states_r j))))))), ((h_past_states_r 0), .inr (3, [.ref (h_past_states_a 0)])), ((h_past_states_a 0), .inl (cI, 352, .inl row0)), ((h_past_states_r 1), .inr (3, [.ref (h_past_states_a 1)])), ((h_past_states_a 1), .inl (cI, 352, .inl row0)), ((h_past_states_r 2), .inr (3, [.ref (h_past_states_a 2)])), ((h_past_states_a 2), .inl (cI, 352, .inl row0)), ((h_past_states_r 3), .inr (3, [.ref (h_past_states_a 3)])), ((h_past_states_a 3), .inl (cI, 352, .inl row0)), ((h_past_states_r 4), .inr (3, [.ref (h_past_states_a 4)])), ((h_past_states_a 4), .inl (cI, 352, .inl row0)), (h_text, .inr (2, [.ref h_text_signs, .ref h_text_numbers, .int 0, .int 0, .int 0, .int 0, .int 0])), (h_text_signs, .inl (cI, 60, .inl (fun _ => 0))), (h_text_numbers, .inl (cI, 3, .inl (fun _ => 0)))]) := by
  refine kA_of (cc := cX5_init) (maxL := 1) (own := RX5) (by decide +kernel) rfl rfl rfl (Nat.le_of_ble_eq_true rfl) (lv0 := [(0, .ref h)]) rfl (fun p e s m args below meth c A Q X hAO hmi rt => ?_)
  refine G_aload_n X dX5_init_0 0 rfl ?_
  refine G_objInit X dX5_init_1 flX5_init_w0 flX5_init_w1 flX5_init_w2 (Nat.le_of_ble_eq_true rfl) (Nat.le_of_ble_eq_true rfl) ?_
  refine G_aload_n X dX5_init_4 0 rfl ?_
  refine G_newo X (C := RX3) (T := TX3) (N := 1) (ci := 3) (k' := 1) (n' := 1) (fs := [.null]) tyX3 dX5_init_5 hiX5_init_X3 tyX3_ok flX5_init_w3 flX5_init_w4 flX5_init_w5 rfl (fun j z => match j, z with | 0, _ => rfl | (k + 1), z => absurd z (by omega)) rfl rfl (Nat.le_of_ble_eq_true rfl) (Nat.le_of_ble_eq_true rfl) (fun q1 => ?_)
  refine G_dup X dX5_init_8 rfl ?_
  refine G_callI X (nA := 0) (y := yX3_init) (cws := wsX3_init) (As := []) (rest := [.ref q1, .ref h]) (wc := [(q1, .inr (3, [.null]))]) (wr := [(h, .inr (5, [.null, .null, .null, .null, .null, .null]))]) (k' := 2) (n' := 353) dX5_init_9 ⟨_, rfl⟩ rfl (by decide +kernel) gX5_init_X3_init flX5_init_w5 flX5_init_w6 flX5_init_w7 (kkKX3_init l D cI cR q1) ⟨rfl, rfl⟩ ⟨(Nat.le_of_ble_eq_true rfl), (Nat.le_of_ble_eq_true rfl)⟩ rfl rfl (Nat.le_of_ble_eq_true rfl) [1] [0] rfl rfl ⟨rfl, rfl, by decide⟩ rfl rfl ⟨(Nat.le_of_ble_eq_true rfl), (Nat.le_of_ble_eq_true rfl)⟩ (fun u6 u6h => ?_)
  obtain ⟨q2, rfl⟩ := u6h
  refine G_putF X hmi (i0 := 0) (ci := 5) (j := 0) (C := RX5) (ref := RX5) (T := TX5) (N := 6) (ty := (.object RX3)) (ws' := [(h, .inr (5, [.ref q1, .null, .null, .null, .null, .null])), (q1, .inr (3, [.ref q2])), (q2, .inl (cI, 352, .inl row0))]) tyX5 dX5_init_12 rfl rfl hiX5_init_X5 tyX5_ok nmX5 (by decide) flX5_init_w8 rfl rfl rfl rfl rfl rfl (Nat.le_of_ble_eq_true rfl) rfl ?_
  refine G_aload_n X dX5_init_15 0 rfl ?_
  refine G_newo X (C := RX3) (T := TX3) (N := 1) (ci := 3) (k' := 3) (n' := 354) (fs := [.null]) tyX3 dX5_init_16 hiX5_init_X3 tyX3_ok flX5_init_w3 flX5_init_w4 flX5_init_w5 rfl (fun j z => match j, z with | 0, _ => rfl | (k + 1), z => absurd z (by omega)) rfl rfl (Nat.le_of_ble_eq_true rfl) (Nat.le_of_ble_eq_true rfl) (fun q3 => ?_)
  refine G_dup X dX5_init_19 rfl ?_
  refine G_callI X (nA := 0) (y := yX3_init) (cws := wsX3_init) (As := []) (rest := [.ref q3, .ref h]) (wc := [(q3, .inr (3, [.null]))]) (wr := [(h, .inr (5, [.ref q1, .null, .null, .null, .null, .null])), (q1, .inr (3, [.ref q2])), (q2, .inl (cI, 352, .inl row0))]) (k' := 4) (n' := 706) dX5_init_20 ⟨_, rfl⟩ rfl (by decide +kernel) gX5_init_X3_init flX5_init_w5 flX5_init_w6 flX5_init_w7 (kkKX3_init l D cI cR q3) ⟨rfl, rfl⟩ ⟨(Nat.le_of_ble_eq_true rfl), (Nat.le_of_ble_eq_true rfl)⟩ rfl rfl (Nat.le_of_ble_eq_true rfl) [3] [0, 1, 2] rfl rfl ⟨rfl, rfl, by decide⟩ rfl rfl ⟨(Nat.le_of_ble_eq_true rfl), (Nat.le_of_ble_eq_true rfl)⟩ (fun u11 u11h => ?_)
  obtain ⟨q4, rfl⟩ := u11h
  refine G_putF X hmi (i0 := 0) (ci := 5) (j := 1) (C := RX5) (ref := RX5) (T := TX5) (N := 6) (ty := (.object RX3)) (ws' := [(h, .inr (5, [.ref q1, .ref q3, .null, .null, .null, .null])), (q1, .inr (3, [.ref q2])), (q2, .inl (cI, 352, .inl row0)), (q3, .inr (3, [.ref q4])), (q4, .inl (cI, 352, .inl row0))]) tyX5 dX5_init_23 rfl rfl hiX5_init_X5 tyX5_ok nmX5 (by decide) flX5_init_w9 rfl rfl rfl rfl rfl rfl (Nat.le_of_ble_eq_true rfl) rfl ?_
  refine G_aload_n X dX5_init_26 0 rfl ?_
  refine G_newo X (C := RX4) (T := TX4) (N := 1) (ci := 4) (k' := 5) (n' := 707) (fs := [.null]) tyX4 dX5_init_27 hiX5_init_X4 tyX4_ok flX5_init_w10 flX5_init_w11 flX5_init_w12 rfl (fun j z => match j, z with | 0, _ => rfl | (k + 1), z => absurd z (by omega)) rfl rfl (Nat.le_of_ble_eq_true rfl) (Nat.le_of_ble_eq_true rfl) (fun q5 => ?_)
  refine G_dup X dX5_init_30 rfl ?_
  refine G_aload_n X dX5_init_31 0 rfl ?_
  refine G_get X (i0 := 0) (ci := 5) (j := 0) (C := RX5) (ref := RX5) (T := TX5) (N := 6) dX5_init_32 rfl rfl hiX5_init_X5 (by decide) flX5_init_w8 rfl rfl ?_
  refine G_callI X (nA := 1) (y := yX4_init) (cws := wsX4_init) (As := [.ref q1]) (rest := [.ref q5, .ref h]) (wc := [(q5, .inr (4, [.null]))]) (wr := [(h, .inr (5, [.ref q1, .ref q3, .null, .null, .null, .null])), (q1, .inr (3, [.ref q2])), (q2, .inl (cI, 352, .inl row0)), (q3, .inr (3, [.ref q4])), (q4, .inl (cI, 352, .inl row0))]) (k' := 5) (n' := 707) dX5_init_35 ⟨_, rfl⟩ rfl (by decide +kernel) gX5_init_X4_init flX5_init_w12 flX5_init_w13 flX5_init_w14 (kkKX4_init l D cI cR q5 q1) ⟨rfl, rfl⟩ ⟨(Nat.le_of_ble_eq_true rfl), (Nat.le_of_ble_eq_true rfl)⟩ rfl rfl (Nat.le_of_ble_eq_true rfl) [5] [0, 1, 2, 3, 4] rfl rfl ⟨rfl, rfl, by decide⟩ rfl rfl ⟨(Nat.le_of_ble_eq_true rfl), (Nat.le_of_ble_eq_true rfl)⟩ (fun u18 u18h => ?_)
  obtain rfl := u18h
  refine G_putF X hmi (i0 := 0) (ci := 5) (j := 2) (C := RX5) (ref := RX5) (T := TX5) (N := 6) (ty := (.object RX4)) (ws' := [(h, .inr (5, [.ref q1, .ref q3, .ref q5, .null, .null, .null])), (q1, .inr (3, [.ref q2])), (q2, .inl (cI, 352, .inl row0)), (q3, .inr (3, [.ref q4])), (q4, .inl (cI, 352, .inl row0)), (q5, .inr (4, [.ref q1]))]) tyX5 dX5_init_38 rfl rfl hiX5_init_X5 tyX5_ok nmX5 (by decide) flX5_init_w15 rfl rfl rfl rfl rfl rfl (Nat.le_of_ble_eq_true rfl) rfl ?_
  refine G_aload_n X dX5_init_41 0 rfl ?_
  refine G_newo X (C := RX1) (T := TX1) (N := 4) (ci := 1) (k' := 6) (n' := 711) (fs := [.null, .null, .null, .int 0]) tyX1 dX5_init_42 hiX5_init_X1 tyX1_ok flX5_init_w16 flX5_init_w17 flX5_init_w18 rfl (fun j z => match j, z with | 0, _ => rfl | 1, _ => rfl | 2, _ => rfl | 3, _ => rfl | (k + 4), z => absurd z (by omega)) rfl rfl (Nat.le_of_ble_eq_true rfl) (Nat.le_of_ble_eq_true rfl) (fun q6 => ?_)
  refine G_dup X dX5_init_45 rfl ?_
  refine G_callA X hAO (nA := 0) (y := yX1_init) (cws := wsX1_init) (As := []) (rest := [.ref q6, .ref h]) (wc := [(q6, .inr (1, [.null, .null, .null, .int 0]))]) (wr := [(h, .inr (5, [.ref q1, .ref q3, .ref q5, .null, .null, .null])), (q1, .inr (3, [.ref q2])), (q2, .inl (cI, 352, .inl row0)), (q3, .inr (3, [.ref q4])), (q4, .inl (cI, 352, .inl row0)), (q5, .inr (4, [.ref q1]))]) (k' := 17) (n' := 2135) dX5_init_46 ⟨_, rfl⟩ rfl (by decide +kernel) gX5_init_X1_init flX5_init_w18 flX5_init_w19 flX5_init_w20 (kkKX1_init l D cI cR q6) ⟨rfl, rfl⟩ ⟨(Nat.le_of_ble_eq_true rfl), (Nat.le_of_ble_eq_true rfl)⟩ rfl rfl (Nat.le_of_ble_eq_true rfl) [6] [0, 1, 2, 3, 4, 5] rfl rfl ⟨rfl, rfl, by decide⟩ rfl rfl ⟨(Nat.le_of_ble_eq_true rfl), (Nat.le_of_ble_eq_true rfl)⟩ (fun u23 u23h => ?_)
  obtain ⟨st, st_r, st_a, tr, be, rfl⟩ := u23h
  refine G_putF X hmi (i0 := 0) (ci := 5) (j := 3) (C := RX5) (ref := RX5) (T := TX5) (N := 6) (ty := (.object RX1)) (ws' := [(h, .inr (5, [.ref q1, .ref q3, .ref q5, .ref q6, .null, .null])), (q1, .inr (3, [.ref q2])), (q2, .inl (cI, 352, .inl row0)), (q3, .inr (3, [.ref q4])), (q4, .inl (cI, 352, .inl row0)), (q5, .inr (4, [.ref q1])), (q6, .inr (1, [.ref st, .ref tr, .ref be, .int 0])), (st, .inl (cR, 4, .inr (.inr (.inr (.inr (fun j => some (st_r j))))))), ((st_r 0), .inr (3, [.ref (st_a 0)])), ((st_a 0), .inl (cI, 352, .inl row0)), ((st_r 1), .inr (3, [.ref (st_a 1)])), ((st_a 1), .inl (cI, 352, .inl row0)), ((st_r 2), .inr (3, [.ref (st_a 2)])), ((st_a 2), .inl (cI, 352, .inl row0)), ((st_r 3), .inr (3, [.ref (st_a 3)])), ((st_a 3), .inl (cI, 352, .inl row0)), (tr, .inl (cI, 4, .inl (fun _ => 0))), (be, .inl (cI, 4, .inl (fun _ => 0)))]) tyX5 dX5_init_49 rfl rfl hiX5_init_X5 tyX5_ok nmX5 (by decide) flX5_init_w21 rfl rfl rfl rfl rfl rfl (Nat.le_of_ble_eq_true rfl) rfl ?_
  refine G_aload_n X dX5_init_52 0 rfl ?_
  refine G_newo X (C := RX0) (T := TX0) (N := 3) (ci := 0) (k' := 18) (n' := 2138) (fs := [.null, .int 0, .int 0]) tyX0 dX5_init_53 hiX5_init_X0 tyX0_ok flX5_init_w22 flX5_init_w23 flX5_init_w24 rfl (fun j z => match j, z with | 0, _ => rfl | 1, _ => rfl | 2, _ => rfl | (k + 3), z => absurd z (by omega)) rfl rfl (Nat.le_of_ble_eq_true rfl) (Nat.le_of_ble_eq_true rfl) (fun q7 => ?_)
  refine G_dup X dX5_init_56 rfl ?_
  refine G_callA X hAO (nA := 0) (y := yX0_init) (cws := wsX0_init) (As := []) (rest := [.ref q7, .ref h]) (wc := [(q7, .inr (0, [.null, .int 0, .int 0]))]) (wr := [(h, .inr (5, [.ref q1, .ref q3, .ref q5, .ref q6, .null, .null])), (q1, .inr (3, [.ref q2])), (q2, .inl (cI, 352, .inl row0)), (q3, .inr (3, [.ref q4])), (q4, .inl (cI, 352, .inl row0)), (q5, .inr (4, [.ref q1])), (q6, .inr (1, [.ref st, .ref tr, .ref be, .int 0])), (st, .inl (cR, 4, .inr (.inr (.inr (.inr (fun j => some (st_r j))))))), ((st_r 0), .inr (3, [.ref (st_a 0)])), ((st_a 0), .inl (cI, 352, .inl row0)), ((st_r 1), .inr (3, [.ref (st_a 1)])), ((st_a 1), .inl (cI, 352, .inl row0)), ((st_r 2), .inr (3, [.ref (st_a 2)])), ((st_a 2), .inl (cI, 352, .inl row0)), ((st_r 3), .inr (3, [.ref (st_a 3)])), ((st_a 3), .inl (cI, 352, .inl row0)), (tr, .inl (cI, 4, .inl (fun _ => 0))), (be, .inl (cI, 4, .inl (fun _ => 0)))]) (k' := 29) (n' := 3908) dX5_init_57 ⟨_, rfl⟩ rfl (by decide +kernel) gX5_init_X0_init flX5_init_w24 flX5_init_w25 flX5_init_w26 (kkKX0_init l D cI cR q7) ⟨rfl, rfl⟩ ⟨(Nat.le_of_ble_eq_true rfl), (Nat.le_of_ble_eq_true rfl)⟩ rfl rfl (Nat.le_of_ble_eq_true rfl) [18] [0, 1, 2, 3, 4, 5, 6, 7, 8, 9, 10, 11, 12, 13, 14, 15, 16, 17] rfl rfl ⟨rfl, rfl, by decide⟩ rfl rfl ⟨(Nat.le_of_ble_eq_true rfl), (Nat.le_of_ble_eq_true rfl)⟩ (fun u28 u28h => ?_)
  obtain ⟨hs, hs_r, hs_a, rfl⟩ := u28h
  refine G_putF X hmi (i0 := 0) (ci := 5) (j := 4) (C := RX5) (ref := RX5) (T := TX5) (N := 6) (ty := (.object RX0)) (ws' := [(h, .inr (5, [.ref q1, .ref q3, .ref q5, .ref q6, .ref q7, .null])), (q1, .inr (3, [.ref q2])), (q2, .inl (cI, 352, .inl row0)), (q3, .inr (3, [.ref q4])), (q4, .inl (cI, 352, .inl row0)), (q5, .inr (4, [.ref q1])), (q6, .inr (1, [.ref st, .ref tr, .ref be, .int 0])), (st, .inl (cR, 4, .inr (.inr (.inr (.inr (fun j => some (st_r j))))))), ((st_r 0), .inr (3, [.ref (st_a 0)])), ((st_a 0), .inl (cI, 352, .inl row0)), ((st_r 1), .inr (3, [.ref (st_a 1)])), ((st_a 1), .inl (cI, 352, .inl row0)), ((st_r 2), .inr (3, [.ref (st_a 2)])), ((st_a 2), .inl (cI, 352, .inl row0)), ((st_r 3), .inr (3, [.ref (st_a 3)])), ((st_a 3), .inl (cI, 352, .inl row0)), (tr, .inl (cI, 4, .inl (fun _ => 0))), (be, .inl (cI, 4, .inl (fun _ => 0))), (q7, .inr (0, [.ref hs, .int 0, .int 0])), (hs, .inl (cR, 5, .inr (.inr (.inr (.inr (fun j => some (hs_r j))))))), ((hs_r 0), .inr (3, [.ref (hs_a 0)])), ((hs_a 0), .inl (cI, 352, .inl row0)), ((hs_r 1), .inr (3, [.ref (hs_a 1)])), ((hs_a 1), .inl (cI, 352, .inl row0)), ((hs_r 2), .inr (3, [.ref (hs_a 2)])), ((hs_a 2), .inl (cI, 352, .inl row0)), ((hs_r 3), .inr (3, [.ref (hs_a 3)])), ((hs_a 3), .inl (cI, 352, .inl row0)), ((hs_r 4), .inr (3, [.ref (hs_a 4)])), ((hs_a 4), .inl (cI, 352, .inl row0))]) tyX5 dX5_init_60 rfl rfl hiX5_init_X5 tyX5_ok nmX5 (by decide) flX5_init_w27 rfl rfl rfl rfl rfl rfl (Nat.le_of_ble_eq_true rfl) rfl ?_
  refine G_aload_n X dX5_init_63 0 rfl ?_
  refine G_newo X (C := RX2) (T := TX2) (N := 7) (ci := 2) (k' := 30) (n' := 3915) (fs := [.null, .null, .int 0, .int 0, .int 0, .int 0, .int 0]) tyX2 dX5_init_64 hiX5_init_X2 tyX2_ok flX5_init_w28 flX5_init_w29 flX5_init_w30 rfl (fun j z => match j, z with | 0, _ => rfl | 1, _ => rfl | 2, _ => rfl | 3, _ => rfl | 4, _ => rfl | 5, _ => rfl | 6, _ => rfl | (k + 7), z => absurd z (by omega)) rfl rfl (Nat.le_of_ble_eq_true rfl) (Nat.le_of_ble_eq_true rfl) (fun q8 => ?_)
  refine G_dup X dX5_init_67 rfl ?_
  refine G_callI X (nA := 0) (y := yX2_init) (cws := wsX2_init) (As := []) (rest := [.ref q8, .ref h]) (wc := [(q8, .inr (2, [.null, .null, .int 0, .int 0, .int 0, .int 0, .int 0]))]) (wr := [(h, .inr (5, [.ref q1, .ref q3, .ref q5, .ref q6, .ref q7, .null])), (q1, .inr (3, [.ref q2])), (q2, .inl (cI, 352, .inl row0)), (q3, .inr (3, [.ref q4])), (q4, .inl (cI, 352, .inl row0)), (q5, .inr (4, [.ref q1])), (q6, .inr (1, [.ref st, .ref tr, .ref be, .int 0])), (st, .inl (cR, 4, .inr (.inr (.inr (.inr (fun j => some (st_r j))))))), ((st_r 0), .inr (3, [.ref (st_a 0)])), ((st_a 0), .inl (cI, 352, .inl row0)), ((st_r 1), .inr (3, [.ref (st_a 1)])), ((st_a 1), .inl (cI, 352, .inl row0)), ((st_r 2), .inr (3, [.ref (st_a 2)])), ((st_a 2), .inl (cI, 352, .inl row0)), ((st_r 3), .inr (3, [.ref (st_a 3)])), ((st_a 3), .inl (cI, 352, .inl row0)), (tr, .inl (cI, 4, .inl (fun _ => 0))), (be, .inl (cI, 4, .inl (fun _ => 0))), (q7, .inr (0, [.ref hs, .int 0, .int 0])), (hs, .inl (cR, 5, .inr (.inr (.inr (.inr (fun j => some (hs_r j))))))), ((hs_r 0), .inr (3, [.ref (hs_a 0)])), ((hs_a 0), .inl (cI, 352, .inl row0)), ((hs_r 1), .inr (3, [.ref (hs_a 1)])), ((hs_a 1), .inl (cI, 352, .inl row0)), ((hs_r 2), .inr (3, [.ref (hs_a 2)])), ((hs_a 2), .inl (cI, 352, .inl row0)), ((hs_r 3), .inr (3, [.ref (hs_a 3)])), ((hs_a 3), .inl (cI, 352, .inl row0)), ((hs_r 4), .inr (3, [.ref (hs_a 4)])), ((hs_a 4), .inl (cI, 352, .inl row0))]) (k' := 32) (n' := 3978) dX5_init_68 ⟨_, rfl⟩ rfl (by decide +kernel) gX5_init_X2_init flX5_init_w30 flX5_init_w31 flX5_init_w32 (kkKX2_init l D cI cR q8) ⟨rfl, rfl⟩ ⟨(Nat.le_of_ble_eq_true rfl), (Nat.le_of_ble_eq_true rfl)⟩ rfl rfl (Nat.le_of_ble_eq_true rfl) [30] [0, 1, 2, 3, 4, 5, 6, 7, 8, 9, 10, 11, 12, 13, 14, 15, 16, 17, 18, 19, 20, 21, 22, 23, 24, 25, 26, 27, 28, 29] rfl rfl ⟨rfl, rfl, by decide⟩ rfl rfl ⟨(Nat.le_of_ble_eq_true rfl), (Nat.le_of_ble_eq_true rfl)⟩ (fun u33 u33h => ?_)
  obtain ⟨q9, q10, rfl⟩ := u33h
  refine G_putF X hmi (i0 := 0) (ci := 5) (j := 5) (C := RX5) (ref := RX5) (T := TX5) (N := 6) (ty := (.object RX2)) (ws' := [(h, .inr (5, [.ref q1, .ref q3, .ref q5, .ref q6, .ref q7, .ref q8])), (q1, .inr (3, [.ref q2])), (q2, .inl (cI, 352, .inl row0)), (q3, .inr (3, [.ref q4])), (q4, .inl (cI, 352, .inl row0)), (q5, .inr (4, [.ref q1])), (q6, .inr (1, [.ref st, .ref tr, .ref be, .int 0])), (st, .inl (cR, 4, .inr (.inr (.inr (.inr (fun j => some (st_r j))))))), ((st_r 0), .inr (3, [.ref (st_a 0)])), ((st_a 0), .inl (cI, 352, .inl row0)), ((st_r 1), .inr (3, [.ref (st_a 1)])), ((st_a 1), .inl (cI, 352, .inl row0)), ((st_r 2), .inr (3, [.ref (st_a 2)])), ((st_a 2), .inl (cI, 352, .inl row0)), ((st_r 3), .inr (3, [.ref (st_a 3)])), ((st_a 3), .inl (cI, 352, .inl row0)), (tr, .inl (cI, 4, .inl (fun _ => 0))), (be, .inl (cI, 4, .inl (fun _ => 0))), (q7, .inr (0, [.ref hs, .int 0, .int 0])), (hs, .inl (cR, 5, .inr (.inr (.inr (.inr (fun j => some (hs_r j))))))), ((hs_r 0), .inr (3, [.ref (hs_a 0)])), ((hs_a 0), .inl (cI, 352, .inl row0)), ((hs_r 1), .inr (3, [.ref (hs_a 1)])), ((hs_a 1), .inl (cI, 352, .inl row0)), ((hs_r 2), .inr (3, [.ref (hs_a 2)])), ((hs_a 2), .inl (cI, 352, .inl row0)), ((hs_r 3), .inr (3, [.ref (hs_a 3)])), ((hs_a 3), .inl (cI, 352, .inl row0)), ((hs_r 4), .inr (3, [.ref (hs_a 4)])), ((hs_a 4), .inl (cI, 352, .inl row0)), (q8, .inr (2, [.ref q9, .ref q10, .int 0, .int 0, .int 0, .int 0, .int 0])), (q9, .inl (cI, 60, .inl (fun _ => 0))), (q10, .inl (cI, 3, .inl (fun _ => 0)))]) tyX5 dX5_init_71 rfl rfl hiX5_init_X5 tyX5_ok nmX5 (by decide) flX5_init_w33 rfl rfl rfl rfl rfl rfl (Nat.le_of_ble_eq_true rfl) rfl ?_
  refine G_aload_n X dX5_init_74 0 rfl ?_
  refine G_get X (i0 := 0) (ci := 5) (j := 0) (C := RX5) (ref := RX5) (T := TX5) (N := 6) dX5_init_75 rfl rfl hiX5_init_X5 (by decide) flX5_init_w8 rfl rfl ?_
  refine G_iconst X (v := 5) dX5_init_78 (by decide) ?_
  refine G1_calli X (As := [.int 5]) (rest := []) (wr := [(h, .inr (5, [.ref q1, .ref q3, .ref q5, .ref q6, .ref q7, .ref q8])), (q3, .inr (3, [.ref q4])), (q4, .inl (cI, 352, .inl row0)), (q5, .inr (4, [.ref q1])), (q6, .inr (1, [.ref st, .ref tr, .ref be, .int 0])), (st, .inl (cR, 4, .inr (.inr (.inr (.inr (fun j => some (st_r j))))))), ((st_r 0), .inr (3, [.ref (st_a 0)])), ((st_a 0), .inl (cI, 352, .inl row0)), ((st_r 1), .inr (3, [.ref (st_a 1)])), ((st_a 1), .inl (cI, 352, .inl row0)), ((st_r 2), .inr (3, [.ref (st_a 2)])), ((st_a 2), .inl (cI, 352, .inl row0)), ((st_r 3), .inr (3, [.ref (st_a 3)])), ((st_a 3), .inl (cI, 352, .inl row0)), (tr, .inl (cI, 4, .inl (fun _ => 0))), (be, .inl (cI, 4, .inl (fun _ => 0))), (q7, .inr (0, [.ref hs, .int 0, .int 0])), (hs, .inl (cR, 5, .inr (.inr (.inr (.inr (fun j => some (hs_r j))))))), ((hs_r 0), .inr (3, [.ref (hs_a 0)])), ((hs_a 0), .inl (cI, 352, .inl row0)), ((hs_r 1), .inr (3, [.ref (hs_a 1)])), ((hs_a 1), .inl (cI, 352, .inl row0)), ((hs_r 2), .inr (3, [.ref (hs_a 2)])), ((hs_a 2), .inl (cI, 352, .inl row0)), ((hs_r 3), .inr (3, [.ref (hs_a 3)])), ((hs_a 3), .inl (cI, 352, .inl row0)), ((hs_r 4), .inr (3, [.ref (hs_a 4)])), ((hs_a 4), .inl (cI, 352, .inl row0)), (q8, .inr (2, [.ref q9, .ref q10, .int 0, .int 0, .int 0, .int 0, .int 0])), (q9, .inl (cI, 60, .inl (fun _ => 0))), (q10, .inl (cI, 3, .inl (fun _ => 0)))]) (ws' := [(h, .inr (5, [.ref q1, .ref q3, .ref q5, .ref q6, .ref q7, .ref q8])), (q1, .inr (3, [.ref q2])), (q2, .inl (cI, 352, .inl g)), (q3, .inr (3, [.ref q4])), (q4, .inl (cI, 352, .inl row0)), (q5, .inr (4, [.ref q1])), (q6, .inr (1, [.ref st, .ref tr, .ref be, .int 0])), (st, .inl (cR, 4, .inr (.inr (.inr (.inr (fun j => some (st_r j))))))), ((st_r 0), .inr (3, [.ref (st_a 0)])), ((st_a 0), .inl (cI, 352, .inl row0)), ((st_r 1), .inr (3, [.ref (st_a 1)])), ((st_a 1), .inl (cI, 352, .inl row0)), ((st_r 2), .inr (3, [.ref (st_a 2)])), ((st_a 2), .inl (cI, 352, .inl row0)), ((st_r 3), .inr (3, [.ref (st_a 3)])), ((st_a 3), .inl (cI, 352, .inl row0)), (tr, .inl (cI, 4, .inl (fun _ => 0))), (be, .inl (cI, 4, .inl (fun _ => 0))), (q7, .inr (0, [.ref hs, .int 0, .int 0])), (hs, .inl (cR, 5, .inr (.inr (.inr (.inr (fun j => some (hs_r j))))))), ((hs_r 0), .inr (3, [.ref (hs_a 0)])), ((hs_a 0), .inl (cI, 352, .inl row0)), ((hs_r 1), .inr (3, [.ref (hs_a 1)])), ((hs_a 1), .inl (cI, 352, .inl row0)), ((hs_r 2), .inr (3, [.ref (hs_a 2)])), ((hs_a 2), .inl (cI, 352, .inl row0)), ((hs_r 3), .inr (3, [.ref (hs_a 3)])), ((hs_a 3), .inl (cI, 352, .inl row0)), ((hs_r 4), .inr (3, [.ref (hs_a 4)])), ((hs_a 4), .inl (cI, 352, .inl row0)), (q8, .inr (2, [.ref q9, .ref q10, .int 0, .int 0, .int 0, .int 0, .int 0])), (q9, .inl (cI, 60, .inl (fun _ => 0))), (q10, .inl (cI, 3, .inl (fun _ => 0)))]) dX5_init_79 pkX3_beginAnew gX5_init_X3_beginAnew (kkX3_beginAnew l D cI cR q1 q2 row0 5 (x, g) hz) ⟨rfl, rfl⟩ ⟨(Nat.le_of_ble_eq_true rfl), (Nat.le_of_ble_eq_true rfl)⟩ rfl rfl (Nat.le_of_ble_eq_true rfl) 0 rfl rfl [1, 2] [0, 3, 4, 5, 6, 7, 8, 9, 10, 11, 12, 13, 14, 15, 16, 17, 18, 19, 20, 21, 22, 23, 24, 25, 26, 27, 28, 29, 30, 31, 32] rfl rfl ⟨rfl, rfl, by decide⟩ ⟨(Nat.le_of_ble_eq_true rfl), (Nat.le_of_ble_eq_true rfl)⟩ [0, 31, 32, 1, 2, 3, 4, 5, 6, 7, 8, 9, 10, 11, 12, 13, 14, 15, 16, 17, 18, 19, 20, 21, 22, 23, 24, 25, 26, 27, 28, 29, 30] rfl rfl ?_
  refine G_pop X dX5_init_82 rfl ?_
  exact rt _ _ _ dX5_init_83 ⟨_, _, _, _, _, _, _, _, _, _, _, _, _, _, _, _, _, _, rfl⟩
