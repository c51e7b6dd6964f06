/-! what is made: rows for constructors -/
theorem qa_cell {cA : ClassId} {n : Nat} {f g : Nat → Option Nat} (h : ∀ j, j < n → f j = g j) : vp_cell cA (n, .inr (.inr (.inr (.inr f)))) = vp_cell cA (n, .inr (.inr (.inr (.inr g)))) := by
  have e : (fun j : Fin n => va_rf (f j.val)) = fun j : Fin n => va_rf (g j.val) := funext fun j => by rw [h j.val j.isLt]
  show ({ cls := cA, slots := Array.ofFn (fun j : Fin n => va_rf (f j.val)), vm := .none } : Cell) = { cls := cA, slots := Array.ofFn (fun j : Fin n => va_rf (g j.val)), vm := .none }
  rw [e]
section MADE
variable {p : Program} {l : Launch} {e : Env} {R : Room} {s : State} {m : MethodId} {args : Array Value} {below : List Frame} {meth : Method} {c : Code} {Q : State → Prop} {cc : ByteArray} {nL : Nat} {Ts : List Cond} {own : String} {D : va_G} {cI cR : ClassId} {A : Nat → Prop} {k n pc : Nat} {lv : List (Nat × Value)} {st : List Value} {ws : va_W}
theorem kC_of {y : MethodName} {cws cws' : List Cond} {rm : Room} {mc ms maxL : Nat} {av : List Value} {w : va_W} {post : va_W → Prop} {lv0 : List (Nat × Value)} (hy : plainFor y = true) (hw : cws = Cond.code y cc maxL none :: cws') (ho : y.cls = own) (hi : y.name = "<init>") (hz : (lg_sl av).length ≤ maxL) (hlv : lv_args 0 av = lv0)
    (body : ∀ p e s m args below meth c A Q, gX p l e rm s m args below meth c cc maxL cws own D cI cR A → meth.name = "<init>" → (∀ (pc : Nat) (lv : List (Nat × Value)) (ws : va_W), decode cc pc = .ok (.return_, 1) → post ws → G p l e rm s m args below meth c D A maxL Q mc ms pc lv [] ws) → G p l e rm s m args below meth c D A maxL Q 0 0 0 lv0 [] w) : cMv l y cws rm mc ms D cI cR av w post := by
  intro sz
  refine ofWF (cc := cc) (maxL := maxL) (ret := none) hy hw ?_
  intro p e s m args below meth c s₁ B hml hv
  obtain ⟨ha, hsz, hP, hK, hD0⟩ := hv
  subst hsz
  subst ha
  subst ho
  have X : gX p l e (headSpec cws rm).room s m av.toArray below meth c cc maxL cws y.cls D cI cR (va_A w s.heap.size) := ⟨⟨B.exec, B.bytes, hml, findClass_of_methodNamed B.named, atoms_spec (ws := cws) B.pre⟩, hK, fun q h => Or.inr h, B.notSynchronized, rfl, rfl, rfl, rfl⟩
  have hin : meth.name = "<init>" := (name_of_methodNamed B.named B.method).1.trans hi
  have g := body p e s m av.toArray below meth c (va_A w s.heap.size) _ X hin (fun pc lv ws hd hp => G_vret X B.returns hd hp)
  have hl := lv_entry av (n := maxL) hz
  rw [lg_entry_eq]
  rw [hlv] at hl
  exact g _ _ _ hl hP hD0.self va_S.rf
theorem G_objInit (X : gX p l e R s m args below meth c cc nL Ts own D cI cR A) {a index : Nat} (hd : decode cc pc = .ok (.invokespecial index, 3)) (h1 : Cond.methodLink own index objectInit ∈ Ts) (h2 : Cond.instanceMethod objectInit ∈ Ts) (h3 : Cond.code objectInit ⟨#[0xb1]⟩ 1 none ∈ Ts) (hf : 1 ≤ R.frames) (hlo : 2 * 0 + (st.map fun v => v.category).sum + 12 ≤ R.locals) (kk : G p l e R s m args below meth c D A nL Q k n (pc + 3) lv st ws) : G p l e R s m args below meth c D A nL Q k n pc lv (.ref a :: st) ws :=
  fun ls H locs hl hP hD hS => W.objInit X.1.1 X.1.2.1 X.1.2.2.2.1 (X.1.2.2.2.2 _ h1) (X.1.2.2.2.2 _ h2) (X.1.2.2.2.2 _ h3) rfl (by rw [X.1.2.2.1]; exact hl.1) rfl hd hf hlo (W.eq rfl (kk ls H locs hl hP hD hS))
theorem G_newi (X : gX p l e R s m args below meth c cc nL Ts own D cI cR A) {v : Int32} {N k' n' : Nat} (hd : decode cc pc = .ok (.newarray .int, 2)) (hw : Cond.arrayClass .int ∈ Ts) (hv : ¬ v < 0) (hN : v.toNatClampNeg = N) (hb : N * componentBytes .int ≤ 536870912) (hk : k + 1 = k') (hn : n + N = n') (hc : k' ≤ R.cells) (hs : n' ≤ R.slots) (kk : ∀ q : Nat, G p l e R s m args below meth c D A nL Q k' n' (pc + 2) lv (.ref q :: st) (ws ++ [(q, .inl (cI, N, .inl (fun _ => 0)))])) : G p l e R s m args below meth c D A nL Q k n pc lv (.int v :: st) ws := by
  subst hk
  subst hn
  intro ls H locs hl hP hD hS
  refine va_newa (atype := .int) (ty := .int) (a0 := (N, .inl (fun _ => 0))) X.1.1 X.1.2.1 (X.1.2.2.2.2 _ hw) rfl X.2.1 hP hD hS X.2.2.1 (fun _ => rfl) hv hN hb hc hs hd (fun q cA H1 hK1 hP1 hD1 hS1 => ?_)
  have e1 : s.vm.findClass ("[" ++ FieldType.int.toString) = some cI := (X.2.1.2 0 (cI, .int) rfl).2
  have e2 : s.vm.findClass ("[" ++ FieldType.int.toString) = some cA := (hK1.2 2 (cA, .int) rfl).2
  rw [e1] at e2
  obtain rfl := Option.some.inj e2
  exact kk q ls H1 locs hl hP1 hD1 hS1
theorem G_newr (X : gX p l e R s m args below meth c cc nL Ts own D cI cR A) {v : Int32} {N k' n' index : Nat} (hd : decode cc pc = .ok (.anewarray index, 3)) (hw : Cond.arrayOver (.object RX3) ∈ Ts) (hcl : Cond.classLink own index RX3 ∈ Ts) (hv : ¬ v < 0) (hN : v.toNatClampNeg = N) (hb : N * 4 ≤ 536870912) (hk : k + 1 = k') (hn : n + N = n') (hc : k' ≤ R.cells) (hs : n' ≤ R.slots) (kk : ∀ q : Nat, G p l e R s m args below meth c D A nL Q k' n' (pc + 3) lv (.ref q :: st) (ws ++ [(q, .inl (cR, N, .inr (.inr (.inr (.inr (fun _ => none))))))])) : G p l e R s m args below meth c D A nL Q k n pc lv (.int v :: st) ws := by
  subst hk
  subst hn
  intro ls H locs hl hP hD hS
  refine va_newq X.1.1 X.1.2.1 X.1.2.2.2.1 (X.1.2.2.2.2 _ hcl) (va_AO.of (X.1.2.2.2.2 _ hw)) X.2.1 hP hD hS X.2.2.1 hv hN hb hc hs hd (fun q cA H1 hK1 hP1 hD1 hS1 => ?_)
  obtain ⟨kA1, c1, -, -, -, e1⟩ := (X.2.1.2 1 (cR, .object RX3) rfl).2
  obtain ⟨kA2, c2, -, -, -, e2⟩ := (hK1.2 2 (cA, .object RX3) rfl).2
  rw [e1] at e2
  obtain rfl := Option.some.inj e2
  exact kk q ls H1 locs hl hP1 hD1 hS1
theorem G_newo (X : gX p l e R s m args below meth c cc nL Ts own D cI cR A) {C : String} {T : u_T} {N ci k' n' index : Nat} {fs : List Value} (ty : Nat → FieldType) (hd : decode cc pc = .ok (.new index, 3)) (hin : ∀ w ∈ u_ws C T N, w ∈ Ts) (hty : ∀ k, k < N → parseFieldDescriptor (T k).2.2.1 = some (ty k)) (hcl : Cond.classLink own index C ∈ Ts) (hi : Cond.instantiable C N ∈ Ts) (hini : Cond.initialized C ∈ Ts) (hci : vwCl[ci]? = some (C, T, N)) (hfs : ∀ j, j < N → defaultValue (ty j) = vp_V fs j) (hk : k + 1 = k') (hn : n + N = n') (hc : k' ≤ R.cells) (hs : n' ≤ R.slots) (kk : ∀ q : Nat, G p l e R s m args below meth c D A nL Q k' n' (pc + 3) lv (.ref q :: st) (ws ++ [(q, .inr (ci, fs))])) : G p l e R s m args below meth c D A nL Q k n pc lv st ws := by
  subst hk
  subst hn
  intro ls H locs hl hP hD hS
  exact va_new X.1.1 X.1.2.1 X.1.2.2.2.2 hin ty hty X.1.2.2.2.1 (X.1.2.2.2.2 _ hcl) (X.1.2.2.2.2 _ hi) (X.1.2.2.2.2 _ hini) X.2.1 hP hD hS X.2.2.1 hci hfs hc hs hd (fun q H1 hP1 hD1 hS1 => kk q ls H1 locs hl hP1 hD1 hS1)
theorem G_putF (X : gX p l e R s m args below meth c cc nL Ts own D cI cR A) (hmi : meth.name = "<init>") {a i0 ci j index : Nat} {C ref : String} {T : u_T} {N : Nat} {fs : List Value} {v : Value} {ty : FieldType} {ws' : va_W} (ty0 : Nat → FieldType) (hd : decode cc pc = .ok (.putfield index, 3)) (he : ws[i0]? = some (a, .inr (ci, fs))) (hc : vwCl[ci]? = some (C, T, N)) (hin : ∀ w ∈ u_ws C T N, w ∈ Ts) (hty : ∀ k, k < N → parseFieldDescriptor (T k).2.2.1 = some (ty0 k)) (hnm : ∀ a, a < N → ∀ b, b < N → a ≠ b → (T a).2.1 ≠ (T b).2.1) (hk : j < N) (hlink : Cond.fieldLink own index ref (T j).2.1 (T j).2.2.1 ∈ Ts) (hs : (T j).1 = ref) (hfin : (T j).2.2.2 = true) (hdecl : (T j).1 = own) (ht : ty0 j = ty) (hn : narrow ty v = v) (hf : fits ty v = true) (hl0 : j < fs.length) (hw : ws.set i0 (a, .inr (ci, fs.set j v)) = ws') (kk : G p l e R s m args below meth c D A nL Q k n (pc + 3) lv st ws') : G p l e R s m args below meth c D A nL Q k n pc lv (v :: .ref a :: st) ws := by
  intro ls H locs hl hP hD hS
  refine va_putF X.1.1 X.1.2.1 X.1.2.2.2.2 hin ty0 hty hnm X.1.2.2.2.1 X.2.1 hP hD hS i0 he hc j hk (X.1.2.2.2.2 _ hlink) (fun x hx => by rw [← hs]; exact hx) hfin hmi hdecl (by rw [← ht]; exact hty j hk) hn hf hl0 hd ?_
  rw [hw]
  intro H1 locs1 hP1 hD1 hS1
  exact kk ls H1 locs1 hl hP1 hD1 hS1
theorem G_astq (X : gX p l e R s m args below meth c cc nL Ts own D cI cR A) {a i0 ik ci z v j : Nat} {vs : List Value} {T : u_T} {N : Nat} {f : Nat → Option Nat} {i : Int32} {ws' : va_W} (hd : decode cc pc = .ok (.aastore, 1)) (ha : ws[i0]? = some (a, .inl (cR, z, .inr (.inr (.inr (.inr f)))))) (hv : ws[ik]? = some (v, .inr (ci, vs))) (hc : vwCl[ci]? = some (RX3, T, N)) (hin : inb i z = true) (hj : i.toNatClampNeg = j) (hw : ws.set i0 (a, .inl (cR, z, .inr (.inr (.inr (.inr (va_up f j (some v))))))) = ws') (kk : G p l e R s m args below meth c D A nL Q k n (pc + 1) lv st ws') : G p l e R s m args below meth c D A nL Q k n pc lv (.ref v :: .int i :: .ref a :: st) ws := by
  intro ls H locs hl hP hD hS
  refine va_astq (r := (RX3, T, N)) X.1.1 X.1.2.1 X.2.1 hP hD hS i0 1 ik ci ha rfl hv hc (inb_in hin) hd ?_
  rw [hj, hw]
  intro H1 locs1 hP1 hD1 hS1
  exact kk ls H1 locs1 hl hP1 hD1 hS1
theorem G_qa {a i0 z : Nat} {f g : Nat → Option Nat} {ws' : va_W} (ha : ws[i0]? = some (a, .inl (cR, z, .inr (.inr (.inr (.inr f)))))) (hfg : ∀ j, j < z → f j = g j) (hw : ws.set i0 (a, .inl (cR, z, .inr (.inr (.inr (.inr g))))) = ws') (kk : G p l e R s m args below meth c D A nL Q k n pc lv st ws') : G p l e R s m args below meth c D A nL Q k n pc lv st ws := by
  intro ls H locs hl hP hD hS
  refine kk ls H locs hl ?_ (by rw [← hw]; exact hD.set ha) hS
  rw [← hw]
  intro i q hq
  by_cases hi : i = i0
  · subst hi
    have hlt : i < ws.length := (List.getElem?_eq_some_iff.mp ha).1
    rw [List.getElem?_set_self hlt] at hq
    obtain rfl := Option.some.inj hq
    have h0 := hP i _ ha
    show H[a]? = some (vp_cell cR (z, .inr (.inr (.inr (.inr g)))))
    rw [show vp_cell cR (z, .inr (.inr (.inr (.inr g)))) = vp_cell cR (z, .inr (.inr (.inr (.inr f)))) from qa_cell (fun j h => (hfg j h).symm)]
    exact h0
  · rw [List.getElem?_set_ne (Ne.symm hi)] at hq
    exact hP i q hq
theorem G_callI (X : gX p l e R s m args below meth c cc nL Ts own D cI cR A) {y : MethodName} {cws : List Cond} {rm : Room} {b : Nat} {As rest : List Value} {wc wr : va_W} {post : va_W → Prop} {bytes : ByteArray} {maxL nA idx mc ms k' n' : Nat} (hd : decode cc pc = .ok (.invokespecial idx, 3)) (hk : ∃ ws', cws = Cond.code y bytes maxL none :: ws') (hy : y.name = "<init>") (hyc : y.cls ≠ "java/lang/invoke/MethodHandle" ∧ y.cls ≠ "java/lang/invoke/VarHandle" ∧ (parseMethodDescriptor y.desc).map (fun d => d.parameters.length) = some nA) (hG : GoodIn Ts cws) (hini : Cond.initialized y.cls ∈ Ts) (hli : Cond.methodLink own idx y ∈ Ts) (hin : Cond.instanceMethod y ∈ Ts)
    (hM : cMv l y cws rm mc ms D cI cR (.ref b :: As) wc post) (hrm : rm.cells = mc ∧ rm.slots = ms) (hR : rm.frames + 1 ≤ R.frames ∧ 8 + (maxL + 11) + rm.locals ≤ R.locals) (hst : st = As.reverse ++ .ref b :: rest) (hn : As.length = nA) (hW : (rest.map fun v => v.category).sum ≤ 8)
    (isC isR : List Nat) (hC : isC.map (fun i => ws[i]?) = wc.map some) (hRr : isR.map (fun i => ws[i]?) = wr.map some) (hnd : va_nd isC = true ∧ va_nd isR = true ∧ ∀ i ∈ isR, i ∉ isC) (hkk : k + mc = k') (hnn : n + ms = n') (hf : k' ≤ R.cells ∧ n' ≤ R.slots)
    (kk : ∀ (u : va_W), post u → G p l e R s m args below meth c D A nL Q k' n' (pc + 3) lv rest (wr ++ u)) : G p l e R s m args below meth c D A nL Q k n pc lv st ws := by
  subst hkk
  subst hnn
  intro ls H locs hl hP hD hS
  obtain ⟨ws', hw⟩ := hk
  have hPc := hP.sub isC (map_fm hC)
  have hDc := hD.sub isC hnd.1 hC
  have hFc := va_free (wc := wc) hD hS X.2.2.1 isC hC
  have hts := X.1.2.2.2.2
  refine va_callv (va_runI (As := As) (rest := rest) X.1 (hM H.size) ⟨callB_of nA hts hG hw hrm.1 hrm.2 (hts _ hini) (hts _ hli) hyc hR, hy, hts _ hin⟩ ⟨G_blind, fun U hU hW => ⟨rfl, by rw [hU], by rw [hU]; exact hPc, va_K.moved hW.alike X.2.1, hDc.weaken (fun _ _ _ _ => trivial)⟩⟩ rfl hn hl.1 hst (lv_room hW) hd hf) hS (fun q _ h => hFc q h) hFc (fun u t H1 locs1 ht hvm hw2 hB hz1 hk1 hS1 => ?_)
  obtain ⟨hP1, hD1⟩ := hB
  rw [ht] at hP1
  obtain ⟨hP2, hD2⟩ := va_join (wr := wr) (w1 := u) hP hD isC isR hC hRr hnd.2.1 hnd.2.2 hk1 hFc hP1 hD1
  exact kk u hw2 ls H1 locs1 hl hP2 hD2 hS1
end MADE
