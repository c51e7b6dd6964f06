/-! rows for longs, and calls that answer one -/
def cMl (l : Launch) (y : MethodName) (cws : List Cond) (rm : Room) (mc ms : Nat) (D : va_G) (cI cR : ClassId) (av : List Value) (w : va_W) (post : Int64 → va_W → Prop) : Prop :=
  ∀ sz : Nat, Met l y cws rm (va_Pc av (pB D cI cR w sz)) (va_Ql post (qB D (va_A w sz)) (va_A w sz)) mc ms (va_A w sz)
abbrev cJ1 (l : Launch) (y : MethodName) (cws : List Cond) (rm : Room) (D : va_G) (cI cR : ClassId) (av : List Value) (w : va_W) (r : Int64) (w' : va_W) : Prop := cMl l y cws rm 0 0 D cI cR av w (fun x u => x = r ∧ u = w')
section LONGS
variable {p : Program} {l : Launch} {e : Env} {R : Room} {s : State} {m : MethodId} {args : Array Value} {below : List Frame} {meth : Method} {c : Code} {Q : State → Prop} {cc : ByteArray} {nL : Nat} {Ts : List Cond} {own : String} {D : va_G} {cI cR : ClassId} {A : Nat → Prop} {k n pc : Nat} {lv : List (Nat × Value)} {st : List Value} {ws : va_W}
theorem G_ldc2 (X : gX p l e R s m args below meth c cc nL Ts own D cI cR A) {index : Nat} {v : Int64} (hd : decode cc pc = .ok (.ldc2_w index, 3)) (hw : Cond.constantLong own index v ∈ Ts) (kk : G p l e R s m args below meth c D A nL Q k n (pc + 3) lv (.long v :: st) ws) : G p l e R s m args below meth c D A nL Q k n pc lv st ws :=
  fun ls H locs hl hP hD hS => lv_ldc2 X.1.1 X.1.2.1 X.1.2.2.2.1 (X.1.2.2.2.2 _ hw) hd (kk ls H locs hl hP hD hS)
theorem G_lload_n (X : gX p l e R s m args below meth c cc nL Ts own D cI cR A) {i : Fin 4} (hd : decode cc pc = .ok (.lload_n i, 1)) (j : Nat) {x : Int64} (h : lv[j]? = some ((i : Nat), .long x)) (kk : G p l e R s m args below meth c D A nL Q k n (pc + 1) lv (.long x :: st) ws) : G p l e R s m args below meth c D A nL Q k n pc lv st ws :=
  fun ls H locs hl hP hD hS => lv_lload_n X.1.1 X.1.2.1 hd rfl (lv_at hl j h) (kk ls H locs hl hP hD hS)
theorem G_lload (X : gX p l e R s m args below meth c cc nL Ts own D cI cR A) {i : Nat} (hd : decode cc pc = .ok (.lload i, 2)) (j : Nat) {x : Int64} (h : lv[j]? = some (i, .long x)) (kk : G p l e R s m args below meth c D A nL Q k n (pc + 2) lv (.long x :: st) ws) : G p l e R s m args below meth c D A nL Q k n pc lv st ws :=
  fun ls H locs hl hP hD hS => lv_lload X.1.1 X.1.2.1 hd (lv_at hl j h) (kk ls H locs hl hP hD hS)
theorem G_lstore_n (X : gX p l e R s m args below meth c cc nL Ts own D cI cR A) {i : Fin 4} {x : Int64} {lv' : List (Nat × Value)} (hd : decode cc pc = .ok (.lstore_n i, 1)) (hn : (i : Nat) + 1 < nL) (h : ((i : Nat), Value.long x) :: lv.filter (fun q => !(q.1 == (i : Nat)) && (!(q.1 == (i : Nat) + 1) && !(q.1 + 1 == (i : Nat) && q.2.category == 2))) = lv') (kk : G p l e R s m args below meth c D A nL Q k n (pc + 1) lv' st ws) : G p l e R s m args below meth c D A nL Q k n pc lv (.long x :: st) ws :=
  fun ls H locs hl hP hD hS => lv_lstore_n X.1.1 X.1.2.1 hd rfl hl hn h (fun ls' hl' => kk ls' H locs hl' hP hD hS)
theorem G_lstore (X : gX p l e R s m args below meth c cc nL Ts own D cI cR A) {i : Nat} {x : Int64} {lv' : List (Nat × Value)} (hd : decode cc pc = .ok (.lstore i, 2)) (hn : i + 1 < nL) (h : (i, Value.long x) :: lv.filter (fun q => !(q.1 == i) && (!(q.1 == i + 1) && !(q.1 + 1 == i && q.2.category == 2))) = lv') (kk : G p l e R s m args below meth c D A nL Q k n (pc + 2) lv' st ws) : G p l e R s m args below meth c D A nL Q k n pc lv (.long x :: st) ws :=
  fun ls H locs hl hP hD hS => lv_lstore X.1.1 X.1.2.1 hd hl hn h (fun ls' hl' => kk ls' H locs hl' hP hD hS)
theorem G_ladd (X : gX p l e R s m args below meth c cc nL Ts own D cI cR A) {x y : Int64} (hd : decode cc pc = .ok (.ladd, 1)) (kk : G p l e R s m args below meth c D A nL Q k n (pc + 1) lv (.long (x + y) :: st) ws) : G p l e R s m args below meth c D A nL Q k n pc lv (.long y :: .long x :: st) ws :=
  fun ls H locs hl hP hD hS => lv_ladd X.1.1 X.1.2.1 hd (kk ls H locs hl hP hD hS)
theorem G_lmul (X : gX p l e R s m args below meth c cc nL Ts own D cI cR A) {x y : Int64} (hd : decode cc pc = .ok (.lmul, 1)) (kk : G p l e R s m args below meth c D A nL Q k n (pc + 1) lv (.long (x * y) :: st) ws) : G p l e R s m args below meth c D A nL Q k n pc lv (.long y :: .long x :: st) ws :=
  fun ls H locs hl hP hD hS => lv_lmul X.1.1 X.1.2.1 hd (kk ls H locs hl hP hD hS)
theorem G_i2l (X : gX p l e R s m args below meth c cc nL Ts own D cI cR A) {x : Int32} (hd : decode cc pc = .ok (.i2l, 1)) (kk : G p l e R s m args below meth c D A nL Q k n (pc + 1) lv (.long (x.toInt64) :: st) ws) : G p l e R s m args below meth c D A nL Q k n pc lv (.int x :: st) ws :=
  fun ls H locs hl hP hD hS => lv_i2l X.1.1 X.1.2.1 hd rfl (kk ls H locs hl hP hD hS)
theorem G_ixor (X : gX p l e R s m args below meth c cc nL Ts own D cI cR A) {x y : Int32} (hd : decode cc pc = .ok (.ixor, 1)) (kk : G p l e R s m args below meth c D A nL Q k n (pc + 1) lv (.int (x ^^^ y) :: st) ws) : G p l e R s m args below meth c D A nL Q k n pc lv (.int y :: .int x :: st) ws :=
  fun ls H locs hl hP hD hS => lv_ixor X.1.1 X.1.2.1 hd (kk ls H locs hl hP hD hS)
theorem G_lcmp (X : gX p l e R s m args below meth c cc nL Ts own D cI cR A) {x y : Int64} (hd : decode cc pc = .ok (.lcmp, 1)) (kk : G p l e R s m args below meth c D A nL Q k n (pc + 1) lv (.int (lg_cmp x y) :: st) ws) : G p l e R s m args below meth c D A nL Q k n pc lv (.long y :: .long x :: st) ws :=
  fun ls H locs hl hP hD hS => W.lcmp X.1.1 X.1.2.1 hd (kk ls H locs hl hP hD hS)
theorem G_lret (X : gX p l e R s m args below meth c cc nL Ts own D cI cR A) {post : Int64 → va_W → Prop} {v : Int64} (hr : meth.sig.returnType = some .long) (hd : decode cc pc = .ok (.lreturn, 1)) (hp : post v ws) : G p l e R s m args below meth c D A nL (MQ below (va_Ql post (qB D A) A) args s k n A) k n pc lv [.long v] ws :=
  fun ls H locs hl hP hD hS => W.lret X.1.1 X.1.2.1 hr (fun t ht _ => ⟨⟨v, ws, rfl, hp, by rw [ht]; exact hP, hD⟩, hS.F ht⟩) hS.2.2 hd X.2.2.2.1
theorem cMl_of {y : MethodName} {cws cws' : List Cond} {rm : Room} {mc ms maxL : Nat} {ret : Option FieldType} {av : List Value} {w : va_W} {post : Int64 → va_W → Prop} {lv0 : List (Nat × Value)} (hy : plainFor y = true) (hw : cws = Cond.code y cc maxL ret :: cws') (ho : y.cls = own) (hz : (lg_sl av).length ≤ maxL) (hlv : lv_args 0 av = lv0)
    (body : ∀ p e s m args below meth c A, gX p l e (headSpec cws rm).room s m args below meth c cc maxL cws own D cI cR A → meth.sig.returnType = ret → args = av.toArray → G p l e (headSpec cws rm).room s m args below meth c D A maxL (MQ below (va_Ql post (qB D A) A) args s mc ms A) 0 0 0 lv0 [] w) : cMl l y cws rm mc ms D cI cR av w post := by
  intro sz
  refine ofWF (cc := cc) (maxL := maxL) (ret := ret) hy hw ?_
  intro p e s m args below meth c s₁ B hml hv
  obtain ⟨ha, hsz, hP, hK, hD0⟩ := hv
  subst hsz
  subst ha
  subst ho
  have X : gX p l e (headSpec cws rm).room s m av.toArray below meth c cc maxL cws y.cls D cI cR (va_A w s.heap.size) := ⟨⟨B.exec, B.bytes, hml, findClass_of_methodNamed B.named, atoms_spec (ws := cws) B.pre⟩, hK, fun q h => Or.inr h, B.notSynchronized, rfl, rfl, rfl, rfl⟩
  have g := body p e s m av.toArray below meth c (va_A w s.heap.size) X B.returns rfl
  have hl := lv_entry av (n := maxL) hz
  rw [lg_entry_eq]
  rw [hlv] at hl
  exact g _ _ _ hl hP hD0.self va_S.rf
theorem kJ_of {y : MethodName} {cws cws' : List Cond} {rm : Room} {mc ms maxL : Nat} {av : List Value} {w : va_W} {post : Int64 → va_W → Prop} {lv0 : List (Nat × Value)} (hy : plainFor y = true) (hw : cws = Cond.code y cc maxL (some .long) :: cws') (ho : y.cls = own) (hz : (lg_sl av).length ≤ maxL) (hlv : lv_args 0 av = lv0)
    (body : ∀ p e s m args below meth c A Q, gX p l e rm s m args below meth c cc maxL cws own D cI cR A → (∀ (pc : Nat) (lv : List (Nat × Value)) (v : Int64) (ws : va_W), decode cc pc = .ok (.lreturn, 1) → post v ws → G p l e rm s m args below meth c D A maxL Q mc ms pc lv [.long v] ws) → G p l e rm s m args below meth c D A maxL Q 0 0 0 lv0 [] w) : cMl l y cws rm mc ms D cI cR av w post :=
  cMl_of hy hw ho hz hlv (fun p e s m args below meth c A X hr _ => body p e s m args below meth c A _ X (fun pc lv v ws hd hp => G_lret X hr hd hp))
theorem G_callsl (X : gX p l e R s m args below meth c cc nL Ts own D cI cR A) {y : MethodName} {cws : List Cond} {rm : Room} {As rest : List Value} {wc wr : va_W} {post : Int64 → va_W → Prop} {bytes : ByteArray} {maxL nA idx : Nat} {ret : Option FieldType} {C : String} (hd : decode cc pc = .ok (.invokestatic idx, 3)) (hk : cK y cws bytes maxL ret nA C) (hG : GoodIn Ts (va_wsS own idx y cws))
    {mc ms : Nat} (hM : cMl l y cws rm mc ms D cI cR As wc post) (hrm : rm.cells = mc ∧ rm.slots = ms) (hR : rm.frames + 1 ≤ R.frames ∧ 8 + (maxL + 11) + rm.locals ≤ R.locals) (hst : st = As.reverse ++ rest) (hn : As.length = nA) (hW : (rest.map fun v => v.category).sum ≤ 8)
    (isC isR : List Nat) (hC : isC.map (fun i => ws[i]?) = wc.map some) (hRr : isR.map (fun i => ws[i]?) = wr.map some) (hnd : va_nd isC = true ∧ va_nd isR = true ∧ ∀ i ∈ isR, i ∉ isC) (hf : k + mc ≤ R.cells ∧ n + ms ≤ R.slots)
    (kk : ∀ (r : Int64) (u : va_W), post r u → G p l e R s m args below meth c D A nL Q (k + mc) (n + ms) (pc + 3) lv (.long r :: rest) (wr ++ u)) : G p l e R s m args below meth c D A nL Q k n pc lv st ws := by
  intro ls H locs hl hP hD hS
  obtain ⟨⟨ws', hw⟩, hy⟩ := hk
  have hPc := hP.sub isC (map_fm hC)
  have hDc := hD.sub isC hnd.1 hC
  have hFc := va_free (wc := wc) hD hS X.2.2.1 isC hC
  refine va_calll (va_runS (As := As) (rest := rest) X.1 (hM H.size) (va_cwS nA X.1.2.2.2.2 hG hw hrm.1 hrm.2 hy.2 hR) ⟨G_blind, fun U hU hW => ⟨rfl, by rw [hU], by rw [hU]; exact hPc, va_K.moved hW.alike X.2.1, hDc.weaken (fun _ _ _ _ => trivial)⟩⟩ rfl hn hl.1 hst (lv_room hW) hd hf) hS (fun q _ h => hFc q h) hFc (fun r u t H1 locs1 ht hvm hw2 hB hz1 hk1 hS1 => ?_)
  obtain ⟨hP1, hD1⟩ := hB
  rw [ht] at hP1
  obtain ⟨hP2, hD2⟩ := va_join (wr := wr) (w1 := u) hP hD isC isR hC hRr hnd.2.1 hnd.2.2 hk1 hFc hP1 hD1
  exact kk r u hw2 ls H1 locs1 hl hP2 hD2 hS1
theorem G1_callsl (X : gX p l e R s m args below meth c cc nL Ts own D cI cR A) {y : MethodName} {cws : List Cond} {rm : Room} {r : Int64} {As rest : List Value} {wc wr w1 ws' : va_W} {bytes : ByteArray} {maxL nA idx : Nat} {ret : Option FieldType} {C : String} (hd : decode cc pc = .ok (.invokestatic idx, 3)) (hk : cK y cws bytes maxL ret nA C) (hG : GoodIn Ts (va_wsS own idx y cws))
    (hM : cJ1 l y cws rm D cI cR As wc r w1) (hrm : rm.cells = 0 ∧ rm.slots = 0) (hR : rm.frames + 1 ≤ R.frames ∧ 8 + (maxL + 11) + rm.locals ≤ R.locals) (hst : st = As.reverse ++ rest) (hn : As.length = nA) (hW : (rest.map fun v => v.category).sum ≤ 8)
    (isC isR : List Nat) (hC : isC.map (fun i => ws[i]?) = wc.map some) (hRr : isR.map (fun i => ws[i]?) = wr.map some) (hnd : va_nd isC = true ∧ va_nd isR = true ∧ ∀ i ∈ isR, i ∉ isC) (hf : k ≤ R.cells ∧ n ≤ R.slots)
    (is : List Nat) (his : is.map (fun i => (wr ++ w1)[i]?) = ws'.map some) (hni : va_nd is = true)
    (kk : G p l e R s m args below meth c D A nL Q k n (pc + 3) lv (.long r :: rest) ws') : G p l e R s m args below meth c D A nL Q k n pc lv st ws :=
  G_callsl X hd hk hG hM hrm hR hst hn hW isC isR hC hRr hnd hf (fun r u q => by obtain ⟨rfl, rfl⟩ := q; exact G_ws is his hni kk)
end LONGS
