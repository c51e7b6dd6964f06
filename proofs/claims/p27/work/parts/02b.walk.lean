/-! a shorter walk: the goal speaks of known locals, stack and cells alone -/
abbrev tyK (cI cR : ClassId) : List (ClassId × FieldType) := [(cI, .int), (cR, .object RX3)]
def gX (p : Program) (l : Launch) (e : Env) (R : Room) (s : State) (m : MethodId) (args : Array Value) (below : List Frame) (meth : Method) (c : Code) (cc : ByteArray) (nL : Nat) (Ts : List Cond) (own : String) (D : va_G) (cI cR : ClassId) (A : Nat → Prop) : Prop :=
  CallFix p m c cc nL s args Ts own ∧ va_K D vwCl (tyK cI cR) s ∧ (∀ q : Nat, s.heap.size ≤ q → A q) ∧ meth.locks = false ∧ (l = l ∧ e = e ∧ R = R ∧ below = below)
def G (p : Program) (l : Launch) (e : Env) (R : Room) (s : State) (m : MethodId) (args : Array Value) (below : List Frame) (meth : Method) (c : Code) (D : va_G) (A : Nat → Prop) (nL : Nat) (Q : State → Prop) (k n : Nat) (pc : Nat) (lv : List (Nat × Value)) (st : List Value) (ws : va_W) : Prop :=
  ∀ (ls : Array Slot) (H : Heap) (locs : List Loc), lv_has ls nL lv → va_P D vwCl ws H → va_D A ws → va_S A s.heap H locs → W p l e R s m args below meth c H locs k n Q (F0 m pc ls st)
abbrev qB (D : va_G) (A : Nat → Prop) : va_W → State → Prop := fun u t => va_P D vwCl u t.heap ∧ va_D A u
abbrev pB (D : va_G) (cI cR : ClassId) (w : va_W) (sz : Nat) : State → Prop := fun U => U.heap.size = sz ∧ va_P D vwCl w U.heap ∧ va_K D vwCl (tyK cI cR) U ∧ va_D (fun _ => True) w
/-- contracts: an int comes back (or nothing, or a cell), and the cells behind it -/
def cMi (l : Launch) (y : MethodName) (cws : List Cond) (rm : Room) (mc ms : Nat) (D : va_G) (cI cR : ClassId) (av : List Value) (w : va_W) (post : Int32 → va_W → Prop) : Prop :=
  ∀ sz : Nat, Met l y cws rm (va_Pc av (pB D cI cR w sz)) (va_Qi post (qB D (va_A w sz)) (va_A w sz)) mc ms (va_A w sz)
def cMv (l : Launch) (y : MethodName) (cws : List Cond) (rm : Room) (mc ms : Nat) (D : va_G) (cI cR : ClassId) (av : List Value) (w : va_W) (post : va_W → Prop) : Prop :=
  ∀ sz : Nat, Met l y cws rm (va_Pc av (pB D cI cR w sz)) (va_Qv post (qB D (va_A w sz)) (va_A w sz)) mc ms (va_A w sz)
def cMr (l : Launch) (y : MethodName) (cws : List Cond) (rm : Room) (mc ms : Nat) (D : va_G) (cI cR : ClassId) (av : List Value) (w : va_W) (post : Nat → va_W → Prop) : Prop :=
  ∀ sz : Nat, Met l y cws rm (va_Pc av (pB D cI cR w sz)) (va_Qr (fun _ : va_W => True) (fun u a t => post a u ∧ qB D (va_A w sz) u t) (va_A w sz)) mc ms (va_A w sz)
abbrev cI1 (l : Launch) (y : MethodName) (cws : List Cond) (rm : Room) (D : va_G) (cI cR : ClassId) (av : List Value) (w : va_W) (r : Int32) (w' : va_W) : Prop := cMi l y cws rm 0 0 D cI cR av w (fun x u => x = r ∧ u = w')
abbrev cV1 (l : Launch) (y : MethodName) (cws : List Cond) (rm : Room) (D : va_G) (cI cR : ClassId) (av : List Value) (w : va_W) (w' : va_W) : Prop := cMv l y cws rm 0 0 D cI cR av w (fun u => u = w')
/-- what a call needs of the callee's tables -/
def cK (y : MethodName) (cws : List Cond) (bytes : ByteArray) (maxL : Nat) (ret : Option FieldType) (nA : Nat) (C : String) : Prop :=
  (∃ ws', cws = Cond.code y bytes maxL ret :: ws') ∧ y.cls = C ∧ y.cls ≠ "java/lang/invoke/MethodHandle" ∧ y.cls ≠ "java/lang/invoke/VarHandle" ∧ (parseMethodDescriptor y.desc).map (fun d => d.parameters.length) = some nA
theorem map_fm {α β : Type} {g : α → Option β} : ∀ {is : List α} {w : List β}, is.map g = w.map some → is.filterMap g = w
  | [], [], _ => rfl
  | [], _ :: _, h => by cases h
  | _ :: _, [], h => by cases h
  | i :: is, b :: w, h => by
    rw [List.map_cons, List.map_cons] at h
    obtain ⟨h1, h2⟩ := List.cons.inj h
    rw [List.filterMap_cons_some h1, map_fm h2]
theorem lk_nil {d k : Int} : Op.lookupswitch.offset [] d k = d := rfl
theorem lk_cons {a o d k : Int} {r : List (Int × Int)} (h : ¬ k = a) (hr : Op.lookupswitch.offset r d k = d) : Op.lookupswitch.offset ((a, o) :: r) d k = d := by
  rw [Op.lookupswitch.offset_cons, if_neg (fun e => h e.symm)]
  exact hr
theorem ofWF {l : Launch} {y : MethodName} {ws ws' : List Cond} {rm : Room} {Pc : Array Value → State → Prop} {Qc : Array Value → State → Outcome → State → Prop} {mc ms : Nat} {free : Addr → Prop} {cc : ByteArray} {maxL : Nat} {ret : Option FieldType}
    (hy : plainFor y = true) (hw : ws = Cond.code y cc maxL ret :: ws')
    (body : ∀ p e s m args below meth c s₁, BodyLoose p l y (headSpec ws rm) cc maxL ret e s m args below meth c s₁ → c.maxLocals = maxL → Pc args s →
      W p l e (headSpec ws rm).room s m args below meth c s.heap [] 0 0 (MQ below Qc args s mc ms free) (entryFrame m args maxL)) : Met l y ws rm Pc Qc mc ms free := by
  refine MetFree.of_bodySF (code := cc) (maxLocals := maxL) (ret := ret) hy ?_ ?_
  · intro args s m h hn
    obtain ⟨meth, c, h1, h2, h3, h4, h5, h6, -, -⟩ := Cond.code_spec hn (atoms_spec (ws := ws) h _ (by rw [hw]; exact List.mem_cons_self))
    exact ⟨meth, c, h1, h2, h3, h4, h5, h6⟩
  · intro p e s m args below meth c s₁ B hml hP _
    have hh0 : s₁.heap = s.heap := by rw [B.state]; rfl
    obtain ⟨t, a1, o, b1, b2, b3⟩ := body p e s m args below meth c s₁ B hml hP s₁ hh0 (Stand.of_body B)
    exact ⟨t, o, a1, b1, b2, ⟨b3.1, b3.2⟩⟩
section GG
variable {p : Program} {l : Launch} {e : Env} {R : Room} {s : State} {m : MethodId} {args : Array Value} {below : List Frame} {meth : Method} {c : Code} {Q : State → Prop} {cc : ByteArray} {nL : Nat} {Ts : List Cond} {own : String} {D : va_G} {cI cR : ClassId} {A : Nat → Prop} {k n pc : Nat} {lv : List (Nat × Value)} {st : List Value} {ws : va_W}
/-- the entry of a method -/
theorem cMi_of {y : MethodName} {cws cws' : List Cond} {rm : Room} {mc ms maxL : Nat} {ret : Option FieldType} {av : List Value} {w : va_W} {post : Int32 → va_W → Prop} {lv0 : List (Nat × Value)} (hy : plainFor y = true) (hw : cws = Cond.code y cc maxL ret :: cws') (ho : y.cls = own) (hz : (lg_sl av).length ≤ maxL) (hlv : lv_args 0 av = lv0)
    (body : ∀ p e s m args below meth c A, gX p l e (headSpec cws rm).room s m args below meth c cc maxL cws own D cI cR A → meth.sig.returnType = ret → args = av.toArray → G p l e (headSpec cws rm).room s m args below meth c D A maxL (MQ below (va_Qi post (qB D A) A) args s mc ms A) 0 0 0 lv0 [] w) : cMi l y cws rm mc ms D cI cR av w post := by
  intro sz
  refine ofWF (cc := cc) (maxL := maxL) (ret := ret) hy hw ?_
  intro p e s m args below meth c s₁ B hml hv
  obtain ⟨ha, hsz, hP, hK, hD0⟩ := hv
  subst hsz
  subst ha
  subst ho
  have X : gX p l e (headSpec cws rm).room s m av.toArray below meth c cc maxL cws y.cls D cI cR (va_A w s.heap.size) := ⟨⟨B.exec, B.bytes, hml, findClass_of_methodNamed B.named, atoms_spec (ws := cws) B.pre⟩, hK, fun q h => Or.inr h, B.notSynchronized, rfl, rfl, rfl, rfl⟩
  have g := body p e s m av.toArray below meth c (va_A w s.heap.size) X B.returns rfl
  have hl := lv_entry av (n := maxL) hz
  rw [lg_entry_eq]
  rw [hlv] at hl
  exact g _ _ _ hl hP hD0.self va_S.rf
theorem cMv_of {y : MethodName} {cws cws' : List Cond} {rm : Room} {mc ms maxL : Nat} {ret : Option FieldType} {av : List Value} {w : va_W} {post : va_W → Prop} {lv0 : List (Nat × Value)} (hy : plainFor y = true) (hw : cws = Cond.code y cc maxL ret :: cws') (ho : y.cls = own) (hz : (lg_sl av).length ≤ maxL) (hlv : lv_args 0 av = lv0)
    (body : ∀ p e s m args below meth c A, gX p l e (headSpec cws rm).room s m args below meth c cc maxL cws own D cI cR A → meth.sig.returnType = ret → args = av.toArray → G p l e (headSpec cws rm).room s m args below meth c D A maxL (MQ below (va_Qv post (qB D A) A) args s mc ms A) 0 0 0 lv0 [] w) : cMv l y cws rm mc ms D cI cR av w post := by
  intro sz
  refine ofWF (cc := cc) (maxL := maxL) (ret := ret) hy hw ?_
  intro p e s m args below meth c s₁ B hml hv
  obtain ⟨ha, hsz, hP, hK, hD0⟩ := hv
  subst hsz
  subst ha
  subst ho
  have X : gX p l e (headSpec cws rm).room s m av.toArray below meth c cc maxL cws y.cls D cI cR (va_A w s.heap.size) := ⟨⟨B.exec, B.bytes, hml, findClass_of_methodNamed B.named, atoms_spec (ws := cws) B.pre⟩, hK, fun q h => Or.inr h, B.notSynchronized, rfl, rfl, rfl, rfl⟩
  have g := body p e s m av.toArray below meth c (va_A w s.heap.size) X B.returns rfl
  have hl := lv_entry av (n := maxL) hz
  rw [lg_entry_eq]
  rw [hlv] at hl
  exact g _ _ _ hl hP hD0.self va_S.rf
theorem cMr_of {y : MethodName} {cws cws' : List Cond} {rm : Room} {mc ms maxL : Nat} {ret : Option FieldType} {av : List Value} {w : va_W} {post : Nat → va_W → Prop} {lv0 : List (Nat × Value)} (hy : plainFor y = true) (hw : cws = Cond.code y cc maxL ret :: cws') (ho : y.cls = own) (hz : (lg_sl av).length ≤ maxL) (hlv : lv_args 0 av = lv0)
    (body : ∀ p e s m args below meth c A, gX p l e (headSpec cws rm).room s m args below meth c cc maxL cws own D cI cR A → meth.sig.returnType = ret → args = av.toArray → G p l e (headSpec cws rm).room s m args below meth c D A maxL (MQ below (va_Qr (fun _ : va_W => True) (fun u a t => post a u ∧ qB D A u t) A) args s mc ms A) 0 0 0 lv0 [] w) : cMr l y cws rm mc ms D cI cR av w post := by
  intro sz
  refine ofWF (cc := cc) (maxL := maxL) (ret := ret) hy hw ?_
  intro p e s m args below meth c s₁ B hml hv
  obtain ⟨ha, hsz, hP, hK, hD0⟩ := hv
  subst hsz
  subst ha
  subst ho
  have X : gX p l e (headSpec cws rm).room s m av.toArray below meth c cc maxL cws y.cls D cI cR (va_A w s.heap.size) := ⟨⟨B.exec, B.bytes, hml, findClass_of_methodNamed B.named, atoms_spec (ws := cws) B.pre⟩, hK, fun q h => Or.inr h, B.notSynchronized, rfl, rfl, rfl, rfl⟩
  have g := body p e s m av.toArray below meth c (va_A w s.heap.size) X B.returns rfl
  have hl := lv_entry av (n := maxL) hz
  rw [lg_entry_eq]
  rw [hlv] at hl
  exact g _ _ _ hl hP hD0.self va_S.rf
/-- other orders of the same -/
theorem G_lv (is : List Nat) {lv' : List (Nat × Value)} (h : lv_pick lv is = lv') (kk : G p l e R s m args below meth c D A nL Q k n pc lv' st ws) : G p l e R s m args below meth c D A nL Q k n pc lv st ws :=
  fun ls H locs hl hP hD hS => kk ls H locs (lv_sub hl is h) hP hD hS
theorem G_ws (is : List Nat) {ws' : va_W} (h : is.map (fun i => ws[i]?) = ws'.map some) (hn : va_nd is = true) (kk : G p l e R s m args below meth c D A nL Q k n pc lv st ws') : G p l e R s m args below meth c D A nL Q k n pc lv st ws :=
  fun ls H locs hl hP hD hS => kk ls H locs hl (hP.sub is (map_fm h)) (hD.sub is hn h) hS
theorem G_pc {pc' : Nat} (h : pc = pc') (kk : G p l e R s m args below meth c D A nL Q k n pc' lv st ws) : G p l e R s m args below meth c D A nL Q k n pc lv st ws := h ▸ kk
section ROWS
theorem G_iconst (X : gX p l e R s m args below meth c cc nL Ts own D cI cR A) {z : Int} {v : Int32} (hd : decode cc pc = .ok (.iconst z, 1)) (hv : Int32.ofInt z = v) (kk : G p l e R s m args below meth c D A nL Q k n (pc + 1) lv (.int v :: st) ws) : G p l e R s m args below meth c D A nL Q k n pc lv st ws :=
  fun ls H locs hl hP hD hS => lv_iconst X.1.1 X.1.2.1 hd hv (kk ls H locs hl hP hD hS)
theorem G_bipush (X : gX p l e R s m args below meth c cc nL Ts own D cI cR A) {z : Int} {v : Int32} (hd : decode cc pc = .ok (.bipush z, 2)) (hv : (Int8.ofInt z).toInt32 = v) (kk : G p l e R s m args below meth c D A nL Q k n (pc + 2) lv (.int v :: st) ws) : G p l e R s m args below meth c D A nL Q k n pc lv st ws :=
  fun ls H locs hl hP hD hS => lv_bipush X.1.1 X.1.2.1 hd hv (kk ls H locs hl hP hD hS)
theorem G_sipush (X : gX p l e R s m args below meth c cc nL Ts own D cI cR A) {z : Int} {v : Int32} (hd : decode cc pc = .ok (.sipush z, 3)) (hv : (Int16.ofInt z).toInt32 = v) (kk : G p l e R s m args below meth c D A nL Q k n (pc + 3) lv (.int v :: st) ws) : G p l e R s m args below meth c D A nL Q k n pc lv st ws :=
  fun ls H locs hl hP hD hS => lv_sipush X.1.1 X.1.2.1 hd hv (kk ls H locs hl hP hD hS)
theorem G_ldc (X : gX p l e R s m args below meth c cc nL Ts own D cI cR A) {index : Nat} {v : Int32} (hd : decode cc pc = .ok (.ldc index, 2)) (hw : Cond.constant own index v ∈ Ts) (kk : G p l e R s m args below meth c D A nL Q k n (pc + 2) lv (.int v :: st) ws) : G p l e R s m args below meth c D A nL Q k n pc lv st ws :=
  fun ls H locs hl hP hD hS => lv_ldc X.1.1 X.1.2.1 X.1.2.2.2.1 (X.1.2.2.2.2 _ hw) hd (kk ls H locs hl hP hD hS)
theorem G_ldcf (X : gX p l e R s m args below meth c cc nL Ts own D cI cR A) {index : Nat} {v : UInt32} (hd : decode cc pc = .ok (.ldc index, 2)) (hw : Cond.constantFloat own index v ∈ Ts) (kk : G p l e R s m args below meth c D A nL Q k n (pc + 2) lv (.float v :: st) ws) : G p l e R s m args below meth c D A nL Q k n pc lv st ws :=
  fun ls H locs hl hP hD hS => lv_ldcf X.1.1 X.1.2.1 X.1.2.2.2.1 (X.1.2.2.2.2 _ hw) hd (kk ls H locs hl hP hD hS)
theorem G_iload_n (X : gX p l e R s m args below meth c cc nL Ts own D cI cR A) {i : Fin 4} (hd : decode cc pc = .ok (.iload_n i, 1)) (j : Nat) {x : Int32} (h : lv[j]? = some ((i : Nat), .int x)) (kk : G p l e R s m args below meth c D A nL Q k n (pc + 1) lv (.int x :: st) ws) : G p l e R s m args below meth c D A nL Q k n pc lv st ws :=
  fun ls H locs hl hP hD hS => lv_iload_n X.1.1 X.1.2.1 hd rfl (lv_at hl j h) (kk ls H locs hl hP hD hS)
theorem G_iload (X : gX p l e R s m args below meth c cc nL Ts own D cI cR A) {i : Nat} (hd : decode cc pc = .ok (.iload i, 2)) (j : Nat) {x : Int32} (h : lv[j]? = some (i, .int x)) (kk : G p l e R s m args below meth c D A nL Q k n (pc + 2) lv (.int x :: st) ws) : G p l e R s m args below meth c D A nL Q k n pc lv st ws :=
  fun ls H locs hl hP hD hS => lv_iload X.1.1 X.1.2.1 hd (lv_at hl j h) (kk ls H locs hl hP hD hS)
theorem G_fload_n (X : gX p l e R s m args below meth c cc nL Ts own D cI cR A) {i : Fin 4} (hd : decode cc pc = .ok (.fload_n i, 1)) (j : Nat) {x : UInt32} (h : lv[j]? = some ((i : Nat), .float x)) (kk : G p l e R s m args below meth c D A nL Q k n (pc + 1) lv (.float x :: st) ws) : G p l e R s m args below meth c D A nL Q k n pc lv st ws :=
  fun ls H locs hl hP hD hS => lv_fload_n X.1.1 X.1.2.1 hd rfl (lv_at hl j h) (kk ls H locs hl hP hD hS)
theorem G_aload_n (X : gX p l e R s m args below meth c cc nL Ts own D cI cR A) {i : Fin 4} (hd : decode cc pc = .ok (.aload_n i, 1)) (j : Nat) {x : Nat} (h : lv[j]? = some ((i : Nat), .ref x)) (kk : G p l e R s m args below meth c D A nL Q k n (pc + 1) lv (.ref x :: st) ws) : G p l e R s m args below meth c D A nL Q k n pc lv st ws :=
  fun ls H locs hl hP hD hS => lv_aload_n X.1.1 X.1.2.1 hd rfl (lv_at hl j h) (kk ls H locs hl hP hD hS)
theorem G_aload (X : gX p l e R s m args below meth c cc nL Ts own D cI cR A) {i : Nat} (hd : decode cc pc = .ok (.aload i, 2)) (j : Nat) {x : Nat} (h : lv[j]? = some (i, .ref x)) (kk : G p l e R s m args below meth c D A nL Q k n (pc + 2) lv (.ref x :: st) ws) : G p l e R s m args below meth c D A nL Q k n pc lv st ws :=
  fun ls H locs hl hP hD hS => lv_aload X.1.1 X.1.2.1 hd (lv_at hl j h) (kk ls H locs hl hP hD hS)
theorem G_istore_n (X : gX p l e R s m args below meth c cc nL Ts own D cI cR A) {i : Fin 4} {x : Int32} {lv' : List (Nat × Value)} (hd : decode cc pc = .ok (.istore_n i, 1)) (hn : (i : Nat) < nL) (h : ((i : Nat), Value.int x) :: lv.filter (fun q => !(q.1 == (i : Nat)) && !(q.1 + 1 == (i : Nat) && q.2.category == 2)) = lv') (kk : G p l e R s m args below meth c D A nL Q k n (pc + 1) lv' st ws) : G p l e R s m args below meth c D A nL Q k n pc lv (.int x :: st) ws :=
  fun ls H locs hl hP hD hS => lv_istore_n X.1.1 X.1.2.1 hd rfl hl hn h (fun ls' hl' => kk ls' H locs hl' hP hD hS)
theorem G_istore (X : gX p l e R s m args below meth c cc nL Ts own D cI cR A) {i : Nat} {x : Int32} {lv' : List (Nat × Value)} (hd : decode cc pc = .ok (.istore i, 2)) (hn : i < nL) (h : (i, Value.int x) :: lv.filter (fun q => !(q.1 == i) && !(q.1 + 1 == i && q.2.category == 2)) = lv') (kk : G p l e R s m args below meth c D A nL Q k n (pc + 2) lv' st ws) : G p l e R s m args below meth c D A nL Q k n pc lv (.int x :: st) ws :=
  fun ls H locs hl hP hD hS => lv_istore X.1.1 X.1.2.1 hd hl hn h (fun ls' hl' => kk ls' H locs hl' hP hD hS)
theorem G_fstore_n (X : gX p l e R s m args below meth c cc nL Ts own D cI cR A) {i : Fin 4} {x : UInt32} {lv' : List (Nat × Value)} (hd : decode cc pc = .ok (.fstore_n i, 1)) (hn : (i : Nat) < nL) (h : ((i : Nat), Value.float x) :: lv.filter (fun q => !(q.1 == (i : Nat)) && !(q.1 + 1 == (i : Nat) && q.2.category == 2)) = lv') (kk : G p l e R s m args below meth c D A nL Q k n (pc + 1) lv' st ws) : G p l e R s m args below meth c D A nL Q k n pc lv (.float x :: st) ws :=
  fun ls H locs hl hP hD hS => lv_fstore_n X.1.1 X.1.2.1 hd rfl hl hn h (fun ls' hl' => kk ls' H locs hl' hP hD hS)
theorem G_astore_n (X : gX p l e R s m args below meth c cc nL Ts own D cI cR A) {i : Fin 4} {x : Nat} {lv' : List (Nat × Value)} (hd : decode cc pc = .ok (.astore_n i, 1)) (hn : (i : Nat) < nL) (h : ((i : Nat), Value.ref x) :: lv.filter (fun q => !(q.1 == (i : Nat)) && !(q.1 + 1 == (i : Nat) && q.2.category == 2)) = lv') (kk : G p l e R s m args below meth c D A nL Q k n (pc + 1) lv' st ws) : G p l e R s m args below meth c D A nL Q k n pc lv (.ref x :: st) ws :=
  fun ls H locs hl hP hD hS => lv_astore_n X.1.1 X.1.2.1 hd rfl hl hn h (fun ls' hl' => kk ls' H locs hl' hP hD hS)
theorem G_astore (X : gX p l e R s m args below meth c cc nL Ts own D cI cR A) {i : Nat} {x : Nat} {lv' : List (Nat × Value)} (hd : decode cc pc = .ok (.astore i, 2)) (hn : i < nL) (h : (i, Value.ref x) :: lv.filter (fun q => !(q.1 == i) && !(q.1 + 1 == i && q.2.category == 2)) = lv') (kk : G p l e R s m args below meth c D A nL Q k n (pc + 2) lv' st ws) : G p l e R s m args below meth c D A nL Q k n pc lv (.ref x :: st) ws :=
  fun ls H locs hl hP hD hS => lv_astore X.1.1 X.1.2.1 hd hl hn h (fun ls' hl' => kk ls' H locs hl' hP hD hS)
theorem G_iinc (X : gX p l e R s m args below meth c cc nL Ts own D cI cR A) {i : Nat} {z : Int} {x v : Int32} {lv' : List (Nat × Value)} (hd : decode cc pc = .ok (.iinc i z, 3)) (j : Nat) (hj : lv[j]? = some (i, .int x)) (hv : x + Int32.ofInt z = v) (hn : i < nL) (h : (i, Value.int v) :: lv.filter (fun q => !(q.1 == i) && !(q.1 + 1 == i && q.2.category == 2)) = lv') (kk : G p l e R s m args below meth c D A nL Q k n (pc + 3) lv' st ws) : G p l e R s m args below meth c D A nL Q k n pc lv st ws :=
  fun ls H locs hl hP hD hS => lv_iinc X.1.1 X.1.2.1 hd hl (k := j) hj hv hn h (fun ls' hl' => kk ls' H locs hl' hP hD hS)
theorem G_iadd (X : gX p l e R s m args below meth c cc nL Ts own D cI cR A) {x y : Int32} (hd : decode cc pc = .ok (.iadd, 1)) (kk : G p l e R s m args below meth c D A nL Q k n (pc + 1) lv (.int (x + y) :: st) ws) : G p l e R s m args below meth c D A nL Q k n pc lv (.int y :: .int x :: st) ws :=
  fun ls H locs hl hP hD hS => lv_iadd X.1.1 X.1.2.1 hd (kk ls H locs hl hP hD hS)
theorem G_isub (X : gX p l e R s m args below meth c cc nL Ts own D cI cR A) {x y : Int32} (hd : decode cc pc = .ok (.isub, 1)) (kk : G p l e R s m args below meth c D A nL Q k n (pc + 1) lv (.int (x - y) :: st) ws) : G p l e R s m args below meth c D A nL Q k n pc lv (.int y :: .int x :: st) ws :=
  fun ls H locs hl hP hD hS => lv_isub X.1.1 X.1.2.1 hd (kk ls H locs hl hP hD hS)
theorem G_imul (X : gX p l e R s m args below meth c cc nL Ts own D cI cR A) {x y : Int32} (hd : decode cc pc = .ok (.imul, 1)) (kk : G p l e R s m args below meth c D A nL Q k n (pc + 1) lv (.int (x * y) :: st) ws) : G p l e R s m args below meth c D A nL Q k n pc lv (.int y :: .int x :: st) ws :=
  fun ls H locs hl hP hD hS => lv_imul X.1.1 X.1.2.1 hd (kk ls H locs hl hP hD hS)
theorem G_iand (X : gX p l e R s m args below meth c cc nL Ts own D cI cR A) {x y : Int32} (hd : decode cc pc = .ok (.iand, 1)) (kk : G p l e R s m args below meth c D A nL Q k n (pc + 1) lv (.int (x &&& y) :: st) ws) : G p l e R s m args below meth c D A nL Q k n pc lv (.int y :: .int x :: st) ws :=
  fun ls H locs hl hP hD hS => lv_iand X.1.1 X.1.2.1 hd (kk ls H locs hl hP hD hS)
theorem G_ior (X : gX p l e R s m args below meth c cc nL Ts own D cI cR A) {x y : Int32} (hd : decode cc pc = .ok (.ior, 1)) (kk : G p l e R s m args below meth c D A nL Q k n (pc + 1) lv (.int (x ||| y) :: st) ws) : G p l e R s m args below meth c D A nL Q k n pc lv (.int y :: .int x :: st) ws :=
  fun ls H locs hl hP hD hS => lv_ior X.1.1 X.1.2.1 hd (kk ls H locs hl hP hD hS)
theorem G_ishl (X : gX p l e R s m args below meth c cc nL Ts own D cI cR A) {x y : Int32} (hd : decode cc pc = .ok (.ishl, 1)) (kk : G p l e R s m args below meth c D A nL Q k n (pc + 1) lv (.int (x <<< (y &&& 31)) :: st) ws) : G p l e R s m args below meth c D A nL Q k n pc lv (.int y :: .int x :: st) ws :=
  fun ls H locs hl hP hD hS => lv_ishl X.1.1 X.1.2.1 hd (kk ls H locs hl hP hD hS)
theorem G_ishr (X : gX p l e R s m args below meth c cc nL Ts own D cI cR A) {x y : Int32} (hd : decode cc pc = .ok (.ishr, 1)) (kk : G p l e R s m args below meth c D A nL Q k n (pc + 1) lv (.int (x >>> (y &&& 31)) :: st) ws) : G p l e R s m args below meth c D A nL Q k n pc lv (.int y :: .int x :: st) ws :=
  fun ls H locs hl hP hD hS => lv_ishr X.1.1 X.1.2.1 hd (kk ls H locs hl hP hD hS)
theorem G_idiv (X : gX p l e R s m args below meth c cc nL Ts own D cI cR A) {x y : Int32} (hd : decode cc pc = .ok (.idiv, 1)) (hne : ¬ y = 0) (kk : G p l e R s m args below meth c D A nL Q k n (pc + 1) lv (.int (x / y) :: st) ws) : G p l e R s m args below meth c D A nL Q k n pc lv (.int y :: .int x :: st) ws :=
  fun ls H locs hl hP hD hS => lv_idiv X.1.1 X.1.2.1 hd hne (kk ls H locs hl hP hD hS)
theorem G_irem (X : gX p l e R s m args below meth c cc nL Ts own D cI cR A) {x y : Int32} (hd : decode cc pc = .ok (.irem, 1)) (hne : ¬ y = 0) (kk : G p l e R s m args below meth c D A nL Q k n (pc + 1) lv (.int (x - x / y * y) :: st) ws) : G p l e R s m args below meth c D A nL Q k n pc lv (.int y :: .int x :: st) ws :=
  fun ls H locs hl hP hD hS => lv_irem X.1.1 X.1.2.1 hd hne (kk ls H locs hl hP hD hS)
theorem G_iremA (X : gX p l e R s m args below meth c cc nL Ts own D cI cR A) {x y z : Int32} (hd : decode cc pc = .ok (.irem, 1)) (h : rmA x y = some z) (kk : G p l e R s m args below meth c D A nL Q k n (pc + 1) lv (.int z :: st) ws) : G p l e R s m args below meth c D A nL Q k n pc lv (.int y :: .int x :: st) ws :=
  fun ls H locs hl hP hD hS => lv_irem X.1.1 X.1.2.1 hd (rmA_in h).1 (by rw [(rmA_in h).2]; exact kk ls H locs hl hP hD hS)
theorem G_ineg (X : gX p l e R s m args below meth c cc nL Ts own D cI cR A) {x : Int32} (hd : decode cc pc = .ok (.ineg, 1)) (kk : G p l e R s m args below meth c D A nL Q k n (pc + 1) lv (.int (-x) :: st) ws) : G p l e R s m args below meth c D A nL Q k n pc lv (.int x :: st) ws :=
  fun ls H locs hl hP hD hS => lv_ineg X.1.1 X.1.2.1 hd (kk ls H locs hl hP hD hS)
theorem G_dup (X : gX p l e R s m args below meth c cc nL Ts own D cI cR A) {v : Value} (hd : decode cc pc = .ok (.dup, 1)) (hv : v.category = 1) (kk : G p l e R s m args below meth c D A nL Q k n (pc + 1) lv (v :: v :: st) ws) : G p l e R s m args below meth c D A nL Q k n pc lv (v :: st) ws :=
  fun ls H locs hl hP hD hS => lv_dup X.1.1 X.1.2.1 hd hv (kk ls H locs hl hP hD hS)
theorem G_pop (X : gX p l e R s m args below meth c cc nL Ts own D cI cR A) {v : Value} (hd : decode cc pc = .ok (.pop, 1)) (hv : v.category = 1) (kk : G p l e R s m args below meth c D A nL Q k n (pc + 1) lv st ws) : G p l e R s m args below meth c D A nL Q k n pc lv (v :: st) ws :=
  fun ls H locs hl hP hD hS => lv_pop X.1.1 X.1.2.1 hd hv (kk ls H locs hl hP hD hS)
theorem G_dup2 (X : gX p l e R s m args below meth c cc nL Ts own D cI cR A) {v w : Value} (hd : decode cc pc = .ok (.dup2, 1)) (hv : v.category = 1) (hw : w.category = 1) (kk : G p l e R s m args below meth c D A nL Q k n (pc + 1) lv (v :: w :: v :: w :: st) ws) : G p l e R s m args below meth c D A nL Q k n pc lv (v :: w :: st) ws :=
  fun ls H locs hl hP hD hS => lv_dup2_11 X.1.1 X.1.2.1 hd hv hw (kk ls H locs hl hP hD hS)
theorem G_goto (X : gX p l e R s m args below meth c cc nL Ts own D cI cR A) {off : Int} {tgt : Nat} (hd : decode cc pc = .ok (.goto off, 3)) (ht : (pc : Int) + off = (tgt : Int)) (kk : G p l e R s m args below meth c D A nL Q k n tgt lv st ws) : G p l e R s m args below meth c D A nL Q k n pc lv st ws :=
  fun ls H locs hl hP hD hS => lv_goto X.1.1 X.1.2.1 hd ht (kk ls H locs hl hP hD hS)
theorem G_if_eq (X : gX p l e R s m args below meth c cc nL Ts own D cI cR A) {x : Int32} {off : Int} {tgt : Nat} (hd : decode cc pc = .ok (.ifCond .eq off, 3)) (ht : (pc : Int) + off = (tgt : Int)) (kt : x = 0 → G p l e R s m args below meth c D A nL Q k n tgt lv st ws) (kf : ¬ x = 0 → G p l e R s m args below meth c D A nL Q k n (pc + 3) lv st ws) : G p l e R s m args below meth c D A nL Q k n pc lv (.int x :: st) ws :=
  fun ls H locs hl hP hD hS => lv_if_eq X.1.1 X.1.2.1 hd ht (fun q => kt q ls H locs hl hP hD hS) (fun q => kf q ls H locs hl hP hD hS)
theorem G_icmp_eq (X : gX p l e R s m args below meth c cc nL Ts own D cI cR A) {x y : Int32} {off : Int} {tgt : Nat} (hd : decode cc pc = .ok (.if_icmp .eq off, 3)) (ht : (pc : Int) + off = (tgt : Int)) (kt : x = y → G p l e R s m args below meth c D A nL Q k n tgt lv st ws) (kf : ¬ x = y → G p l e R s m args below meth c D A nL Q k n (pc + 3) lv st ws) : G p l e R s m args below meth c D A nL Q k n pc lv (.int y :: .int x :: st) ws :=
  fun ls H locs hl hP hD hS => lv_icmp_eq X.1.1 X.1.2.1 hd ht (fun q => kt q ls H locs hl hP hD hS) (fun q => kf q ls H locs hl hP hD hS)
theorem G_if_ne (X : gX p l e R s m args below meth c cc nL Ts own D cI cR A) {x : Int32} {off : Int} {tgt : Nat} (hd : decode cc pc = .ok (.ifCond .ne off, 3)) (ht : (pc : Int) + off = (tgt : Int)) (kt : x = 0 → G p l e R s m args below meth c D A nL Q k n (pc + 3) lv st ws) (kf : ¬ x = 0 → G p l e R s m args below meth c D A nL Q k n tgt lv st ws) : G p l e R s m args below meth c D A nL Q k n pc lv (.int x :: st) ws :=
  fun ls H locs hl hP hD hS => lv_if_ne X.1.1 X.1.2.1 hd ht (fun q => kf q ls H locs hl hP hD hS) (fun q => kt q ls H locs hl hP hD hS)
theorem G_icmp_ne (X : gX p l e R s m args below meth c cc nL Ts own D cI cR A) {x y : Int32} {off : Int} {tgt : Nat} (hd : decode cc pc = .ok (.if_icmp .ne off, 3)) (ht : (pc : Int) + off = (tgt : Int)) (kt : x = y → G p l e R s m args below meth c D A nL Q k n (pc + 3) lv st ws) (kf : ¬ x = y → G p l e R s m args below meth c D A nL Q k n tgt lv st ws) : G p l e R s m args below meth c D A nL Q k n pc lv (.int y :: .int x :: st) ws :=
  fun ls H locs hl hP hD hS => lv_icmp_ne X.1.1 X.1.2.1 hd ht (fun q => kf q ls H locs hl hP hD hS) (fun q => kt q ls H locs hl hP hD hS)
theorem G_if_lt (X : gX p l e R s m args below meth c cc nL Ts own D cI cR A) {x : Int32} {off : Int} {tgt : Nat} (hd : decode cc pc = .ok (.ifCond .lt off, 3)) (ht : (pc : Int) + off = (tgt : Int)) (kt : x < 0 → G p l e R s m args below meth c D A nL Q k n tgt lv st ws) (kf : ¬ x < 0 → G p l e R s m args below meth c D A nL Q k n (pc + 3) lv st ws) : G p l e R s m args below meth c D A nL Q k n pc lv (.int x :: st) ws :=
  fun ls H locs hl hP hD hS => lv_if_lt X.1.1 X.1.2.1 hd ht (fun q => kt q ls H locs hl hP hD hS) (fun q => kf q ls H locs hl hP hD hS)
theorem G_icmp_lt (X : gX p l e R s m args below meth c cc nL Ts own D cI cR A) {x y : Int32} {off : Int} {tgt : Nat} (hd : decode cc pc = .ok (.if_icmp .lt off, 3)) (ht : (pc : Int) + off = (tgt : Int)) (kt : x < y → G p l e R s m args below meth c D A nL Q k n tgt lv st ws) (kf : ¬ x < y → G p l e R s m args below meth c D A nL Q k n (pc + 3) lv st ws) : G p l e R s m args below meth c D A nL Q k n pc lv (.int y :: .int x :: st) ws :=
  fun ls H locs hl hP hD hS => lv_icmp_lt X.1.1 X.1.2.1 hd ht (fun q => kt q ls H locs hl hP hD hS) (fun q => kf q ls H locs hl hP hD hS)
theorem G_if_ge (X : gX p l e R s m args below meth c cc nL Ts own D cI cR A) {x : Int32} {off : Int} {tgt : Nat} (hd : decode cc pc = .ok (.ifCond .ge off, 3)) (ht : (pc : Int) + off = (tgt : Int)) (kt : 0 ≤ x → G p l e R s m args below meth c D A nL Q k n tgt lv st ws) (kf : ¬ 0 ≤ x → G p l e R s m args below meth c D A nL Q k n (pc + 3) lv st ws) : G p l e R s m args below meth c D A nL Q k n pc lv (.int x :: st) ws :=
  fun ls H locs hl hP hD hS => lv_if_ge X.1.1 X.1.2.1 hd ht (fun q => kt q ls H locs hl hP hD hS) (fun q => kf q ls H locs hl hP hD hS)
theorem G_icmp_ge (X : gX p l e R s m args below meth c cc nL Ts own D cI cR A) {x y : Int32} {off : Int} {tgt : Nat} (hd : decode cc pc = .ok (.if_icmp .ge off, 3)) (ht : (pc : Int) + off = (tgt : Int)) (kt : y ≤ x → G p l e R s m args below meth c D A nL Q k n tgt lv st ws) (kf : ¬ y ≤ x → G p l e R s m args below meth c D A nL Q k n (pc + 3) lv st ws) : G p l e R s m args below meth c D A nL Q k n pc lv (.int y :: .int x :: st) ws :=
  fun ls H locs hl hP hD hS => lv_icmp_ge X.1.1 X.1.2.1 hd ht (fun q => kt q ls H locs hl hP hD hS) (fun q => kf q ls H locs hl hP hD hS)
theorem G_if_gt (X : gX p l e R s m args below meth c cc nL Ts own D cI cR A) {x : Int32} {off : Int} {tgt : Nat} (hd : decode cc pc = .ok (.ifCond .gt off, 3)) (ht : (pc : Int) + off = (tgt : Int)) (kt : 0 < x → G p l e R s m args below meth c D A nL Q k n tgt lv st ws) (kf : ¬ 0 < x → G p l e R s m args below meth c D A nL Q k n (pc + 3) lv st ws) : G p l e R s m args below meth c D A nL Q k n pc lv (.int x :: st) ws :=
  fun ls H locs hl hP hD hS => lv_if_gt X.1.1 X.1.2.1 hd ht (fun q => kt q ls H locs hl hP hD hS) (fun q => kf q ls H locs hl hP hD hS)
theorem G_icmp_gt (X : gX p l e R s m args below meth c cc nL Ts own D cI cR A) {x y : Int32} {off : Int} {tgt : Nat} (hd : decode cc pc = .ok (.if_icmp .gt off, 3)) (ht : (pc : Int) + off = (tgt : Int)) (kt : y < x → G p l e R s m args below meth c D A nL Q k n tgt lv st ws) (kf : ¬ y < x → G p l e R s m args below meth c D A nL Q k n (pc + 3) lv st ws) : G p l e R s m args below meth c D A nL Q k n pc lv (.int y :: .int x :: st) ws :=
  fun ls H locs hl hP hD hS => lv_icmp_gt X.1.1 X.1.2.1 hd ht (fun q => kt q ls H locs hl hP hD hS) (fun q => kf q ls H locs hl hP hD hS)
theorem G_if_le (X : gX p l e R s m args below meth c cc nL Ts own D cI cR A) {x : Int32} {off : Int} {tgt : Nat} (hd : decode cc pc = .ok (.ifCond .le off, 3)) (ht : (pc : Int) + off = (tgt : Int)) (kt : x ≤ 0 → G p l e R s m args below meth c D A nL Q k n tgt lv st ws) (kf : ¬ x ≤ 0 → G p l e R s m args below meth c D A nL Q k n (pc + 3) lv st ws) : G p l e R s m args below meth c D A nL Q k n pc lv (.int x :: st) ws :=
  fun ls H locs hl hP hD hS => lv_if_le X.1.1 X.1.2.1 hd ht (fun q => kt q ls H locs hl hP hD hS) (fun q => kf q ls H locs hl hP hD hS)
theorem G_icmp_le (X : gX p l e R s m args below meth c cc nL Ts own D cI cR A) {x y : Int32} {off : Int} {tgt : Nat} (hd : decode cc pc = .ok (.if_icmp .le off, 3)) (ht : (pc : Int) + off = (tgt : Int)) (kt : x ≤ y → G p l e R s m args below meth c D A nL Q k n tgt lv st ws) (kf : ¬ x ≤ y → G p l e R s m args below meth c D A nL Q k n (pc + 3) lv st ws) : G p l e R s m args below meth c D A nL Q k n pc lv (.int y :: .int x :: st) ws :=
  fun ls H locs hl hP hD hS => lv_icmp_le X.1.1 X.1.2.1 hd ht (fun q => kt q ls H locs hl hP hD hS) (fun q => kf q ls H locs hl hP hD hS)
theorem G_iald (X : gX p l e R s m args below meth c cc nL Ts own D cI cR A) {a i0 : Nat} {f : Nat → Int32} {z : Nat} {i x : Int32} (hd : decode cc pc = .ok (.iaload, 1)) (ha : ws[i0]? = some (a, .inl (cI, z, .inl f))) (hx : ldA z f i = some x) (kk : G p l e R s m args below meth c D A nL Q k n (pc + 1) lv (.int x :: st) ws) : G p l e R s m args below meth c D A nL Q k n pc lv (.int i :: .ref a :: st) ws :=
  fun ls H locs hl hP hD hS => va_iald X.1.1 X.1.2.1 X.2.1 hP i0 0 ha rfl (ldA_in hx).1 hd (by rw [(ldA_in hx).2]; exact kk ls H locs hl hP hD hS)
theorem G_iast (X : gX p l e R s m args below meth c cc nL Ts own D cI cR A) {a i0 : Nat} {f g : Nat → Int32} {z : Nat} {i x : Int32} {ws' : va_W} (hd : decode cc pc = .ok (.iastore, 1)) (ha : ws[i0]? = some (a, .inl (cI, z, .inl f))) (hx : stA z f i x = some g) (hw : ws.set i0 (a, .inl (cI, z, .inl g)) = ws') (kk : G p l e R s m args below meth c D A nL Q k n (pc + 1) lv st ws') : G p l e R s m args below meth c D A nL Q k n pc lv (.int x :: .int i :: .ref a :: st) ws := by
  intro ls H locs hl hP hD hS
  refine va_iast X.1.1 X.1.2.1 X.2.1 hP hD hS i0 0 ha rfl (stA_in hx).1 hd ?_
  rw [(stA_in hx).2, hw]
  intro H1 locs1 hP1 hD1 hS1
  exact kk ls H1 locs1 hl hP1 hD1 hS1
theorem G_get (X : gX p l e R s m args below meth c cc nL Ts own D cI cR A) {a i0 ci j index : Nat} {C ref : String} {T : u_T} {N : Nat} {fs : List Value} {v : Value} (hd : decode cc pc = .ok (.getfield index, 3)) (he : ws[i0]? = some (a, .inr (ci, fs))) (hc : vwCl[ci]? = some (C, T, N)) (hin : ∀ w ∈ u_ws C T N, w ∈ Ts) (hk : j < N) (hlink : Cond.fieldLink own index ref (T j).2.1 (T j).2.2.1 ∈ Ts) (hs : (T j).1 = ref) (hv : fs[j]? = some v) (kk : G p l e R s m args below meth c D A nL Q k n (pc + 3) lv (v :: st) ws) : G p l e R s m args below meth c D A nL Q k n pc lv (.ref a :: st) ws :=
  fun ls H locs hl hP hD hS => va_get X.1.1 X.1.2.1 X.1.2.2.2.2 hin X.1.2.2.2.1 X.2.1 hP i0 he hc j hk (X.1.2.2.2.2 _ hlink) (fun x hx => by rw [← hs]; exact hx) hv hd (kk ls H locs hl hP hD hS)
theorem G_put (X : gX p l e R s m args below meth c cc nL Ts own D cI cR A) {a i0 ci j index : Nat} {C ref : String} {T : u_T} {N : Nat} {fs : List Value} {v : Value} {ty : FieldType} {ws' : va_W} (ty0 : Nat → FieldType) (hd : decode cc pc = .ok (.putfield index, 3)) (he : ws[i0]? = some (a, .inr (ci, fs))) (hc : vwCl[ci]? = some (C, T, N)) (hin : ∀ w ∈ u_ws C T N, w ∈ Ts) (hty : ∀ k, k < N → parseFieldDescriptor (T k).2.2.1 = some (ty0 k)) (hnm : ∀ a, a < N → ∀ b, b < N → a ≠ b → (T a).2.1 ≠ (T b).2.1) (hk : j < N) (hlink : Cond.fieldLink own index ref (T j).2.1 (T j).2.2.1 ∈ Ts) (hs : (T j).1 = ref) (hfin : (T j).2.2.2 = false) (ht : ty0 j = ty) (hn : narrow ty v = v) (hf : fits ty v = true) (hl0 : j < fs.length) (hw : ws.set i0 (a, .inr (ci, fs.set j v)) = ws') (kk : G p l e R s m args below meth c D A nL Q k n (pc + 3) lv st ws') : G p l e R s m args below meth c D A nL Q k n pc lv (v :: .ref a :: st) ws := by
  intro ls H locs hl hP hD hS
  refine va_put X.1.1 X.1.2.1 X.1.2.2.2.2 hin ty0 hty hnm X.1.2.2.2.1 X.2.1 hP hD hS i0 he hc j hk (X.1.2.2.2.2 _ hlink) (fun x hx => by rw [← hs]; exact hx) hfin (by rw [← ht]; exact hty j hk) hn hf hl0 hd ?_
  rw [hw]
  intro H1 locs1 hP1 hD1 hS1
  exact kk ls H1 locs1 hl hP1 hD1 hS1
theorem G_ifnull (X : gX p l e R s m args below meth c cc nL Ts own D cI cR A) {x : Nat} {off : Int} (hd : decode cc pc = .ok (.ifnull off, 3)) (kk : G p l e R s m args below meth c D A nL Q k n (pc + 3) lv st ws) : G p l e R s m args below meth c D A nL Q k n pc lv (.ref x :: st) ws :=
  fun ls H locs hl hP hD hS => lv_ifnull X.1.1 X.1.2.1 hd (kk ls H locs hl hP hD hS)
theorem G_ifnonnull (X : gX p l e R s m args below meth c cc nL Ts own D cI cR A) {x : Nat} {off : Int} {tgt : Nat} (hd : decode cc pc = .ok (.ifnonnull off, 3)) (ht : (pc : Int) + off = (tgt : Int)) (kk : G p l e R s m args below meth c D A nL Q k n tgt lv st ws) : G p l e R s m args below meth c D A nL Q k n pc lv (.ref x :: st) ws :=
  fun ls H locs hl hP hD hS => lv_ifnonnull X.1.1 X.1.2.1 hd ht (kk ls H locs hl hP hD hS)
theorem G_lookup (X : gX p l e R s m args below meth c cc nL Ts own D cI cR A) {dflt : Int} {ps : Array (Int × Int)} {len : Nat} {x : Int32} {off : Int} {tgt : Nat} (hd : decode cc pc = .ok (.lookupswitch dflt ps, len)) (hp : (ps.toList.zip (ps.toList.drop 1)).all (fun (a, next) => a.1 < next.1) = true) (ho : Op.lookupswitch.offset ps.toList dflt x.toInt = off) (ht : (pc : Int) + off = (tgt : Int)) (kk : G p l e R s m args below meth c D A nL Q k n tgt lv st ws) : G p l e R s m args below meth c D A nL Q k n pc lv (.int x :: st) ws :=
  fun ls H locs hl hP hD hS => lv_lookup X.1.1 X.1.2.1 hd hp ho ht (kk ls H locs hl hP hD hS)
theorem G_tableOut (X : gX p l e R s m args below meth c cc nL Ts own D cI cR A) {dflt lo hi : Int} {offs : Array Int} {len : Nat} {x : Int32} {tgt : Nat} (hd : decode cc pc = .ok (.tableswitch dflt lo hi offs, len)) (h : x.toInt < lo ∨ hi < x.toInt) (ht : (pc : Int) + dflt = (tgt : Int)) (kk : G p l e R s m args below meth c D A nL Q k n tgt lv st ws) : G p l e R s m args below meth c D A nL Q k n pc lv (.int x :: st) ws :=
  fun ls H locs hl hP hD hS => lv_tableOut X.1.1 X.1.2.1 hd h ht (kk ls H locs hl hP hD hS)
theorem G_tableIn (X : gX p l e R s m args below meth c cc nL Ts own D cI cR A) {dflt lo hi : Int} {offs : Array Int} {len : Nat} {x : Int32} {off : Int} {tgt : Nat} (hd : decode cc pc = .ok (.tableswitch dflt lo hi offs, len)) (h1 : ¬ x.toInt < lo) (h2 : ¬ hi < x.toInt) (ho : offs[(x.toInt - lo).toNat]? = some off) (ht : (pc : Int) + off = (tgt : Int)) (kk : G p l e R s m args below meth c D A nL Q k n tgt lv st ws) : G p l e R s m args below meth c D A nL Q k n pc lv (.int x :: st) ws :=
  fun ls H locs hl hP hD hS => lv_tableIn X.1.1 X.1.2.1 hd h1 h2 ho ht (kk ls H locs hl hP hD hS)
theorem G_max (X : gX p l e R s m args below meth c cc nL Ts own D cI cR A) {x y : Int32} {index : Nat} (hd : decode cc pc = .ok (.invokestatic index, 3)) (hi : Cond.methodLink own index Lib.Math.max.name ∈ Ts) (h1 : Cond.static Lib.Math.max.name ∈ Ts) (h2 : Cond.initialized "java/lang/Math" ∈ Ts) (h3 : Cond.code Lib.Math.max.name Lib.Math.max.code 2 (some .int) ∈ Ts) (hf : 1 ≤ R.frames) (hlo : (st.map fun v => v.category).sum + 13 ≤ R.locals) (hk : k ≤ R.cells) (hn : n ≤ R.slots) (kk : G p l e R s m args below meth c D A nL Q k n (pc + 3) lv (.int (if x < y then y else x) :: st) ws) : G p l e R s m args below meth c D A nL Q k n pc lv (.int y :: .int x :: st) ws :=
  fun ls H locs hl hP hD hS => va_mmax X.1.1 X.1.2.1 (X.1.2.2.1.trans hl.1.symm) X.1.2.2.2.1 (X.1.2.2.2.2 _ hi) (X.1.2.2.2.2 _ h1) (X.1.2.2.2.2 _ h2) (X.1.2.2.2.2 _ h3) hf hlo hk hn hd (kk ls H locs hl hP hD hS)
theorem G_min (X : gX p l e R s m args below meth c cc nL Ts own D cI cR A) {x y : Int32} {index : Nat} (hd : decode cc pc = .ok (.invokestatic index, 3)) (hi : Cond.methodLink own index Lib.Math.min.name ∈ Ts) (h1 : Cond.static Lib.Math.min.name ∈ Ts) (h2 : Cond.initialized "java/lang/Math" ∈ Ts) (h3 : Cond.code Lib.Math.min.name Lib.Math.min.code 2 (some .int) ∈ Ts) (hf : 1 ≤ R.frames) (hlo : (st.map fun v => v.category).sum + 13 ≤ R.locals) (hk : k ≤ R.cells) (hn : n ≤ R.slots) (kk : G p l e R s m args below meth c D A nL Q k n (pc + 3) lv (.int (if y < x then y else x) :: st) ws) : G p l e R s m args below meth c D A nL Q k n pc lv (.int y :: .int x :: st) ws :=
  fun ls H locs hl hP hD hS => va_mmin X.1.1 X.1.2.1 (X.1.2.2.1.trans hl.1.symm) X.1.2.2.2.1 (X.1.2.2.2.2 _ hi) (X.1.2.2.2.2 _ h1) (X.1.2.2.2.2 _ h2) (X.1.2.2.2.2 _ h3) hf hlo hk hn hd (kk ls H locs hl hP hD hS)
theorem G_abs (X : gX p l e R s m args below meth c cc nL Ts own D cI cR A) {x : Int32} {index : Nat} (hd : decode cc pc = .ok (.invokestatic index, 3)) (hi : Cond.methodLink own index Lib.Math.abs.name ∈ Ts) (h1 : Cond.static Lib.Math.abs.name ∈ Ts) (h2 : Cond.initialized "java/lang/Math" ∈ Ts) (h3 : Cond.code Lib.Math.abs.name Lib.Math.abs.code 1 (some .int) ∈ Ts) (hf : 1 ≤ R.frames) (hlo : (st.map fun v => v.category).sum + 13 ≤ R.locals) (hk : k ≤ R.cells) (hn : n ≤ R.slots) (kk : G p l e R s m args below meth c D A nL Q k n (pc + 3) lv (.int (if 0 ≤ x then x else 0 - x) :: st) ws) : G p l e R s m args below meth c D A nL Q k n pc lv (.int x :: st) ws :=
  fun ls H locs hl hP hD hS => va_mabs X.1.1 X.1.2.1 (X.1.2.2.1.trans hl.1.symm) X.1.2.2.2.1 (X.1.2.2.2.2 _ hi) (X.1.2.2.2.2 _ h1) (X.1.2.2.2.2 _ h2) (X.1.2.2.2.2 _ h3) hf hlo hk hn hd (kk ls H locs hl hP hD hS)
theorem G_copy (X : gX p l e R s m args below meth c cc nL Ts own D cI cR A) {a0 a1 i0 i1 n0 n1 : Nat} {f g r : Nat → Int32} {sp dp z : Int32} {index : Nat} {ws' : va_W} (hd : decode cc pc = .ok (.invokestatic index, 3)) (hi : Cond.methodLink own index arraycopyName ∈ Ts) (h1 : Cond.native arraycopyName ∈ Ts) (h2 : Cond.static arraycopyName ∈ Ts) (h3 : Cond.initialized "java/lang/System" ∈ Ts) (ha0 : ws[i0]? = some (a0, .inl (cI, n0, .inl f))) (ha1 : ws[i1]? = some (a1, .inl (cI, n1, .inl g))) (hc : cpA n0 n1 f g sp dp z = some r) (hw : ws.set i1 (a1, .inl (cI, n1, .inl r)) = ws') (hf : 1 ≤ R.frames) (hlo : (st.map fun v => v.category).sum + (nativeFrameWords "java/lang/System" "arraycopy" 5 + 11) ≤ R.locals) (kk : G p l e R s m args below meth c D A nL Q k n (pc + 3) lv st ws') : G p l e R s m args below meth c D A nL Q k n pc lv (.int z :: .int dp :: .ref a1 :: .int sp :: .ref a0 :: st) ws := by
  intro ls H locs hl hP hD hS
  obtain ⟨⟨q1, q2, q3, q4, q5⟩, q6⟩ := cpA_in hc
  refine va_copyi X.1.1 X.1.2.1 (X.1.2.2.1.trans hl.1.symm) X.1.2.2.2.1 (X.1.2.2.2.2 _ hi) (X.1.2.2.2.2 _ h1) (X.1.2.2.2.2 _ h2) (X.1.2.2.2.2 _ h3) X.2.1 hP hD hS i0 i1 0 0 ha0 ha1 rfl rfl rfl q1 q2 q3 q4 q5 (fun i _ => rfl) hf hlo hd ?_
  rw [q6, hw]
  intro H1 locs1 hP1 hD1 hS1
  exact kk ls H1 locs1 hl hP1 hD1 hS1
/-- ends -/
theorem G_iret (X : gX p l e R s m args below meth c cc nL Ts own D cI cR A) {post : Int32 → va_W → Prop} {v : Int32} (hr : meth.sig.returnType = some .int) (hd : decode cc pc = .ok (.ireturn, 1)) (hp : post v ws) : G p l e R s m args below meth c D A nL (MQ below (va_Qi post (qB D A) A) args s k n A) k n pc lv [.int v] ws :=
  fun ls H locs hl hP hD hS => W.iret X.1.1 X.1.2.1 hr (fun t ht _ => ⟨⟨v, ws, rfl, hp, by rw [ht]; exact hP, hD⟩, hS.F ht⟩) hS.2.2 hd X.2.2.2.1
theorem G_zret (X : gX p l e R s m args below meth c cc nL Ts own D cI cR A) {post : Int32 → va_W → Prop} {v : Int32} (hr : meth.sig.returnType = some .boolean) (hn : narrow .boolean (.int v) = .int v) (hd : decode cc pc = .ok (.ireturn, 1)) (hp : post v ws) : G p l e R s m args below meth c D A nL (MQ below (va_Qi post (qB D A) A) args s k n A) k n pc lv [.int v] ws :=
  fun ls H locs hl hP hD hS => W.zret X.1.1 X.1.2.1 hr hn (fun t ht _ => ⟨⟨v, ws, rfl, hp, by rw [ht]; exact hP, hD⟩, hS.F ht⟩) hS.2.2 hd X.2.2.2.1
theorem G_vret (X : gX p l e R s m args below meth c cc nL Ts own D cI cR A) {post : va_W → Prop} (hr : meth.sig.returnType = none) (hd : decode cc pc = .ok (.return_, 1)) (hp : post ws) : G p l e R s m args below meth c D A nL (MQ below (va_Qv post (qB D A) A) args s k n A) k n pc lv [] ws :=
  fun ls H locs hl hP hD hS => W.vret X.1.1 X.1.2.1 hr (fun t ht _ => ⟨⟨ws, rfl, hp, by rw [ht]; exact hP, hD⟩, hS.F ht⟩) hS.2.2 hd X.2.2.2.1
theorem G_aret (X : gX p l e R s m args below meth c cc nL Ts own D cI cR A) {post : Nat → va_W → Prop} {v : Nat} {C : String} (hr : meth.sig.returnType = some (.object C)) (hd : decode cc pc = .ok (.areturn, 1)) (hp : post v ws) : G p l e R s m args below meth c D A nL (MQ below (va_Qr (fun _ : va_W => True) (fun u a t => post a u ∧ qB D A u t) A) args s k n A) k n pc lv [.ref v] ws :=
  fun ls H locs hl hP hD hS => W.aret X.1.1 X.1.2.1 hr (Or.inl ⟨C, rfl⟩) (Or.inr ⟨v, rfl⟩) (fun t ht _ => ⟨⟨ws, v, rfl, trivial, hp, by rw [ht]; exact hP, hD⟩, hS.F ht⟩) hS.2.2 hd X.2.2.2.1
/-- calls -/
theorem G_blind {av : List Value} {w : va_W} {sz : Nat} : FrameBlind (va_Pc av (pB D cI cR w sz)) := fun a U g mk q => by
  obtain ⟨q0, q1, qP, qK, qD⟩ := q
  exact ⟨q0, q1, qP, va_K.moved (u := U) (U := U.calling g mk a) (Vm.Alike.refl U.vm) qK, qD⟩
theorem G_calli (X : gX p l e R s m args below meth c cc nL Ts own D cI cR A) {y : MethodName} {cws : List Cond} {rm : Room} {b : Nat} {As rest : List Value} {wc wr : va_W} {post : Int32 → va_W → Prop} {bytes : ByteArray} {maxL nA idx : Nat} {ret : Option FieldType} {C : String} (hd : decode cc pc = .ok (.invokevirtual idx, 3)) (hk : cK y cws bytes maxL ret nA C) (hG : GoodIn Ts (wsV own idx C y cws))
    {mc ms : Nat} (hM : cMi l y cws rm mc ms D cI cR (.ref b :: As) wc post) (hrm : rm.cells = mc ∧ rm.slots = ms) (hR : rm.frames + 1 ≤ R.frames ∧ 8 + (maxL + 11) + rm.locals ≤ R.locals) (hst : st = As.reverse ++ .ref b :: rest) (hn : As.length = nA) (hW : (rest.map fun v => v.category).sum ≤ 8)
    (q0 : Nat) {ci N : Nat} {fs : List Value} {T : u_T} (hq : wc[q0]? = some (b, .inr (ci, fs))) (hci : vwCl[ci]? = some (C, T, N)) (isC isR : List Nat) (hC : isC.map (fun i => ws[i]?) = wc.map some) (hRr : isR.map (fun i => ws[i]?) = wr.map some) (hnd : va_nd isC = true ∧ va_nd isR = true ∧ ∀ i ∈ isR, i ∉ isC) (hf : k + mc ≤ R.cells ∧ n + ms ≤ R.slots)
    (kk : ∀ (r : Int32) (u : va_W), post r u → G p l e R s m args below meth c D A nL Q (k + mc) (n + ms) (pc + 3) lv (.int r :: rest) (wr ++ u)) : G p l e R s m args below meth c D A nL Q k n pc lv st ws := by
  intro ls H locs hl hP hD hS
  obtain ⟨⟨ws', hw⟩, hy⟩ := hk
  have hPc := hP.sub isC (map_fm hC)
  have hDc := hD.sub isC hnd.1 hC
  have hFc := va_free (wc := wc) hD hS X.2.2.1 isC hC
  refine va_calli (va_runV (As := As) (rest := rest) X.1 (hM H.size) (cwV nA X.1.2.2.2.2 hG hw hrm.1 hrm.2 hy hR) ⟨G_blind, va_recv X.2.1 hPc hci hq, fun U hU hW => ⟨rfl, by rw [hU], by rw [hU]; exact hPc, va_K.moved hW.alike X.2.1, hDc.weaken (fun _ _ _ _ => trivial)⟩⟩ rfl hn hl.1 hst (lv_room hW) hd hf) hS (fun q _ h => hFc q h) hFc (fun r u t H1 locs1 ht hvm hw2 hB hz1 hk1 hS1 => ?_)
  obtain ⟨hP1, hD1⟩ := hB
  rw [ht] at hP1
  obtain ⟨hP2, hD2⟩ := va_join (wr := wr) (w1 := u) hP hD isC isR hC hRr hnd.2.1 hnd.2.2 hk1 hFc hP1 hD1
  exact kk r u hw2 ls H1 locs1 hl hP2 hD2 hS1
theorem G_callv (X : gX p l e R s m args below meth c cc nL Ts own D cI cR A) {y : MethodName} {cws : List Cond} {rm : Room} {b : Nat} {As rest : List Value} {wc wr : va_W} {post : va_W → Prop} {bytes : ByteArray} {maxL nA idx : Nat} {ret : Option FieldType} {C : String} (hd : decode cc pc = .ok (.invokevirtual idx, 3)) (hk : cK y cws bytes maxL ret nA C) (hG : GoodIn Ts (wsV own idx C y cws))
    {mc ms : Nat} (hM : cMv l y cws rm mc ms D cI cR (.ref b :: As) wc post) (hrm : rm.cells = mc ∧ rm.slots = ms) (hR : rm.frames + 1 ≤ R.frames ∧ 8 + (maxL + 11) + rm.locals ≤ R.locals) (hst : st = As.reverse ++ .ref b :: rest) (hn : As.length = nA) (hW : (rest.map fun v => v.category).sum ≤ 8)
    (q0 : Nat) {ci N : Nat} {fs : List Value} {T : u_T} (hq : wc[q0]? = some (b, .inr (ci, fs))) (hci : vwCl[ci]? = some (C, T, N)) (isC isR : List Nat) (hC : isC.map (fun i => ws[i]?) = wc.map some) (hRr : isR.map (fun i => ws[i]?) = wr.map some) (hnd : va_nd isC = true ∧ va_nd isR = true ∧ ∀ i ∈ isR, i ∉ isC) (hf : k + mc ≤ R.cells ∧ n + ms ≤ R.slots)
    (kk : ∀ (u : va_W), post u → G p l e R s m args below meth c D A nL Q (k + mc) (n + ms) (pc + 3) lv rest (wr ++ u)) : G p l e R s m args below meth c D A nL Q k n pc lv st ws := by
  intro ls H locs hl hP hD hS
  obtain ⟨⟨ws', hw⟩, hy⟩ := hk
  have hPc := hP.sub isC (map_fm hC)
  have hDc := hD.sub isC hnd.1 hC
  have hFc := va_free (wc := wc) hD hS X.2.2.1 isC hC
  refine va_callv (va_runV (As := As) (rest := rest) X.1 (hM H.size) (cwV nA X.1.2.2.2.2 hG hw hrm.1 hrm.2 hy hR) ⟨G_blind, va_recv X.2.1 hPc hci hq, fun U hU hW => ⟨rfl, by rw [hU], by rw [hU]; exact hPc, va_K.moved hW.alike X.2.1, hDc.weaken (fun _ _ _ _ => trivial)⟩⟩ rfl hn hl.1 hst (lv_room hW) hd hf) hS (fun q _ h => hFc q h) hFc (fun u t H1 locs1 ht hvm hw2 hB hz1 hk1 hS1 => ?_)
  obtain ⟨hP1, hD1⟩ := hB
  rw [ht] at hP1
  obtain ⟨hP2, hD2⟩ := va_join (wr := wr) (w1 := u) hP hD isC isR hC hRr hnd.2.1 hnd.2.2 hk1 hFc hP1 hD1
  exact kk u hw2 ls H1 locs1 hl hP2 hD2 hS1
theorem G_callr (X : gX p l e R s m args below meth c cc nL Ts own D cI cR A) {y : MethodName} {cws : List Cond} {rm : Room} {b : Nat} {As rest : List Value} {wc wr : va_W} {post : Nat → va_W → Prop} {bytes : ByteArray} {maxL nA idx : Nat} {ret : Option FieldType} {C : String} (hd : decode cc pc = .ok (.invokevirtual idx, 3)) (hk : cK y cws bytes maxL ret nA C) (hG : GoodIn Ts (wsV own idx C y cws))
    {mc ms : Nat} (hM : cMr l y cws rm mc ms D cI cR (.ref b :: As) wc post) (hrm : rm.cells = mc ∧ rm.slots = ms) (hR : rm.frames + 1 ≤ R.frames ∧ 8 + (maxL + 11) + rm.locals ≤ R.locals) (hst : st = As.reverse ++ .ref b :: rest) (hn : As.length = nA) (hW : (rest.map fun v => v.category).sum ≤ 8)
    (q0 : Nat) {ci N : Nat} {fs : List Value} {T : u_T} (hq : wc[q0]? = some (b, .inr (ci, fs))) (hci : vwCl[ci]? = some (C, T, N)) (isC isR : List Nat) (hC : isC.map (fun i => ws[i]?) = wc.map some) (hRr : isR.map (fun i => ws[i]?) = wr.map some) (hnd : va_nd isC = true ∧ va_nd isR = true ∧ ∀ i ∈ isR, i ∉ isC) (hf : k + mc ≤ R.cells ∧ n + ms ≤ R.slots)
    (kk : ∀ (a : Nat) (u : va_W), post a u → G p l e R s m args below meth c D A nL Q (k + mc) (n + ms) (pc + 3) lv (.ref a :: rest) (wr ++ u)) : G p l e R s m args below meth c D A nL Q k n pc lv st ws := by
  intro ls H locs hl hP hD hS
  obtain ⟨⟨ws', hw⟩, hy⟩ := hk
  have hPc := hP.sub isC (map_fm hC)
  have hDc := hD.sub isC hnd.1 hC
  have hFc := va_free (wc := wc) hD hS X.2.2.1 isC hC
  refine va_callr (va_runV (As := As) (rest := rest) X.1 (hM H.size) (cwV nA X.1.2.2.2.2 hG hw hrm.1 hrm.2 hy hR) ⟨G_blind, va_recv X.2.1 hPc hci hq, fun U hU hW => ⟨rfl, by rw [hU], by rw [hU]; exact hPc, va_K.moved hW.alike X.2.1, hDc.weaken (fun _ _ _ _ => trivial)⟩⟩ rfl hn hl.1 hst (lv_room hW) hd hf) hS (fun q _ h => hFc q h) hFc (fun u ra t H1 locs1 ht hvm _ hB hz1 hk1 hS1 => ?_)
  obtain ⟨hw2, hP1, hD1⟩ := hB
  rw [ht] at hP1
  obtain ⟨hP2, hD2⟩ := va_join (wr := wr) (w1 := u) hP hD isC isR hC hRr hnd.2.1 hnd.2.2 hk1 hFc hP1 hD1
  exact kk ra u hw2 ls H1 locs1 hl hP2 hD2 hS1
theorem G_callsi (X : gX p l e R s m args below meth c cc nL Ts own D cI cR A) {y : MethodName} {cws : List Cond} {rm : Room} {As rest : List Value} {wc wr : va_W} {post : Int32 → va_W → Prop} {bytes : ByteArray} {maxL nA idx : Nat} {ret : Option FieldType} {C : String} (hd : decode cc pc = .ok (.invokestatic idx, 3)) (hk : cK y cws bytes maxL ret nA C) (hG : GoodIn Ts (va_wsS own idx y cws))
    {mc ms : Nat} (hM : cMi l y cws rm mc ms D cI cR As wc post) (hrm : rm.cells = mc ∧ rm.slots = ms) (hR : rm.frames + 1 ≤ R.frames ∧ 8 + (maxL + 11) + rm.locals ≤ R.locals) (hst : st = As.reverse ++ rest) (hn : As.length = nA) (hW : (rest.map fun v => v.category).sum ≤ 8)
    (isC isR : List Nat) (hC : isC.map (fun i => ws[i]?) = wc.map some) (hRr : isR.map (fun i => ws[i]?) = wr.map some) (hnd : va_nd isC = true ∧ va_nd isR = true ∧ ∀ i ∈ isR, i ∉ isC) (hf : k + mc ≤ R.cells ∧ n + ms ≤ R.slots)
    (kk : ∀ (r : Int32) (u : va_W), post r u → G p l e R s m args below meth c D A nL Q (k + mc) (n + ms) (pc + 3) lv (.int r :: rest) (wr ++ u)) : G p l e R s m args below meth c D A nL Q k n pc lv st ws := by
  intro ls H locs hl hP hD hS
  obtain ⟨⟨ws', hw⟩, hy⟩ := hk
  have hPc := hP.sub isC (map_fm hC)
  have hDc := hD.sub isC hnd.1 hC
  have hFc := va_free (wc := wc) hD hS X.2.2.1 isC hC
  refine va_calli (va_runS (As := As) (rest := rest) X.1 (hM H.size) (va_cwS nA X.1.2.2.2.2 hG hw hrm.1 hrm.2 hy.2 hR) ⟨G_blind, fun U hU hW => ⟨rfl, by rw [hU], by rw [hU]; exact hPc, va_K.moved hW.alike X.2.1, hDc.weaken (fun _ _ _ _ => trivial)⟩⟩ rfl hn hl.1 hst (lv_room hW) hd hf) hS (fun q _ h => hFc q h) hFc (fun r u t H1 locs1 ht hvm hw2 hB hz1 hk1 hS1 => ?_)
  obtain ⟨hP1, hD1⟩ := hB
  rw [ht] at hP1
  obtain ⟨hP2, hD2⟩ := va_join (wr := wr) (w1 := u) hP hD isC isR hC hRr hnd.2.1 hnd.2.2 hk1 hFc hP1 hD1
  exact kk r u hw2 ls H1 locs1 hl hP2 hD2 hS1
theorem G_callsv (X : gX p l e R s m args below meth c cc nL Ts own D cI cR A) {y : MethodName} {cws : List Cond} {rm : Room} {As rest : List Value} {wc wr : va_W} {post : va_W → Prop} {bytes : ByteArray} {maxL nA idx : Nat} {ret : Option FieldType} {C : String} (hd : decode cc pc = .ok (.invokestatic idx, 3)) (hk : cK y cws bytes maxL ret nA C) (hG : GoodIn Ts (va_wsS own idx y cws))
    {mc ms : Nat} (hM : cMv l y cws rm mc ms D cI cR As wc post) (hrm : rm.cells = mc ∧ rm.slots = ms) (hR : rm.frames + 1 ≤ R.frames ∧ 8 + (maxL + 11) + rm.locals ≤ R.locals) (hst : st = As.reverse ++ rest) (hn : As.length = nA) (hW : (rest.map fun v => v.category).sum ≤ 8)
    (isC isR : List Nat) (hC : isC.map (fun i => ws[i]?) = wc.map some) (hRr : isR.map (fun i => ws[i]?) = wr.map some) (hnd : va_nd isC = true ∧ va_nd isR = true ∧ ∀ i ∈ isR, i ∉ isC) (hf : k + mc ≤ R.cells ∧ n + ms ≤ R.slots)
    (kk : ∀ (u : va_W), post u → G p l e R s m args below meth c D A nL Q (k + mc) (n + ms) (pc + 3) lv rest (wr ++ u)) : G p l e R s m args below meth c D A nL Q k n pc lv st ws := by
  intro ls H locs hl hP hD hS
  obtain ⟨⟨ws', hw⟩, hy⟩ := hk
  have hPc := hP.sub isC (map_fm hC)
  have hDc := hD.sub isC hnd.1 hC
  have hFc := va_free (wc := wc) hD hS X.2.2.1 isC hC
  refine va_callv (va_runS (As := As) (rest := rest) X.1 (hM H.size) (va_cwS nA X.1.2.2.2.2 hG hw hrm.1 hrm.2 hy.2 hR) ⟨G_blind, fun U hU hW => ⟨rfl, by rw [hU], by rw [hU]; exact hPc, va_K.moved hW.alike X.2.1, hDc.weaken (fun _ _ _ _ => trivial)⟩⟩ rfl hn hl.1 hst (lv_room hW) hd hf) hS (fun q _ h => hFc q h) hFc (fun u t H1 locs1 ht hvm hw2 hB hz1 hk1 hS1 => ?_)
  obtain ⟨hP1, hD1⟩ := hB
  rw [ht] at hP1
  obtain ⟨hP2, hD2⟩ := va_join (wr := wr) (w1 := u) hP hD isC isR hC hRr hnd.2.1 hnd.2.2 hk1 hFc hP1 hD1
  exact kk u hw2 ls H1 locs1 hl hP2 hD2 hS1
end ROWS
/-- entries: the end is a rule, its goal is shut -/
theorem kI_of {y : MethodName} {cws cws' : List Cond} {rm : Room} {mc ms maxL : Nat} {av : List Value} {w : va_W} {post : Int32 → va_W → Prop} {lv0 : List (Nat × Value)} (hy : plainFor y = true) (hw : cws = Cond.code y cc maxL (some .int) :: cws') (ho : y.cls = own) (hz : (lg_sl av).length ≤ maxL) (hlv : lv_args 0 av = lv0)
    (body : ∀ p e s m args below meth c A Q, gX p l e rm s m args below meth c cc maxL cws own D cI cR A → (∀ (pc : Nat) (lv : List (Nat × Value)) (v : Int32) (ws : va_W), decode cc pc = .ok (.ireturn, 1) → post v ws → G p l e rm s m args below meth c D A maxL Q mc ms pc lv [.int v] ws) → G p l e rm s m args below meth c D A maxL Q 0 0 0 lv0 [] w) : cMi l y cws rm mc ms D cI cR av w post :=
  cMi_of hy hw ho hz hlv (fun p e s m args below meth c A X hr _ => body p e s m args below meth c A _ X (fun pc lv v ws hd hp => G_iret X hr hd hp))
theorem kZ_of {y : MethodName} {cws cws' : List Cond} {rm : Room} {mc ms maxL : Nat} {av : List Value} {w : va_W} {post : Int32 → va_W → Prop} {lv0 : List (Nat × Value)} (hy : plainFor y = true) (hw : cws = Cond.code y cc maxL (some .boolean) :: cws') (ho : y.cls = own) (hz : (lg_sl av).length ≤ maxL) (hlv : lv_args 0 av = lv0)
    (body : ∀ p e s m args below meth c A Q, gX p l e rm s m args below meth c cc maxL cws own D cI cR A → (∀ (pc : Nat) (lv : List (Nat × Value)) (v : Int32) (ws : va_W), decode cc pc = .ok (.ireturn, 1) → narrow .boolean (.int v) = .int v → post v ws → G p l e rm s m args below meth c D A maxL Q mc ms pc lv [.int v] ws) → G p l e rm s m args below meth c D A maxL Q 0 0 0 lv0 [] w) : cMi l y cws rm mc ms D cI cR av w post :=
  cMi_of hy hw ho hz hlv (fun p e s m args below meth c A X hr _ => body p e s m args below meth c A _ X (fun pc lv v ws hd hn hp => G_zret X hr hn hd hp))
theorem kV_of {y : MethodName} {cws cws' : List Cond} {rm : Room} {mc ms maxL : Nat} {av : List Value} {w : va_W} {post : va_W → Prop} {lv0 : List (Nat × Value)} (hy : plainFor y = true) (hw : cws = Cond.code y cc maxL none :: cws') (ho : y.cls = own) (hz : (lg_sl av).length ≤ maxL) (hlv : lv_args 0 av = lv0)
    (body : ∀ p e s m args below meth c A Q, gX p l e rm s m args below meth c cc maxL cws own D cI cR A → (∀ (pc : Nat) (lv : List (Nat × Value)) (ws : va_W), decode cc pc = .ok (.return_, 1) → post ws → G p l e rm s m args below meth c D A maxL Q mc ms pc lv [] ws) → G p l e rm s m args below meth c D A maxL Q 0 0 0 lv0 [] w) : cMv l y cws rm mc ms D cI cR av w post :=
  cMv_of hy hw ho hz hlv (fun p e s m args below meth c A X hr _ => body p e s m args below meth c A _ X (fun pc lv ws hd hp => G_vret X hr hd hp))
theorem kR_of {y : MethodName} {cws cws' : List Cond} {rm : Room} {mc ms maxL : Nat} {C : String} {av : List Value} {w : va_W} {post : Nat → va_W → Prop} {lv0 : List (Nat × Value)} (hy : plainFor y = true) (hw : cws = Cond.code y cc maxL (some (.object C)) :: cws') (ho : y.cls = own) (hz : (lg_sl av).length ≤ maxL) (hlv : lv_args 0 av = lv0)
    (body : ∀ p e s m args below meth c A Q, gX p l e rm s m args below meth c cc maxL cws own D cI cR A → (∀ (pc : Nat) (lv : List (Nat × Value)) (v : Nat) (ws : va_W), decode cc pc = .ok (.areturn, 1) → post v ws → G p l e rm s m args below meth c D A maxL Q mc ms pc lv [.ref v] ws) → G p l e rm s m args below meth c D A maxL Q 0 0 0 lv0 [] w) : cMr l y cws rm mc ms D cI cR av w post :=
  cMr_of hy hw ho hz hlv (fun p e s m args below meth c A X hr _ => body p e s m args below meth c A _ X (fun pc lv v ws hd hp => G_aret X hr hd hp))
section ONE
theorem G1_calli (X : gX p l e R s m args below meth c cc nL Ts own D cI cR A) {y : MethodName} {cws : List Cond} {rm : Room} {b : Nat} {r : Int32} {As rest : List Value} {wc wr w1 ws' : va_W} {bytes : ByteArray} {maxL nA idx : Nat} {ret : Option FieldType} {C : String} (hd : decode cc pc = .ok (.invokevirtual idx, 3)) (hk : cK y cws bytes maxL ret nA C) (hG : GoodIn Ts (wsV own idx C y cws))
    (hM : cI1 l y cws rm D cI cR (.ref b :: As) wc r w1) (hrm : rm.cells = 0 ∧ rm.slots = 0) (hR : rm.frames + 1 ≤ R.frames ∧ 8 + (maxL + 11) + rm.locals ≤ R.locals) (hst : st = As.reverse ++ .ref b :: rest) (hn : As.length = nA) (hW : (rest.map fun v => v.category).sum ≤ 8)
    (q0 : Nat) {ci N : Nat} {fs : List Value} {T : u_T} (hq : wc[q0]? = some (b, .inr (ci, fs))) (hci : vwCl[ci]? = some (C, T, N)) (isC isR : List Nat) (hC : isC.map (fun i => ws[i]?) = wc.map some) (hRr : isR.map (fun i => ws[i]?) = wr.map some) (hnd : va_nd isC = true ∧ va_nd isR = true ∧ ∀ i ∈ isR, i ∉ isC) (hf : k ≤ R.cells ∧ n ≤ R.slots)
    (is : List Nat) (his : is.map (fun i => (wr ++ w1)[i]?) = ws'.map some) (hni : va_nd is = true)
    (kk : G p l e R s m args below meth c D A nL Q k n (pc + 3) lv (.int r :: rest) ws') : G p l e R s m args below meth c D A nL Q k n pc lv st ws :=
  G_calli X hd hk hG hM hrm hR hst hn hW q0 hq hci isC isR hC hRr hnd hf (fun r u q => by obtain ⟨rfl, rfl⟩ := q; exact G_ws is his hni kk)
theorem G1_callv (X : gX p l e R s m args below meth c cc nL Ts own D cI cR A) {y : MethodName} {cws : List Cond} {rm : Room} {b : Nat} {As rest : List Value} {wc wr w1 ws' : va_W} {bytes : ByteArray} {maxL nA idx : Nat} {ret : Option FieldType} {C : String} (hd : decode cc pc = .ok (.invokevirtual idx, 3)) (hk : cK y cws bytes maxL ret nA C) (hG : GoodIn Ts (wsV own idx C y cws))
    (hM : cV1 l y cws rm D cI cR (.ref b :: As) wc w1) (hrm : rm.cells = 0 ∧ rm.slots = 0) (hR : rm.frames + 1 ≤ R.frames ∧ 8 + (maxL + 11) + rm.locals ≤ R.locals) (hst : st = As.reverse ++ .ref b :: rest) (hn : As.length = nA) (hW : (rest.map fun v => v.category).sum ≤ 8)
    (q0 : Nat) {ci N : Nat} {fs : List Value} {T : u_T} (hq : wc[q0]? = some (b, .inr (ci, fs))) (hci : vwCl[ci]? = some (C, T, N)) (isC isR : List Nat) (hC : isC.map (fun i => ws[i]?) = wc.map some) (hRr : isR.map (fun i => ws[i]?) = wr.map some) (hnd : va_nd isC = true ∧ va_nd isR = true ∧ ∀ i ∈ isR, i ∉ isC) (hf : k ≤ R.cells ∧ n ≤ R.slots)
    (is : List Nat) (his : is.map (fun i => (wr ++ w1)[i]?) = ws'.map some) (hni : va_nd is = true)
    (kk : G p l e R s m args below meth c D A nL Q k n (pc + 3) lv rest ws') : G p l e R s m args below meth c D A nL Q k n pc lv st ws :=
  G_callv X hd hk hG hM hrm hR hst hn hW q0 hq hci isC isR hC hRr hnd hf (fun u q => by subst q; exact G_ws is his hni kk)
theorem G1_callsi (X : gX p l e R s m args below meth c cc nL Ts own D cI cR A) {y : MethodName} {cws : List Cond} {rm : Room} {r : Int32} {As rest : List Value} {wc wr w1 ws' : va_W} {bytes : ByteArray} {maxL nA idx : Nat} {ret : Option FieldType} {C : String} (hd : decode cc pc = .ok (.invokestatic idx, 3)) (hk : cK y cws bytes maxL ret nA C) (hG : GoodIn Ts (va_wsS own idx y cws))
    (hM : cI1 l y cws rm D cI cR As wc r w1) (hrm : rm.cells = 0 ∧ rm.slots = 0) (hR : rm.frames + 1 ≤ R.frames ∧ 8 + (maxL + 11) + rm.locals ≤ R.locals) (hst : st = As.reverse ++ rest) (hn : As.length = nA) (hW : (rest.map fun v => v.category).sum ≤ 8)
    (isC isR : List Nat) (hC : isC.map (fun i => ws[i]?) = wc.map some) (hRr : isR.map (fun i => ws[i]?) = wr.map some) (hnd : va_nd isC = true ∧ va_nd isR = true ∧ ∀ i ∈ isR, i ∉ isC) (hf : k ≤ R.cells ∧ n ≤ R.slots)
    (is : List Nat) (his : is.map (fun i => (wr ++ w1)[i]?) = ws'.map some) (hni : va_nd is = true)
    (kk : G p l e R s m args below meth c D A nL Q k n (pc + 3) lv (.int r :: rest) ws') : G p l e R s m args below meth c D A nL Q k n pc lv st ws :=
  G_callsi X hd hk hG hM hrm hR hst hn hW isC isR hC hRr hnd hf (fun r u q => by obtain ⟨rfl, rfl⟩ := q; exact G_ws is his hni kk)
theorem G1_callsv (X : gX p l e R s m args below meth c cc nL Ts own D cI cR A) {y : MethodName} {cws : List Cond} {rm : Room} {As rest : List Value} {wc wr w1 ws' : va_W} {bytes : ByteArray} {maxL nA idx : Nat} {ret : Option FieldType} {C : String} (hd : decode cc pc = .ok (.invokestatic idx, 3)) (hk : cK y cws bytes maxL ret nA C) (hG : GoodIn Ts (va_wsS own idx y cws))
    (hM : cV1 l y cws rm D cI cR As wc w1) (hrm : rm.cells = 0 ∧ rm.slots = 0) (hR : rm.frames + 1 ≤ R.frames ∧ 8 + (maxL + 11) + rm.locals ≤ R.locals) (hst : st = As.reverse ++ rest) (hn : As.length = nA) (hW : (rest.map fun v => v.category).sum ≤ 8)
    (isC isR : List Nat) (hC : isC.map (fun i => ws[i]?) = wc.map some) (hRr : isR.map (fun i => ws[i]?) = wr.map some) (hnd : va_nd isC = true ∧ va_nd isR = true ∧ ∀ i ∈ isR, i ∉ isC) (hf : k ≤ R.cells ∧ n ≤ R.slots)
    (is : List Nat) (his : is.map (fun i => (wr ++ w1)[i]?) = ws'.map some) (hni : va_nd is = true)
    (kk : G p l e R s m args below meth c D A nL Q k n (pc + 3) lv rest ws') : G p l e R s m args below meth c D A nL Q k n pc lv st ws :=
  G_callsv X hd hk hG hM hrm hR hst hn hW isC isR hC hRr hnd hf (fun u q => by subst q; exact G_ws is his hni kk)
end ONE
theorem G_iaddv (X : gX p l e R s m args below meth c cc nL Ts own D cI cR A) {x y v : Int32} (hd : decode cc pc = .ok (.iadd, 1)) (hv : x + y = v) (kk : G p l e R s m args below meth c D A nL Q k n (pc + 1) lv (.int v :: st) ws) : G p l e R s m args below meth c D A nL Q k n pc lv (.int y :: .int x :: st) ws :=
  fun ls H locs hl hP hD hS => lv_iadd X.1.1 X.1.2.1 hd (by rw [hv]; exact kk ls H locs hl hP hD hS)
theorem G_aald (X : gX p l e R s m args below meth c cc nL Ts own D cI cR A) {a i0 z b j : Nat} {f : Nat → Option Nat} {i : Int32} (hd : decode cc pc = .ok (.aaload, 1)) (ha : ws[i0]? = some (a, .inl (cR, z, .inr (.inr (.inr (.inr f)))))) (hin : inb i z = true) (hj : i.toNatClampNeg = j) (hf : f j = some b) (kk : G p l e R s m args below meth c D A nL Q k n (pc + 1) lv (.ref b :: st) ws) : G p l e R s m args below meth c D A nL Q k n pc lv (.int i :: .ref a :: st) ws :=
  fun ls H locs hl hP hD hS => va_aldq X.1.1 X.1.2.1 X.2.1 hP i0 1 ha rfl (inb_in hin) hd (by rw [hj, hf]; exact kk ls H locs hl hP hD hS)
theorem G_aaldX (X : gX p l e R s m args below meth c cc nL Ts own D cI cR A) {a i0 z b j : Nat} {f : Nat → Option Nat} {i : Int32} (hd : decode cc pc = .ok (.aaload, 1)) (ha : ws[i0]? = some (a, .inl (cR, z, .inr (.inr (.inr (.inr f)))))) (hx : ixA z i = some j) (hf : f j = some b) (kk : G p l e R s m args below meth c D A nL Q k n (pc + 1) lv (.ref b :: st) ws) : G p l e R s m args below meth c D A nL Q k n pc lv (.int i :: .ref a :: st) ws :=
  fun ls H locs hl hP hD hS => va_aldq X.1.1 X.1.2.1 X.2.1 hP i0 1 ha rfl (ixA_in hx).1 hd (by rw [(ixA_in hx).2, hf]; exact kk ls H locs hl hP hD hS)
theorem G_fconst0 (X : gX p l e R s m args below meth c cc nL Ts own D cI cR A) (hd : decode cc pc = .ok (.fconst 0, 1)) (kk : G p l e R s m args below meth c D A nL Q k n (pc + 1) lv (.float FP.fconst0 :: st) ws) : G p l e R s m args below meth c D A nL Q k n pc lv st ws :=
  fun ls H locs hl hP hD hS => lv_fconst0 X.1.1 X.1.2.1 hd (kk ls H locs hl hP hD hS)
theorem G_fconst1 (X : gX p l e R s m args below meth c cc nL Ts own D cI cR A) (hd : decode cc pc = .ok (.fconst 1, 1)) (kk : G p l e R s m args below meth c D A nL Q k n (pc + 1) lv (.float FP.fconst1 :: st) ws) : G p l e R s m args below meth c D A nL Q k n pc lv st ws :=
  fun ls H locs hl hP hD hS => lv_fconst1 X.1.1 X.1.2.1 hd (kk ls H locs hl hP hD hS)
theorem G_fconst2 (X : gX p l e R s m args below meth c cc nL Ts own D cI cR A) (hd : decode cc pc = .ok (.fconst 2, 1)) (kk : G p l e R s m args below meth c D A nL Q k n (pc + 1) lv (.float FP.fconst2 :: st) ws) : G p l e R s m args below meth c D A nL Q k n pc lv st ws :=
  fun ls H locs hl hP hD hS => lv_fconst2 X.1.1 X.1.2.1 hd (kk ls H locs hl hP hD hS)
theorem G_i2f (X : gX p l e R s m args below meth c cc nL Ts own D cI cR A) {x : Int32} (hd : decode cc pc = .ok (.i2f, 1)) (kk : G p l e R s m args below meth c D A nL Q k n (pc + 1) lv (.float (FP.i2f x) :: st) ws) : G p l e R s m args below meth c D A nL Q k n pc lv (.int x :: st) ws :=
  fun ls H locs hl hP hD hS => lv_i2f X.1.1 X.1.2.1 hd (kk ls H locs hl hP hD hS)
theorem G_f2i (X : gX p l e R s m args below meth c cc nL Ts own D cI cR A) {x : UInt32} (hd : decode cc pc = .ok (.f2i, 1)) (kk : G p l e R s m args below meth c D A nL Q k n (pc + 1) lv (.int (FP.f2i x) :: st) ws) : G p l e R s m args below meth c D A nL Q k n pc lv (.float x :: st) ws :=
  fun ls H locs hl hP hD hS => lv_f2i X.1.1 X.1.2.1 hd (kk ls H locs hl hP hD hS)
theorem G_fcmp (X : gX p l e R s m args below meth c cc nL Ts own D cI cR A) {x y : UInt32} {op : CmpOp} (hd : decode cc pc = .ok (.fcmp op, 1)) (kk : G p l e R s m args below meth c D A nL Q k n (pc + 1) lv (.int (Op.cmpValue (FP.fcmp x y) op) :: st) ws) : G p l e R s m args below meth c D A nL Q k n pc lv (.float y :: .float x :: st) ws :=
  fun ls H locs hl hP hD hS => lv_fcmp X.1.1 X.1.2.1 hd (kk ls H locs hl hP hD hS)
theorem G_fdiv (X : gX p l e R s m args below meth c cc nL Ts own D cI cR A) {x y z : UInt32} (hd : decode cc pc = .ok (.fdiv, 1)) (h : fdivA x y = some z) (kk : G p l e R s m args below meth c D A nL Q k n (pc + 1) lv (.float z :: st) ws) : G p l e R s m args below meth c D A nL Q k n pc lv (.float y :: .float x :: st) ws :=
  fun ls H locs hl hP hD hS => lv_fdiv X.1.1 X.1.2.1 hd (fdivA_in h).1 (by rw [(fdivA_in h).2]; exact kk ls H locs hl hP hD hS)
theorem G_fmul (X : gX p l e R s m args below meth c cc nL Ts own D cI cR A) {x y z : UInt32} (hd : decode cc pc = .ok (.fmul, 1)) (h : fmulA x y = some z) (kk : G p l e R s m args below meth c D A nL Q k n (pc + 1) lv (.float z :: st) ws) : G p l e R s m args below meth c D A nL Q k n pc lv (.float y :: .float x :: st) ws :=
  fun ls H locs hl hP hD hS => lv_fmul X.1.1 X.1.2.1 hd (fmulA_in h).1 (by rw [(fmulA_in h).2]; exact kk ls H locs hl hP hD hS)
theorem G_fsub (X : gX p l e R s m args below meth c cc nL Ts own D cI cR A) {x y z : UInt32} (hd : decode cc pc = .ok (.fsub, 1)) (h : fsubA x y = some z) (kk : G p l e R s m args below meth c D A nL Q k n (pc + 1) lv (.float z :: st) ws) : G p l e R s m args below meth c D A nL Q k n pc lv (.float y :: .float x :: st) ws :=
  fun ls H locs hl hP hD hS => lv_fsub X.1.1 X.1.2.1 hd (fsubA_in h).1 (by rw [(fsubA_in h).2]; exact kk ls H locs hl hP hD hS)
theorem G_f2ib (X : gX p l e R s m args below meth c cc nL Ts own D cI cR A) {x : UInt32} {index : Nat} (hd : decode cc pc = .ok (.invokestatic index, 3)) (hi : Cond.methodLink own index ⟨"java/lang/Float", "floatToRawIntBits", "(F)I"⟩ ∈ Ts) (h1 : Cond.native ⟨"java/lang/Float", "floatToRawIntBits", "(F)I"⟩ ∈ Ts) (h2 : Cond.static ⟨"java/lang/Float", "floatToRawIntBits", "(F)I"⟩ ∈ Ts) (h3 : Cond.initialized "java/lang/Float" ∈ Ts) (hf : 1 ≤ R.frames) (hlo : (st.map fun v => v.category).sum + 15 ≤ R.locals) (kk : G p l e R s m args below meth c D A nL Q k n (pc + 3) lv (.int x.toInt32 :: st) ws) : G p l e R s m args below meth c D A nL Q k n pc lv (.float x :: st) ws :=
  fun ls H locs hl hP hD hS => vn_f2i X.1.1 X.1.2.1 (X.1.2.2.1.trans hl.1.symm) X.1.2.2.2.1 (X.1.2.2.2.2 _ hi) (X.1.2.2.2.2 _ h1) (X.1.2.2.2.2 _ h2) (X.1.2.2.2.2 _ h3) hf hlo hd (kk ls H locs hl hP hD hS)
end GG
