/-! rows, places, margins and counts agree -/
theorem nodup_ne : ∀ {L : List Nat}, L.Nodup → ∀ (i j x : Nat), i < j → L[i]? = some x → ¬ L[j]? = some x
  | [], _, i, j, x, _, h, _ => by simp at h
  | y :: L, hn, i, j, x, hij, h1, h2 => by
    rw [List.nodup_cons] at hn
    obtain ⟨j, rfl⟩ : ∃ k, j = k + 1 := ⟨j - 1, by omega⟩
    have h2' : L[j]? = some x := h2
    cases i with
    | zero =>
      have : y = x := Option.some.inj h1
      subst this
      exact hn.1 (List.mem_of_getElem? h2')
    | succ i =>
      have h1' : L[i]? = some x := h1
      exact nodup_ne hn.2 i j x (by omega) h1' h2'
theorem bits_tb (q : Nat → Bool) (n i : Nat) : (bits q n).testBit i = (decide (i < n) && q i) := by
  rcases Nat.lt_or_ge i n with h | h
  · rw [Nat.testBit_eq_decide_div_mod_eq, bits_get q h, decide_eq_true h, Bool.true_and]
    cases q i <;> rfl
  · rw [decide_eq_false (by omega), Bool.false_and]
    exact Nat.testBit_lt_two_pow (Nat.lt_of_lt_of_le (bits_lt q n) (Nat.pow_le_pow_right (by decide) h))
theorem and_not {q1 q2 : Nat → Bool} (h : ∀ k, q1 k = true → q2 k = true) (n : Nat) : (nI (bits q1 n) &&& (nI (bits q2 n) ^^^ -1)) = 0 := by
  apply Int32.toBitVec_inj.mp
  show (BitVec.ofNat 32 (bits q1 n) &&& (BitVec.ofNat 32 (bits q2 n) ^^^ (-1 : Int32).toBitVec)) = 0#32
  rw [show (-1 : Int32).toBitVec = BitVec.allOnes 32 by decide]
  apply BitVec.eq_of_getLsbD_eq
  intro i hi
  rw [BitVec.getLsbD_and, BitVec.getLsbD_xor, BitVec.getLsbD_ofNat, BitVec.getLsbD_ofNat, BitVec.getLsbD_allOnes, BitVec.getLsbD_zero, bits_tb, bits_tb, decide_eq_true hi]
  cases e : q1 i with
  | false => simp
  | true =>
    rw [h i e]
    cases decide (i < n) <;> rfl
theorem bits_zero (q : Nat → Bool) : ∀ n, bits q n = 0 ↔ ∀ k, k < n → q k = false
  | 0 => ⟨fun _ k hk => absurd hk (Nat.not_lt_zero k), fun _ => rfl⟩
  | n + 1 => by
    have ih := bits_zero q n
    have hp := Nat.two_pow_pos n
    show bits q n + 2 ^ n * b1 (q n) = 0 ↔ _
    constructor
    · intro z k hk
      rcases Nat.lt_or_ge k n with w | w
      · exact ih.mp (by omega) k w
      · have hk' : k = n := by omega
        subst hk'
        cases e : q k with
        | false => rfl
        | true =>
          rw [e] at z
          have : 2 ^ k * b1 true = 2 ^ k := Nat.mul_one _
          omega
    · intro z
      rw [ih.mpr (fun k hk => z k (by omega)), z n (by omega)]
      rfl
section HOLDS
variable {a : Abs} {f : Nat → Int32}
theorem own_ne (hi : aInv a) {r i j : Nat} {e e' : Ech} (hr : r < aG a 0) (hij : i < j) (h1 : (aM a r)[i]? = some e) (h2 : (aM a r)[j]? = some e') : ¬ e.1 = e'.1 := by
  intro z
  have hn := hi.2.2.2.2.2.2.2 r hr
  refine nodup_ne hn i j e.1 hij ?_ ?_
  · rw [List.getElem?_map, h1]; first | done | rfl
  · rw [List.getElem?_map, h2, z]; first | done | rfl
theorem back_unk (a : Abs) (r : Nat) : aUnk a r + aBack a r ≤ 8 := by
  have h := sm_not (fun c => decide (aV a r c = 0)) 8
  have h2 : aBack a r ≤ sm (fun k => b1 (!decide (aV a r k = 0))) 8 := sm_mono 8 (fun k _ => by
    by_cases z : aV a r k = 0
    · rw [z]
      exact Nat.zero_le _
    · rw [decide_eq_false z]
      exact b1_le _)
  unfold aUnk
  omega
theorem hd_pair (h : RepC a f) (hi : aInv a) {r k : Nat} (hr : r < aG a 0) (hk : k < (aM a r).length) (u v : Int32) (z1 z2 z3 z4 : Int32) : itr (SL_holds_305 (u, nI k) f (z1, z2, z3, z4, nI r)) FU (1, 0) = some 1 := by
  have hl := inv_len hi hr
  obtain ⟨e, he⟩ : ∃ e, (aM a r)[k]? = some e := ⟨_, List.getElem?_eq_getElem hk⟩
  have ho := (inv_ok hi hr (List.mem_of_getElem? he)).1.1
  refine itr_for (step := SL_holds_305 (u, nI k) f (z1, z2, z3, z4, nI r)) k (fun i => (1, nI i)) 1 (fun i hik => ?_) ?_ FU (FU_lt (by omega))
  · obtain ⟨e', he'⟩ : ∃ e, (aM a r)[i]? = some e := ⟨_, List.getElem?_eq_getElem (by omega)⟩
    have ho' := (inv_ok hi hr (List.mem_of_getElem? he')).1.1
    have hne := own_ne hi hr hik he' he
    unfold SL_holds_305
    dsimp only
    rw [if_neg (nI_ge hik (by omega)), if_neg one_n0, gq0 h hi hr he, Option.bind_some, gq0 h hi hr he', Option.bind_some]
    by_cases w : nI (e.1 / 8) = nI (e'.1 / 8)
    · rw [if_pos w, gq1 h hi hr he, Option.bind_some, gq1 h hi hr he', Option.bind_some, if_neg (fun z => hne (by
        have w1 := (nI_eq (by omega) (by omega)).mp w
        have w2 := (nI_eq (by omega) (by omega)).mp z
        omega)), nI_1]
    · rw [if_neg w, nI_1]
  · unfold SL_holds_305
    dsimp only
    rw [if_pos (nI_le (Nat.le_refl _) (by omega))]
theorem hd_margin (h : RepC a f) (hi : aInv a) {r : Nat} (hr : r < aG a 0) (z1 z2 z3 z4 : Int32) : itr (SL_holds_285 f (z1, z2, z3, z4, nI r)) FU (1, 0) = some 1 := by
  have hl := inv_len hi hr
  have hd := hi.2.1
  refine itr_for (step := SL_holds_285 f (z1, z2, z3, z4, nI r)) (aM a r).length (fun k => (1, nI k)) 1 (fun k hk => ?_) ?_ FU (FU_lt (by omega))
  · obtain ⟨e, he⟩ : ∃ e, (aM a r)[k]? = some e := ⟨_, List.getElem?_eq_getElem hk⟩
    have ho := (inv_ok hi hr (List.mem_of_getElem? he)).1
    have ho1 := ho.2.1
    unfold SL_holds_285
    dsimp only
    rw [rq4 h hi hr, Option.bind_some, if_neg (nI_ge hk (by omega)), if_neg one_n0, hd_pair h hi hr hk 1 1 z1 z2 z3 z4, Option.bind_some, if_neg one_n0, gq3 h hi hr he, Option.bind_some, if_neg (nI_pos (by omega)), gq2 h hi hr he, Option.bind_some, if_neg (nI_pos (by omega)), Option.bind_some, if_neg (show ¬ (999 : Int32) < nI e.2.1 from nI_nlt (a := 999) ho1 (by decide)), nI_1]
  · unfold SL_holds_285
    dsimp only
    rw [rq4 h hi hr, Option.bind_some, if_pos (nI_le (Nat.le_refl _) (by omega))]
theorem bits_step (q : Nat → Bool) {k : Nat} (hk : k < 9) : nI (bits q k) ||| (nI (b1 (q k)) <<< (nI k &&& 31)) = nI (bits q (k + 1)) := by
  show _ = nI (bits q k + 2 ^ k * b1 (q k))
  cases q k with
  | true =>
    show nI (bits q k) ||| ((1 : Int32) <<< (nI k &&& 31)) = nI (bits q k + 2 ^ k * 1)
    rw [or_bit (bits_lt q k) hk, Nat.mul_one]
  | false =>
    show nI (bits q k) ||| (nI 0 <<< (nI k &&& 31)) = nI (bits q k + 2 ^ k * 0)
    rw [pk_shlN (nI k &&& 31) k (sh9 hk) (by rw [Nat.zero_mul]; decide), Nat.zero_mul, Nat.mul_zero, Nat.add_zero, nI_0, Int32.or_zero]
theorem hd_inner (h : RepC a f) (hi : aInv a) (hz : aWz a) (im le : Int32) {r : Nat} (hr : r < aG a 0) : ((if nI r = nI r then (MX5_row f (nI (aUp a r)) 3).bind fun v205 => (if v205 = nI r then (MX5_row f (nI (aLo a r)) 2).bind fun v210 => (if v210 = nI r then (if nI (aUp a r) = nI (aLo a r) then some 0 else (if nI (aF a 1 r) = 1 then (MX5_row f (nI r) 5).bind fun v220 => (MX5_row f (nI r) 7).bind fun v223 => (if 8 < (v220 + v223) then some 0 else (MX5_row f (nI r) 4).bind fun v229 => (MX5_count f im le 20).bind fun v232 => (if v232 < v229 then some 0 else (MX5_row f (nI r) 4).bind fun v238 => (MX5_margin f (nI r) v238 0).bind fun v241 => (if v241 = (-1000004) then some 1 else some 0))) else (MX5_row f (nI r) 4).bind fun v248 => (if v248 = 0 then (MX5_row f (nI r) 5).bind fun v253 => (if v253 = 8 then (MX5_row f (nI r) 6).bind fun v258 => (if v258 = 0 then (MX5_row f (nI r) 4).bind fun v263 => (MX5_count f im le 20).bind fun v266 => (if v266 < v263 then some 0 else (MX5_row f (nI r) 4).bind fun v272 => (MX5_margin f (nI r) v272 0).bind fun v275 => (if v275 = (-1000004) then some 1 else some 0)) else some 0) else some 0) else some 0))) else some 0) else some 0) else some 0) : Option Int32) = some 1 := by
  have hn := hi.1
  have hl := inv_len hi hr
  have hb := hi.2.2.1
  have hlen := (hi.2.2.2.2.1 r hr).2.2.2.2.2.1
  have hu := inv_up hi r
  have hv := inv_lo hi r
  have hno := gq_no h hi hr (Nat.le_refl _) (show (aM a r).length < 2 ^ 31 by omega)
  rw [if_pos rfl, rq3 h hi hu, Option.bind_some, lo_up hi hr, if_pos rfl, rq2 h hi hv, Option.bind_some, up_lo hi hr, if_pos rfl, if_neg (fun z => up_lo_ne hi hr ((nI_eq (by omega) (by omega)).mp z)), rq4 h hi hr, Option.bind_some, Option.bind_some, kq20 h im le, Option.bind_some, Option.bind_some, if_neg (nI_nlt hlen (by omega)), hno]
  rcases inv_live hi hr with w | w
  · have hM : aM a r = [] := (hi.2.2.2.2.1 r hr).2.2.2.2.2.2 w
    rw [w, if_neg (show ¬ nI 0 = 1 by decide), hM, if_pos (show nI ([] : List Ech).length = 0 from rfl), rq5 h hi hr, Option.bind_some, w, if_neg (show ¬ 0 = 1 by decide), if_pos (show nI 8 = 8 from rfl), rq6 h hi hr, Option.bind_some, aWr_z hz hr w, if_pos rfl, Option.bind_some, if_pos rfl]
  · have hbu := back_unk a r
    rw [w, if_pos (show nI 1 = 1 from rfl), rq5 h hi hr, Option.bind_some, rq7 h hi hr, Option.bind_some, w, if_pos rfl, nI_add, if_neg (show ¬ (8 : Int32) < nI (aUnk a r + aBack a r) from nI_nlt (a := 8) hbu (by decide)), Option.bind_some, if_pos rfl]
theorem holds_ok {N : Nat} (h : RepC a f) (hg : GoodA N a) (hN : N < 2 ^ 31) (im le : Int32) : ML_holds f im le = some 1 := by
  obtain ⟨hi, hz, L, M, c1, c2, c3, c4, c5⟩ := hg
  have hn := hi.1
  have hd := hi.2.1
  have hE := fr_all a
  have hE2 := sm_lens hi
  have hbl : bits (fun r => decide (aF a 1 r = 1)) (aG a 0) < 2 ^ 31 := Nat.lt_of_lt_of_le (bits_lt _ _) (Nat.pow_le_pow_right (by decide) (by omega))
  unfold ML_holds
  rw [kq0 h im le, Option.bind_some, if_neg (show ¬ nI (aG a 0) < 3 from nI_nlt (b := 3) hn.1 (by omega)), if_neg (show ¬ 9 < nI (aG a 0) from nI_nlt (a := 9) hn.2 (by decide)), kq10 h im le, Option.bind_some, kq9 h im le, Option.bind_some, c1, c2, if_neg (nI_nlt (show M ≤ L by omega) (by omega)), kq1 h im le, Option.bind_some, if_neg (show ¬ 9999 < nI (aG a 1) from nI_nlt (a := 9999) hd (by decide)), Option.bind_some]
  have hloop : itr (SL_holds_62 (nI (aG a 0)) f im le) FU (0, 0, 0, 1, 0) = some (nI (aEchoes a), sL a, nI (bits (fun r => decide (aF a 1 r = 1)) (aG a 0)), 1) := by
    refine itr_for (step := SL_holds_62 (nI (aG a 0)) f im le) (aG a 0) (fun k => (nI (sm (fun r => (aM a r).length) k), foldN (fun r x => x + aD a 2 r) 0 k, nI (bits (fun r => decide (aF a 1 r = 1)) k), 1, nI k)) _ (fun r hr => ?_) ?_ FU (FU_lt (by omega))
    · unfold SL_holds_62
      dsimp only
      rw [if_neg (nI_ge hr (by omega)), if_neg one_n0, rq1 h hi hr, Option.bind_some, rq2 h hi hr, Option.bind_some, rq3 h hi hr, Option.bind_some, rq4 h hi hr, Option.bind_some, rq8 h hi hr, Option.bind_some, rq0 h hi hr, Option.bind_some, kqat h hi (pl_lt hi hr), Option.bind_some, at_pl hi hr]
      have hin := hd_inner h hi hz im le hr
      rw [rq4 h hi hr] at hin
      rw [hin, Option.bind_some, hd_margin h hi hr, Option.bind_some, nI_add, nI_1]
      have hlive : nI (aF a 1 r) = nI (b1 (decide (aF a 1 r = 1))) := by
        rcases inv_live hi hr with w | w <;> rw [w] <;> rfl
      rw [hlive, bits_step (fun r => decide (aF a 1 r = 1)) (k := r) (by omega)]
      rfl
    · unfold SL_holds_62
      dsimp only
      rw [if_pos (nI_le (Nat.le_refl _) (by omega))]
      rfl
  obtain ⟨vm, m1, m2⟩ := kqmean h hi
  obtain ⟨vs, s1, s2⟩ := kqshare h hi
  rw [hloop, Option.bind_some]
  dsimp only
  rw [if_neg one_n0, kq4 h hi im le, Option.bind_some, if_pos rfl, Option.bind_some, c5, c1, if_pos rfl, kq2 h hi im le, Option.bind_some, if_pos rfl, kq3 h hi im le, Option.bind_some, and_not (fun k hk => by
    unfold aSafe at hk
    exact decide_eq_true (of_decide_eq_true hk).1) (aG a 0), if_pos rfl, kq5 h hi im le, Option.bind_some, if_neg (nI_nlt (show tOl a ≤ aEchoes a by omega) (by omega)), m1, Option.bind_some, bi, Option.bind_some, Option.bind_some, bi, Option.bind_some]
  have e1 : (if vm = -1000004 then (1 : Int32) else 0) = (if nI (tOl a) = nI (aEchoes a) then 1 else 0) := by
    by_cases w : tFr a = 0
    · rw [if_pos (m2.mpr w), if_pos (by rw [show tOl a = aEchoes a by omega])]
    · rw [if_neg (fun z => w (m2.mp z)), if_neg (fun z => w (by
        have := (nI_eq (by omega) (by omega)).mp z
        omega))]
  rw [if_pos e1, s1, Option.bind_some, bi, Option.bind_some]
  by_cases w : ∀ r, r < aG a 0 → ¬ aF a 1 r = 1
  · have hb : bits (fun r => decide (aF a 1 r = 1)) (aG a 0) = 0 := (bits_zero _ _).mpr (fun k hk => decide_eq_false (w k hk))
    rw [hb, if_pos (show nI 0 = 0 from rfl), if_pos (s2.mpr w), if_pos rfl]
  · have hb : ¬ bits (fun r => decide (aF a 1 r = 1)) (aG a 0) = 0 := fun z => w (fun r hr => of_decide_eq_false ((bits_zero _ _).mp z r hr))
    rw [if_neg (nI_ne0 (by omega) hbl), if_neg (fun z => w (s2.mp z)), if_pos rfl]
end HOLDS
