/-! ===== this claim's own small kit: one table world, contracts that only read, contracts that write their own cells ===== -/
abbrev cls5 : List vw_C := [(RX0, TX0, 6), (RX1, TX1, 6), (RX2, TX2, 3), (RX3, TX3, 6), (RX4, TX4, 16)]
abbrev tys2 (cI cZ : ClassId) : List (ClassId × FieldType) := [(cI, .int), (cZ, .boolean)]
/-- the private members of nest mates that are called: (who calls, entry, what) -/
def nst : List (String × Nat × MethodName) := [(RX0, 52, yX3_put), (RX0, 56, yX3_at), (RX0, 67, yX3_leftOver), (RX1, 22, yX3_commonDivisor), (RX1, 31, yX3_cut), (RX1, 41, yX3_leftOver), (RX2, 54, yX3_at), (RX2, 33, yX3_cut), (RX2, 29, yX3_leftOver), (RX2, 25, yX3_put), (RX3, 25, yX0_init), (RX3, 9, yX1_init), (RX3, 18, yX2_init)]
def NW (U : State) : Prop := ∀ q ∈ nst, va_Nw (.methodLinkNest q.1 q.2.1 q.2.2 "SlotStar") U
theorem NW.warm {s U : State} (hW : s.WarmedH U.vm) (h : NW s) : NW U := fun q hq => (h q hq).warmM hW
def TW (D : va_G) (cI cZ : ClassId) (U : State) : Prop := va_K D cls5 (tys2 cI cZ) U ∧ NW U
theorem TW.warm {D : va_G} {cI cZ : ClassId} {s U : State} (hW : s.WarmedH U.vm) (h : TW D cI cZ s) : TW D cI cZ U := ⟨va_K.moved hW.alike h.1, h.2.warm hW⟩
theorem TW.calling {D : va_G} {cI cZ : ClassId} {U : State} {g : JFrame} {mk : MethodId} {a : Array Value} (h : TW D cI cZ U) : TW D cI cZ (U.calling g mk a) := ⟨va_K.moved (u := U) (U := U.calling g mk a) (Vm.Alike.refl U.vm) h.1, fun q hq => va_Nw.same (u := U) (U := U.calling g mk a) rfl rfl (h.2 q hq)⟩
def PcW (D : va_G) (cI cZ : ClassId) (ws : va_W) (As : List Value) : Array Value → State → Prop := fun a U => a = As.toArray ∧ TW D cI cZ U ∧ va_P D cls5 ws U.heap
def PcX (D : va_G) (cI cZ : ClassId) (ws : va_W) (As : List Value) : Array Value → State → Prop := fun a U => a = As.toArray ∧ TW D cI cZ U ∧ va_P D cls5 ws U.heap ∧ va_D (fun _ => True) ws
def va_M (ws : va_W) : Nat → Prop := fun q => ∃ (k : Nat) (e : va_E), ws[k]? = some (q, e)
def QcM (D : va_G) (ws ws' : va_W) (v : Option Value) : Array Value → State → Outcome → State → Prop := fun _ st o t => o = .returned v ∧ va_P D cls5 ws' t.heap ∧ va_F (va_M ws) st t
/-- a contract that only reads -/
def RO (l : Launch) (y : MethodName) (wy : List Cond) (rm : Room) (D : va_G) (cI cZ : ClassId) (ws : va_W) (As : List Value) (r : Int32) : Prop := Met l y wy rm (PcW D cI cZ ws As) (QcRead r) 0 0 (fun _ => False)
/-- a contract that writes the cells ws, and leaves ws' there -/
def MU (l : Launch) (y : MethodName) (wy : List Cond) (rm : Room) (D : va_G) (cI cZ : ClassId) (ws : va_W) (As : List Value) (v : Option Value) (ws' : va_W) : Prop := Met l y wy rm (PcX D cI cZ ws As) (QcM D ws ws' v) 0 0 (va_M ws)
theorem PcW.blind {D : va_G} {cI cZ : ClassId} {ws : va_W} {As : List Value} : FrameBlind (PcW D cI cZ ws As) := fun _ _ _ _ h => ⟨h.1, h.2.1.calling, h.2.2⟩
theorem PcX.blind {D : va_G} {cI cZ : ClassId} {ws : va_W} {As : List Value} : FrameBlind (PcX D cI cZ ws As) := fun _ _ _ _ h => ⟨h.1, h.2.1.calling, h.2.2.1, h.2.2.2⟩
theorem ro_start {l : Launch} {y : MethodName} {wy wy' : List Cond} {rm : Room} {D : va_G} {cI cZ : ClassId} {ws : va_W} {As : List Value} {r : Int32} {cc : ByteArray} {maxL : Nat} {ret : Option FieldType}
    (hy : plainName y.cls = true) (hw : wy = Cond.code y cc maxL ret :: wy') (hA : (lg_sl As).length ≤ maxL)
    (body : ∀ (p : Program) (e : Env) (s : State) (m : MethodId) (args : Array Value) (below : List Frame) (meth : Method) (c : Code), p.tables.exec = Jvm.exec → c.code = cc → meth.sig.returnType = ret → c.maxLocals = maxL → meth.locks = false → (∀ w ∈ wy, w.before args s = true) → s.vm.findClass y.cls = some m.cls → TW D cI cZ s → va_P D cls5 ws s.heap → ∀ ls : Array Slot, lv_has ls maxL (lv_args 0 As) →
      W p l e (headSpec wy rm).room s m args below meth c s.heap [] 0 0 (MQ below (QcRead r) args s 0 0 (fun _ => False)) (F0 m 0 ls [])) : RO l y wy rm D cI cZ ws As r := by
  refine Met.ofW (cc := cc) (maxL := maxL) (ret := ret) hy hw ?_
  intro p e s m args below meth c s₁ B hml hv
  obtain ⟨rfl, hT, hP⟩ := hv
  have hl := lv_entry As (n := maxL) hA
  rw [lg_entry_eq]
  exact body p e s m _ below meth c B.exec B.bytes B.returns hml B.notSynchronized (atoms_spec (ws := wy) B.pre) (findClass_of_methodNamed B.named) hT hP _ hl
theorem va_D.ofM {ws : va_W} {A : Nat → Prop} (h : va_D A ws) : va_D (va_M ws) ws := ⟨h.1, fun k q hk => ⟨k, q.2, hk⟩⟩
theorem mu_start {l : Launch} {y : MethodName} {wy wy' : List Cond} {rm : Room} {D : va_G} {cI cZ : ClassId} {ws ws' : va_W} {As : List Value} {v : Option Value} {cc : ByteArray} {maxL : Nat} {ret : Option FieldType}
    (hy : plainName y.cls = true) (hw : wy = Cond.code y cc maxL ret :: wy') (hA : (lg_sl As).length ≤ maxL)
    (body : ∀ (p : Program) (e : Env) (s : State) (m : MethodId) (args : Array Value) (below : List Frame) (meth : Method) (c : Code), p.tables.exec = Jvm.exec → c.code = cc → meth.sig.returnType = ret → c.maxLocals = maxL → meth.locks = false → (∀ w ∈ wy, w.before args s = true) → s.vm.findClass y.cls = some m.cls → TW D cI cZ s → va_P D cls5 ws s.heap → va_D (va_M ws) ws → va_S (va_M ws) s.heap s.heap [] → ∀ ls : Array Slot, lv_has ls maxL (lv_args 0 As) →
      W p l e (headSpec wy rm).room s m args below meth c s.heap [] 0 0 (MQ below (QcM D ws ws' v) args s 0 0 (va_M ws)) (F0 m 0 ls [])) : MU l y wy rm D cI cZ ws As v ws' := by
  refine Met.ofW (cc := cc) (maxL := maxL) (ret := ret) hy hw ?_
  intro p e s m args below meth c s₁ B hml hv
  obtain ⟨rfl, hT, hP, hD⟩ := hv
  have hl := lv_entry As (n := maxL) hA
  rw [lg_entry_eq]
  exact body p e s m _ below meth c B.exec B.bytes B.returns hml B.notSynchronized (atoms_spec (ws := wy) B.pre) (findClass_of_methodNamed B.named) hT hP hD.ofM va_S.rf _ hl
theorem nar_b {v : Int32} (h : v = 0 ∨ v = 1) : narrow .boolean (.int v) = .int v := by rcases h with rfl | rfl <;> rfl
def putAll : va_W → List Nat → va_W → va_W
  | W, i :: is, x :: xs => putAll (W.set i x) is xs
  | W, _, _ => W
theorem putAll_get : ∀ (is : List Nat) (xs W : va_W) (k : Nat) (q : Nat × va_E), is.length = xs.length → (putAll W is xs)[k]? = some q → (∃ j : Nat, is[j]? = some k ∧ xs[j]? = some q) ∨ (k ∉ is ∧ W[k]? = some q)
  | [], xs, W, k, q, hl, h => by
    cases xs with
    | nil => exact Or.inr ⟨by simp, h⟩
    | cons a b => simp at hl
  | i :: is, [], W, k, q, hl, h => by simp at hl
  | i :: is, x :: xs, W, k, q, hl, h => by
    have hl' : is.length = xs.length := by simpa using hl
    rcases putAll_get is xs (W.set i x) k q hl' h with ⟨j, h1, h2⟩ | ⟨h1, h2⟩
    · exact Or.inl ⟨j + 1, by simpa using h1, by simpa using h2⟩
    · by_cases hk : k = i
      · subst hk
        have hlt : k < (W.set k x).length := (List.getElem?_eq_some_iff.mp h2).1
        rw [List.length_set] at hlt
        rw [List.getElem?_set_self hlt] at h2
        exact Or.inl ⟨0, by simp, by simpa using h2⟩
      · rw [List.getElem?_set_ne (Ne.symm hk)] at h2
        exact Or.inr ⟨by simp [hk, h1], h2⟩
section CK
variable {p : Program} {l : Launch} {e : Env} {R : Room} {s : State} {m : MethodId} {args : Array Value} {below : List Frame} {meth : Method} {c : Code} {H : Heap} {locs : List Loc} {cells slots : Nat} {Q : State → Prop}
variable {D : va_G} {cI cZ : ClassId} {W0 W1 wc wc' : va_W} {cc bytes : ByteArray} {nL maxL n index pc : Nat} {own C : String} {y : MethodName} {ret : Option FieldType} {rm : Room} {Ts wy wy' : List Cond} {As rest st0 st1 : List Value} {a : Array Value} {ls : Array Slot} {r : Int32} {b ci q0 : Nat} {v : Option Value} {A : Nat → Prop} {fs : List Value} {qc : vw_C}
/-- what a caller stands on -/
abbrev okName (y : MethodName) (n : Nat) : Prop := y.cls ≠ "java/lang/invoke/MethodHandle" ∧ y.cls ≠ "java/lang/invoke/VarHandle" ∧ (parseMethodDescriptor y.desc).map (fun d => d.parameters.length) = some n
theorem ro_S (S : CallFix p m c cc nL s args Ts own) (hT : TW D cI cZ s) (hP : va_P D cls5 W0 H) (hM : RO l y wy rm D cI cZ wc As r) (hG : GoodIn Ts (va_wsS own index y wy)) (hw : wy = Cond.code y bytes maxL ret :: wy') (hd : okName y n) (is : List Nat) (hs : is.filterMap (fun i => W0[i]?) = wc) (hsz : ls.size = nL) (hst : st0 = As.reverse ++ rest) (hn : As.length = n) (hrs : (rest.map fun v => v.category).sum ≤ 8)
    (hR : rm.frames + 1 ≤ R.frames ∧ 8 + (maxL + 11) + rm.locals ≤ R.locals) (hz : rm.cells = 0 ∧ rm.slots = 0) (hc : cells ≤ R.cells ∧ slots ≤ R.slots) (hdg : decode cc pc = .ok (.invokestatic index, 3))
    (kk : W p l e R s m args below meth c H locs cells slots Q (F0 m (pc + 3) ls (.int r :: rest))) : W p l e R s m args below meth c H locs cells slots Q (F0 m pc ls st0) :=
  W.callR (W.runS (g := F0 m pc ls st0) S hM (va_cwS n S.2.2.2.2 hG hw hz.1 hz.2 hd hR) ⟨PcW.blind, fun U hU hW => ⟨rfl, hT.warm hW, by rw [hU]; exact hP.sub is hs⟩⟩ rfl hn hsz hst (lv_room hrs) hdg hc) kk
theorem ro_N (S : CallFix p m c cc nL s args Ts own) (hT : TW D cI cZ s) (hP : va_P D cls5 W0 H) (hM : RO l y wy rm D cI cZ wc As r) (hq : (own, index, y) ∈ nst) (hG : GoodIn Ts wy) (hi : (Cond.initialized y.cls).before args s = true) (hst' : (Cond.static y).before args s = true) (hw : wy = Cond.code y bytes maxL ret :: wy') (hd : okName y n) (is : List Nat) (hs : is.filterMap (fun i => W0[i]?) = wc) (hsz : ls.size = nL) (hst : st0 = As.reverse ++ rest) (hn : As.length = n) (hrs : (rest.map fun v => v.category).sum ≤ 8)
    (hR : rm.frames + 1 ≤ R.frames ∧ 8 + (maxL + 11) + rm.locals ≤ R.locals) (hz : rm.cells = 0 ∧ rm.slots = 0) (hc : cells ≤ R.cells ∧ slots ≤ R.slots) (hdg : decode cc pc = .ok (.invokestatic index, 3))
    (kk : W p l e R s m args below meth c H locs cells slots Q (F0 m (pc + 3) ls (.int r :: rest))) : W p l e R s m args below meth c H locs cells slots Q (F0 m pc ls st0) := by
  have hr := va_runSN (H := H) (locs := locs) (cells := cells) (slots := slots) (g := F0 m pc ls st0) (e := e) (R := R) (below := below) (meth := meth) (rest := rest) (host := "SlotStar") S hM ⟨va_cnB n S.2.2.2.2 hG hw hz.1 hz.2 (hT.2 _ hq) hi hd hR, hst', trivial⟩ ⟨PcW.blind, fun U hU hW => ⟨rfl, hT.warm hW, by rw [hU]; exact hP.sub is hs⟩⟩ rfl hn hsz hst (lv_room hrs) hdg hc
  intro T hT' X
  obtain ⟨v, st₀, t, T', L, h0, X', hL, e1, e2, ⟨hv, hh⟩, st⟩ := hr T hT' X
  cases hv
  obtain ⟨t2, a1, b1⟩ := kk T' (by rw [e1, hh, h0]) (Stand.forget X' (fun q h => (hL q h).elim))
  exact ⟨t2, st t2 a1, b1⟩
theorem ro_V (S : CallFix p m c cc nL s args Ts own) (hT : TW D cI cZ s) (hP : va_P D cls5 W0 H) (hM : RO l y wy rm D cI cZ wc (.ref b :: As) r) (hG : GoodIn Ts (wsV own index C y wy)) (hw : wy = Cond.code y bytes maxL ret :: wy') (hC : y.cls = C) (hd : okName y n) (is : List Nat) (hs : is.filterMap (fun i => W0[i]?) = wc) (hci : cls5[ci]? = some qc) (hcn : qc.1 = C) (hq0 : W0[q0]? = some (b, .inr (ci, fs))) (hsz : ls.size = nL) (hst : st0 = As.reverse ++ .ref b :: rest) (hn : As.length = n) (hrs : (rest.map fun v => v.category).sum ≤ 8)
    (hR : rm.frames + 1 ≤ R.frames ∧ 8 + (maxL + 11) + rm.locals ≤ R.locals) (hz : rm.cells = 0 ∧ rm.slots = 0) (hc : cells ≤ R.cells ∧ slots ≤ R.slots) (hdg : decode cc pc = .ok (.invokevirtual index, 3))
    (kk : W p l e R s m args below meth c H locs cells slots Q (F0 m (pc + 3) ls (.int r :: rest))) : W p l e R s m args below meth c H locs cells slots Q (F0 m pc ls st0) :=
  W.callR (W.runV (g := F0 m pc ls st0) (C := C) S hM (cwV n S.2.2.2.2 hG hw hz.1 hz.2 ⟨hC, hd⟩ hR) ⟨PcW.blind, by rw [← hcn]; exact va_recv hT.1 hP hci hq0, fun U hU hW => ⟨rfl, hT.warm hW, by rw [hU]; exact hP.sub is hs⟩⟩ rfl hn hsz hst (lv_room hrs) hdg hc) kk
/-- behind a call that writes: the caller's world with the callee's cells in their places -/
theorem mu_go (hr : va_Run p l e R s m args below meth c H locs cells slots 0 0 (F0 m pc ls st0) rest (QcM D wc wc' v a) (va_M wc)) (hP : va_P D cls5 W0 H) (hD : va_D A W0) (hS : va_S A s.heap H locs) (is : List Nat) (hs : is.map (fun i => W0[i]?) = wc.map some) (hf : wc'.map (fun q => q.1) = wc.map (fun q => q.1)) (hW : putAll W0 is wc' = W1) (hs1 : v.toList ++ rest = st1)
    (kk : ∀ (H1 : Heap) (locs1 : List Loc), va_P D cls5 W1 H1 → va_D A W1 → va_S A s.heap H1 locs1 → W p l e R s m args below meth c H1 locs1 cells slots Q (F0 m (pc + 3) ls st1)) : W p l e R s m args below meth c H locs cells slots Q (F0 m pc ls st0) := by
  subst hW
  subst hs1
  have hlen : is.length = wc'.length := by
    have h1 := congrArg List.length hs
    have h2 := congrArg List.length hf
    simp only [List.length_map] at h1 h2
    omega
  have at1 : ∀ (j : Nat) (q : Nat × va_E), wc[j]? = some q → ∃ i, is[j]? = some i ∧ W0[i]? = some q := by
    intro j q hq
    have h1 : (is.map (fun i => W0[i]?))[j]? = some (some q) := by rw [hs, List.getElem?_map, hq]; rfl
    rw [List.getElem?_map] at h1
    cases hi : is[j]? with
    | none => rw [hi] at h1; cases h1
    | some i => rw [hi] at h1; exact ⟨i, rfl, Option.some.inj h1⟩
  have at2 : ∀ (j : Nat) (q : Nat × va_E), wc'[j]? = some q → ∃ q1 i, wc[j]? = some q1 ∧ q1.1 = q.1 ∧ is[j]? = some i ∧ W0[i]? = some q1 := by
    intro j q hq
    have h1 : (wc'.map (fun q => q.1))[j]? = some q.1 := by rw [List.getElem?_map, hq]; rfl
    rw [hf, List.getElem?_map] at h1
    cases hi : wc[j]? with
    | none => rw [hi] at h1; cases h1
    | some q1 =>
      rw [hi] at h1
      obtain ⟨i, a1, a2⟩ := at1 j q1 hi
      exact ⟨q1, i, rfl, Option.some.inj h1, a1, a2⟩
  have key : ∀ (k : Nat) (q : Nat × va_E), (putAll W0 is wc')[k]? = some q → ∃ q1, W0[k]? = some q1 ∧ q1.1 = q.1 := by
    intro k q hk
    rcases putAll_get is wc' W0 k q hlen hk with ⟨j, h1, h2⟩ | ⟨-, h2⟩
    · obtain ⟨q1, i, a1, a2, a3, a4⟩ := at2 j q h2
      rw [h1] at a3
      cases a3
      exact ⟨q1, a4, a2⟩
    · exact ⟨q, h2, rfl⟩
  have hD1 : va_D A (putAll W0 is wc') := by
    refine ⟨fun i j x z hi hj hxy => ?_, fun k q hk => ?_⟩
    · obtain ⟨x1, a1, a2⟩ := key i x hi
      obtain ⟨z1, b1, b2⟩ := key j z hj
      exact hD.1 i j x1 z1 a1 b1 (a2.trans (hxy.trans b2.symm))
    · obtain ⟨q1, a1, a2⟩ := key k q hk
      rw [← a2]
      exact hD.2 k q1 a1
  have hA : ∀ q, va_M wc q → A q := by
    rintro q ⟨k, x, hk⟩
    obtain ⟨i, -, a2⟩ := at1 k (q, x) hk
    exact hD.2 i (q, x) a2
  intro T hT X
  obtain ⟨v', st₀, t, T', L, h0, X', hL, e1, e2, ⟨hv, hp, hz, hk⟩, st⟩ := hr T hT X
  cases hv
  rw [h0] at hz hk
  have hP1 : va_P D cls5 (putAll W0 is wc') t.heap := by
    intro k q hk'
    rcases putAll_get is wc' W0 k q hlen hk' with ⟨j, h1, h2⟩ | ⟨h1, h2⟩
    · exact hp j q h2
    · refine (hP k q h2).kept (hk q.1 (hP k q h2).lt ?_)
      rintro ⟨j, x, hj⟩
      obtain ⟨i, a1, a2⟩ := at1 j (q.1, x) hj
      have := hD.1 k i q (q.1, x) h2 a2 rfl
      subst this
      exact h1 (List.mem_of_getElem? a1)
  obtain ⟨t2, a1, b1⟩ := kk t.heap (locs ++ L) hP1 hD1 ⟨Nat.le_trans hS.1 hz, fun q h1 h2 => by rw [hk q (Nat.lt_of_lt_of_le h1 hS.1) (fun z => h2 (hA q z))]; exact hS.2.1 q h1 h2, fun q hq => by
      rcases List.mem_append.mp hq with h | h
      · exact hS.2.2 q h
      · exact hA _ (hL q h)⟩ T' e1 X'
  exact ⟨t2, st t2 a1, b1⟩
theorem subD (hD : va_D A W0) (is : List Nat) (hn : va_nd is = true) (hs : is.map (fun i => W0[i]?) = wc.map some) : va_D (fun _ => True) wc := (hD.sub is hn hs).weaken (fun _ _ _ _ => trivial)
theorem subP (hP : va_P D cls5 W0 H) (is : List Nat) (hs : is.map (fun i => W0[i]?) = wc.map some) : va_P D cls5 wc H := by
  intro k q hk
  have h1 : (is.map (fun i => W0[i]?))[k]? = some (some q) := by rw [hs, List.getElem?_map, hk]; rfl
  rw [List.getElem?_map] at h1
  cases hi : is[k]? with
  | none => rw [hi] at h1; cases h1
  | some i => rw [hi] at h1; exact hP i q (Option.some.inj h1)
theorem mu_S (S : CallFix p m c cc nL s args Ts own) (hT : TW D cI cZ s) (hP : va_P D cls5 W0 H) (hD : va_D A W0) (hS : va_S A s.heap H locs) (hM : MU l y wy rm D cI cZ wc As v wc') (hG : GoodIn Ts (va_wsS own index y wy)) (hw : wy = Cond.code y bytes maxL ret :: wy') (hd : okName y n) (is : List Nat) (hnd : va_nd is = true) (hs : is.map (fun i => W0[i]?) = wc.map some) (hf : wc'.map (fun q => q.1) = wc.map (fun q => q.1)) (hW : putAll W0 is wc' = W1) (hs1 : v.toList ++ rest = st1) (hsz : ls.size = nL) (hst : st0 = As.reverse ++ rest) (hn : As.length = n) (hrs : (rest.map fun v => v.category).sum ≤ 8)
    (hR : rm.frames + 1 ≤ R.frames ∧ 8 + (maxL + 11) + rm.locals ≤ R.locals) (hz : rm.cells = 0 ∧ rm.slots = 0) (hc : cells ≤ R.cells ∧ slots ≤ R.slots) (hdg : decode cc pc = .ok (.invokestatic index, 3))
    (kk : ∀ (H1 : Heap) (locs1 : List Loc), va_P D cls5 W1 H1 → va_D A W1 → va_S A s.heap H1 locs1 → W p l e R s m args below meth c H1 locs1 cells slots Q (F0 m (pc + 3) ls st1)) : W p l e R s m args below meth c H locs cells slots Q (F0 m pc ls st0) :=
  mu_go (va_runS (g := F0 m pc ls st0) S hM (va_cwS n S.2.2.2.2 hG hw hz.1 hz.2 hd hR) ⟨PcX.blind, fun U hU hW => ⟨rfl, hT.warm hW, by rw [hU]; exact subP hP is hs, subD hD is hnd hs⟩⟩ rfl hn hsz hst (lv_room hrs) hdg hc) hP hD hS is hs hf hW hs1 kk
theorem mu_N (S : CallFix p m c cc nL s args Ts own) (hT : TW D cI cZ s) (hP : va_P D cls5 W0 H) (hD : va_D A W0) (hS : va_S A s.heap H locs) (hM : MU l y wy rm D cI cZ wc As v wc') (hq : (own, index, y) ∈ nst) (hG : GoodIn Ts wy) (hi : (Cond.initialized y.cls).before args s = true) (hst' : (Cond.static y).before args s = true) (hw : wy = Cond.code y bytes maxL ret :: wy') (hd : okName y n) (is : List Nat) (hnd : va_nd is = true) (hs : is.map (fun i => W0[i]?) = wc.map some) (hf : wc'.map (fun q => q.1) = wc.map (fun q => q.1)) (hW : putAll W0 is wc' = W1) (hs1 : v.toList ++ rest = st1) (hsz : ls.size = nL) (hst : st0 = As.reverse ++ rest) (hn : As.length = n) (hrs : (rest.map fun v => v.category).sum ≤ 8)
    (hR : rm.frames + 1 ≤ R.frames ∧ 8 + (maxL + 11) + rm.locals ≤ R.locals) (hz : rm.cells = 0 ∧ rm.slots = 0) (hc : cells ≤ R.cells ∧ slots ≤ R.slots) (hdg : decode cc pc = .ok (.invokestatic index, 3))
    (kk : ∀ (H1 : Heap) (locs1 : List Loc), va_P D cls5 W1 H1 → va_D A W1 → va_S A s.heap H1 locs1 → W p l e R s m args below meth c H1 locs1 cells slots Q (F0 m (pc + 3) ls st1)) : W p l e R s m args below meth c H locs cells slots Q (F0 m pc ls st0) :=
  mu_go (va_runSN (g := F0 m pc ls st0) (host := "SlotStar") S hM ⟨va_cnB n S.2.2.2.2 hG hw hz.1 hz.2 (hT.2 _ hq) hi hd hR, hst', trivial⟩ ⟨PcX.blind, fun U hU hW => ⟨rfl, hT.warm hW, by rw [hU]; exact subP hP is hs, subD hD is hnd hs⟩⟩ rfl hn hsz hst (lv_room hrs) hdg hc) hP hD hS is hs hf hW hs1 kk
theorem mu_V (S : CallFix p m c cc nL s args Ts own) (hT : TW D cI cZ s) (hP : va_P D cls5 W0 H) (hD : va_D A W0) (hS : va_S A s.heap H locs) (hM : MU l y wy rm D cI cZ wc (.ref b :: As) v wc') (hG : GoodIn Ts (wsV own index C y wy)) (hw : wy = Cond.code y bytes maxL ret :: wy') (hC : y.cls = C) (hd : okName y n) (is : List Nat) (hnd : va_nd is = true) (hs : is.map (fun i => W0[i]?) = wc.map some) (hf : wc'.map (fun q => q.1) = wc.map (fun q => q.1)) (hW : putAll W0 is wc' = W1) (hs1 : v.toList ++ rest = st1) (hci : cls5[ci]? = some qc) (hcn : qc.1 = C) (hq0 : W0[q0]? = some (b, .inr (ci, fs))) (hsz : ls.size = nL) (hst : st0 = As.reverse ++ .ref b :: rest) (hn : As.length = n) (hrs : (rest.map fun v => v.category).sum ≤ 8)
    (hR : rm.frames + 1 ≤ R.frames ∧ 8 + (maxL + 11) + rm.locals ≤ R.locals) (hz : rm.cells = 0 ∧ rm.slots = 0) (hc : cells ≤ R.cells ∧ slots ≤ R.slots) (hdg : decode cc pc = .ok (.invokevirtual index, 3))
    (kk : ∀ (H1 : Heap) (locs1 : List Loc), va_P D cls5 W1 H1 → va_D A W1 → va_S A s.heap H1 locs1 → W p l e R s m args below meth c H1 locs1 cells slots Q (F0 m (pc + 3) ls st1)) : W p l e R s m args below meth c H locs cells slots Q (F0 m pc ls st0) :=
  mu_go (va_runV (g := F0 m pc ls st0) (C := C) S hM (cwV n S.2.2.2.2 hG hw hz.1 hz.2 ⟨hC, hd⟩ hR) ⟨PcX.blind, by rw [← hcn]; exact va_recv hT.1 hP hci hq0, fun U hU hW => ⟨rfl, hT.warm hW, by rw [hU]; exact subP hP is hs, subD hD is hnd hs⟩⟩ rfl hn hsz hst (lv_room hrs) hdg hc) hP hD hS is hs hf hW hs1 kk
theorem ro_ret {v : Int32} (hx : p.tables.exec = Jvm.exec) (hb : c.code = cc) (hr : meth.sig.returnType = some .int) (hlocks : meth.locks = false) (hdg : decode cc pc = .ok (.ireturn, 1)) (hv : v = r) : W p l e R s m args below meth c s.heap [] 0 0 (MQ below (QcRead r) args s 0 0 (fun _ => False)) (F0 m pc ls [.int v]) := by
  subst hv
  exact W.iret hx hb hr (fun t ht hW => ⟨rfl, ht⟩) (fun _ h => by cases h) hdg
theorem ro_retz {v : Int32} (hx : p.tables.exec = Jvm.exec) (hb : c.code = cc) (hr : meth.sig.returnType = some .boolean) (hlocks : meth.locks = false) (hdg : decode cc pc = .ok (.ireturn, 1)) (hv : v = r) (hn : r = 0 ∨ r = 1) : W p l e R s m args below meth c s.heap [] 0 0 (MQ below (QcRead r) args s 0 0 (fun _ => False)) (F0 m pc ls [.int v]) := by
  subst hv
  exact W.zret hx hb hr (nar_b hn) (fun t ht hW => ⟨rfl, ht⟩) (fun _ h => by cases h) hdg
theorem mu_ret {v : Int32} {ws ws' : va_W} (hx : p.tables.exec = Jvm.exec) (hb : c.code = cc) (hr : meth.sig.returnType = some .int) (hlocks : meth.locks = false) (hdg : decode cc pc = .ok (.ireturn, 1)) (hP : va_P D cls5 ws' H) (hS : va_S (va_M ws) s.heap H locs) (hv : v = r) : W p l e R s m args below meth c H locs 0 0 (MQ below (QcM D ws ws' (some (.int r))) args s 0 0 (va_M ws)) (F0 m pc ls [.int v]) := by
  subst hv
  exact W.iret hx hb hr (fun t ht hW => ⟨rfl, by rw [ht]; exact hP, hS.F ht⟩) hS.2.2 hdg
theorem mu_retz {v : Int32} {ws ws' : va_W} (hx : p.tables.exec = Jvm.exec) (hb : c.code = cc) (hr : meth.sig.returnType = some .boolean) (hlocks : meth.locks = false) (hdg : decode cc pc = .ok (.ireturn, 1)) (hP : va_P D cls5 ws' H) (hS : va_S (va_M ws) s.heap H locs) (hv : v = r) (hn : r = 0 ∨ r = 1) : W p l e R s m args below meth c H locs 0 0 (MQ below (QcM D ws ws' (some (.int r))) args s 0 0 (va_M ws)) (F0 m pc ls [.int v]) := by
  subst hv
  exact W.zret hx hb hr (nar_b hn) (fun t ht hW => ⟨rfl, by rw [ht]; exact hP, hS.F ht⟩) hS.2.2 hdg
theorem mu_retv {ws ws' : va_W} (hx : p.tables.exec = Jvm.exec) (hb : c.code = cc) (hr : meth.sig.returnType = none) (hlocks : meth.locks = false) (hdg : decode cc pc = .ok (.return_, 1)) (hP : va_P D cls5 ws' H) (hS : va_S (va_M ws) s.heap H locs) : W p l e R s m args below meth c H locs 0 0 (MQ below (QcM D ws ws' none) args s 0 0 (va_M ws)) (F0 m pc ls []) :=
  W.vret hx hb hr (fun t ht hW => ⟨rfl, by rw [ht]; exact hP, hS.F ht⟩) hS.2.2 hdg
theorem top_eq {x z : Int32} (h : x = z) (k : W p l e R s m args below meth c H locs cells slots Q (F0 m pc ls (.int z :: rest))) : W p l e R s m args below meth c H locs cells slots Q (F0 m pc ls (.int x :: rest)) := by subst h; exact k
theorem ld_i (hx : p.tables.exec = Jvm.exec) (hb : c.code = cc) (hT : TW D cI cZ s) (hP : va_P D cls5 W0 H) (q0 : Nat) {z k : Nat} {f : Nat → Int32} (ha : W0[q0]? = some (b, .inl (cI, z, .inl f))) (hdg : decode cc pc = .ok (.iaload, 1)) {i : Int32} (hi : i = nI k) (hk : k < z) (hz : z < 2 ^ 31)
    (kk : W p l e R s m args below meth c H locs cells slots Q (F0 m (pc + 1) ls (.int (f k) :: rest))) : W p l e R s m args below meth c H locs cells slots Q (F0 m pc ls (.int i :: .ref b :: rest)) := by
  subst hi
  refine va_iald hx hb hT.1 hP q0 0 ha rfl (vp_in_nI hk hz) hdg ?_
  rw [nI_clamp (Nat.lt_trans hk hz)]
  exact kk
theorem st_i (hx : p.tables.exec = Jvm.exec) (hb : c.code = cc) (hT : TW D cI cZ s) (hP : va_P D cls5 W0 H) (hD : va_D A W0) (hS : va_S A s.heap H locs) (q0 : Nat) {z k : Nat} {f : Nat → Int32} (ha : W0[q0]? = some (b, .inl (cI, z, .inl f))) (hdg : decode cc pc = .ok (.iastore, 1)) {i x : Int32} (hi : i = nI k) (hk : k < z) (hz : z < 2 ^ 31) (hW : W0.set q0 (b, .inl (cI, z, .inl (upd f k x))) = W1)
    (kk : ∀ (H1 : Heap) (locs1 : List Loc), va_P D cls5 W1 H1 → va_D A W1 → va_S A s.heap H1 locs1 → W p l e R s m args below meth c H1 locs1 cells slots Q (F0 m (pc + 1) ls rest)) : W p l e R s m args below meth c H locs cells slots Q (F0 m pc ls (.int x :: .int i :: .ref b :: rest)) := by
  subst hi
  subst hW
  refine va_iast hx hb hT.1 hP hD hS q0 0 ha rfl (vp_in_nI hk hz) hdg ?_
  rw [nI_clamp (Nat.lt_trans hk hz)]
  exact kk
theorem ld_z (hx : p.tables.exec = Jvm.exec) (hb : c.code = cc) (hT : TW D cI cZ s) (hP : va_P D cls5 W0 H) (q0 : Nat) {z k : Nat} {f : Nat → Int32} (ha : W0[q0]? = some (b, .inl (cZ, z, .inl f))) (hdg : decode cc pc = .ok (.baload, 1)) {i : Int32} (hi : i = nI k) (hk : k < z) (hz : z < 2 ^ 31)
    (kk : W p l e R s m args below meth c H locs cells slots Q (F0 m (pc + 1) ls (.int (f k) :: rest))) : W p l e R s m args below meth c H locs cells slots Q (F0 m pc ls (.int i :: .ref b :: rest)) := by
  subst hi
  refine va_zald hx hb hT.1 hP q0 1 ha rfl (vp_in_nI hk hz) hdg ?_
  rw [nI_clamp (Nat.lt_trans hk hz)]
  exact kk
theorem st_z (hx : p.tables.exec = Jvm.exec) (hb : c.code = cc) (hT : TW D cI cZ s) (hP : va_P D cls5 W0 H) (hD : va_D A W0) (hS : va_S A s.heap H locs) (q0 : Nat) {z k : Nat} {f : Nat → Int32} (ha : W0[q0]? = some (b, .inl (cZ, z, .inl f))) (hdg : decode cc pc = .ok (.bastore, 1)) {i x : Int32} (hi : i = nI k) (hk : k < z) (hz : z < 2 ^ 31) (hW : W0.set q0 (b, .inl (cZ, z, .inl (upd f k (vp_nar .boolean x)))) = W1)
    (kk : ∀ (H1 : Heap) (locs1 : List Loc), va_P D cls5 W1 H1 → va_D A W1 → va_S A s.heap H1 locs1 → W p l e R s m args below meth c H1 locs1 cells slots Q (F0 m (pc + 1) ls rest)) : W p l e R s m args below meth c H locs cells slots Q (F0 m pc ls (.int x :: .int i :: .ref b :: rest)) := by
  subst hi
  subst hW
  refine va_zast hx hb hT.1 hP hD hS q0 1 ha rfl (vp_in_nI hk hz) hdg ?_
  rw [nI_clamp (Nat.lt_trans hk hz)]
  exact kk
end CK
