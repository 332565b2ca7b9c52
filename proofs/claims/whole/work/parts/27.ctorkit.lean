/-! ===== contracts of constructors: cells come ===== -/
def PcC (D : va_G) (cI cZ : ClassId) (sz : Nat) (ws : va_W) (As : List Value) : Array Value → State → Prop := fun a U => a = As.toArray ∧ TW D cI cZ U ∧ va_P D cls5 ws U.heap ∧ va_D (fun _ => True) ws ∧ U.heap.size = sz
theorem PcC.blind {D : va_G} {cI cZ : ClassId} {sz : Nat} {ws : va_W} {As : List Value} : FrameBlind (PcC D cI cZ sz ws As) := fun _ _ _ _ h => ⟨h.1, h.2.1.calling, h.2.2.1, h.2.2.2.1, h.2.2.2.2⟩
abbrev QcC (D : va_G) (sz : Nat) (ws : va_W) (B : va_W → Prop) : Array Value → State → Outcome → State → Prop := va_Qv (S := va_W) B (fun u t => va_P D cls5 u t.heap ∧ va_D (va_A ws sz) u) (va_A ws sz)
def CO (l : Launch) (y : MethodName) (wy : List Cond) (rm : Room) (D : va_G) (cI cZ : ClassId) (sz : Nat) (ws : va_W) (As : List Value) (B : va_W → Prop) (mc ms : Nat) : Prop := Met l y wy rm (PcC D cI cZ sz ws As) (QcC D sz ws B) mc ms (va_A ws sz)
theorem co_start {l : Launch} {y : MethodName} {wy wy' : List Cond} {rm : Room} {D : va_G} {cI cZ : ClassId} {sz mc ms : Nat} {ws : va_W} {B : va_W → Prop} {As : List Value} {cc : ByteArray} {maxL : Nat} {ret : Option FieldType} (hy1 : y.name = "<init>")
    (hy : plainName y.cls = true) (hw : wy = Cond.code y cc maxL ret :: wy') (hA : (lg_sl As).length ≤ maxL)
    (body : ∀ (p : Program) (e : Env) (s : State) (m : MethodId) (args : Array Value) (below : List Frame) (meth : Method) (c : Code), p.tables.exec = Jvm.exec → c.code = cc → meth.sig.returnType = ret → c.maxLocals = maxL → meth.locks = false → meth.name = "<init>" → (∀ w ∈ wy, w.before args s = true) → s.vm.findClass y.cls = some m.cls → TW D cI cZ s → va_P D cls5 ws s.heap → va_D (va_A ws sz) ws → va_S (va_A ws sz) s.heap s.heap [] → (∀ q, s.heap.size ≤ q → va_A ws sz q) → ∀ ls : Array Slot, lv_has ls maxL (lv_args 0 As) →
      W p l e (headSpec wy rm).room s m args below meth c s.heap [] 0 0 (MQ below (QcC D sz ws B) args s mc ms (va_A ws sz)) (F0 m 0 ls [])) : CO l y wy rm D cI cZ sz ws As B mc ms := by
  refine Met.ofW (cc := cc) (maxL := maxL) (ret := ret) hy hw ?_
  intro p e s m args below meth c s₁ X hml hv
  obtain ⟨rfl, hT, hP, hD, hsz⟩ := hv
  have hl := lv_entry As (n := maxL) hA
  rw [lg_entry_eq]
  exact body p e s m _ below meth c X.exec X.bytes X.returns hml X.notSynchronized ((name_of_methodNamed X.named X.method).1.trans hy1) (atoms_spec (ws := wy) X.pre) (findClass_of_methodNamed X.named) hT hP hD.self va_S.rf (fun q h => Or.inr (by omega)) _ hl
section CC
variable {p : Program} {l : Launch} {e : Env} {R : Room} {s : State} {m : MethodId} {args : Array Value} {below : List Frame} {meth : Method} {c : Code} {H : Heap} {locs : List Loc} {cells slots : Nat} {Q : State → Prop}
variable {D : va_G} {cI cZ : ClassId} {W0 wc wr : va_W} {cc bytes : ByteArray} {nL maxL n index pc mc ms : Nat} {own : String} {y : MethodName} {rm : Room} {Ts wy wy' : List Cond} {As rest st0 : List Value} {ls : Array Slot} {b : Nat} {A : Nat → Prop} {B : va_W → Prop}
theorem co_ret {sz : Nat} {ws ws' : va_W} (hx : p.tables.exec = Jvm.exec) (hb : c.code = cc) (hr : meth.sig.returnType = none) (hlocks : meth.locks = false) (hdg : decode cc pc = .ok (.return_, 1)) (hP : va_P D cls5 ws' H) (hD : va_D (va_A ws sz) ws') (hB : B ws') (hS : va_S (va_A ws sz) s.heap H locs) : W p l e R s m args below meth c H locs cells slots (MQ below (QcC D sz ws B) args s cells slots (va_A ws sz)) (F0 m pc ls []) :=
  W.vret hx hb hr (fun t ht hW => ⟨⟨ws', rfl, hB, by rw [ht]; exact hP, hD⟩, hS.F ht⟩) hS.2.2 hdg
theorem co_go {a : Array Value} (hr : va_Run p l e R s m args below meth c H locs cells slots mc ms (F0 m pc ls st0) rest (QcC D H.size wc B a) (va_A wc H.size)) (hP : va_P D cls5 W0 H) (hD : va_D A W0) (hS : va_S A s.heap H locs) (hA : ∀ q, s.heap.size ≤ q → A q) (isC isR : List Nat) (hC : isC.map (fun i => W0[i]?) = wc.map some) (hR : isR.map (fun i => W0[i]?) = wr.map some) (hn : va_nd isR = true) (hdis : ∀ i ∈ isR, i ∉ isC)
    (kk : ∀ (u : va_W) (H1 : Heap) (locs1 : List Loc), B u → va_P D cls5 (wr ++ u) H1 → va_D A (wr ++ u) → va_S A s.heap H1 locs1 → W p l e R s m args below meth c H1 locs1 (cells + mc) (slots + ms) Q (F0 m (pc + 3) ls rest)) : W p l e R s m args below meth c H locs cells slots Q (F0 m pc ls st0) := by
  have hF := va_free (wc := wc) hD hS hA isC hC
  refine va_callv hr hS (fun q _ h => hF q h) hF (fun u t H1 locs1 ht hvm hB hB2 hz hk hS' => ?_)
  obtain ⟨hP1, hD1⟩ := hB2
  rw [ht] at hP1
  obtain ⟨hP2, hD2⟩ := va_join (wr := wr) (w1 := u) hP hD isC isR hC hR hn hdis hk hF hP1 hD1
  exact kk u H1 locs1 hB hP2 hD2 hS'
theorem co_N (S : CallFix p m c cc nL s args Ts own) (hT : TW D cI cZ s) (hP : va_P D cls5 W0 H) (hD : va_D A W0) (hS : va_S A s.heap H locs) (hA : ∀ q, s.heap.size ≤ q → A q) (hM : CO l y wy rm D cI cZ H.size wc (.ref b :: As) B mc ms) (hq : (own, index, y) ∈ nst) (hG : GoodIn Ts wy) (hi : (Cond.initialized y.cls).before args s = true) (hin : (Cond.instanceMethod y).before args s = true) (hy1 : y.name = "<init>") (hw : wy = Cond.code y bytes maxL none :: wy') (hd : okName y n) (isC isR : List Nat) (hnc : va_nd isC = true) (hC : isC.map (fun i => W0[i]?) = wc.map some) (hR : isR.map (fun i => W0[i]?) = wr.map some) (hn : va_nd isR = true) (hdis : ∀ i ∈ isR, i ∉ isC) (hsz : ls.size = nL) (hst : st0 = As.reverse ++ .ref b :: rest) (hna : As.length = n) (hrs : (rest.map fun v => v.category).sum ≤ 8)
    (hRm : rm.frames + 1 ≤ R.frames ∧ 8 + (maxL + 11) + rm.locals ≤ R.locals) (hz : rm.cells = mc ∧ rm.slots = ms) (hc : cells + mc ≤ R.cells ∧ slots + ms ≤ R.slots) (hdg : decode cc pc = .ok (.invokespecial index, 3))
    (kk : ∀ (u : va_W) (H1 : Heap) (locs1 : List Loc), B u → va_P D cls5 (wr ++ u) H1 → va_D A (wr ++ u) → va_S A s.heap H1 locs1 → W p l e R s m args below meth c H1 locs1 (cells + mc) (slots + ms) Q (F0 m (pc + 3) ls rest)) : W p l e R s m args below meth c H locs cells slots Q (F0 m pc ls st0) :=
  co_go (va_runIN (g := F0 m pc ls st0) (host := "SlotStar") S hM ⟨va_cnB n S.2.2.2.2 hG hw hz.1 hz.2 (hT.2 _ hq) hi hd hRm, hy1, hin⟩ ⟨PcC.blind, fun U hU hW => ⟨rfl, hT.warm hW, by rw [hU]; exact subP hP isC hC, subD hD isC hnc hC, by rw [hU]⟩⟩ rfl hna hsz hst (lv_room hrs) hdg hc) hP hD hS hA isC isR hC hR hn hdis kk
theorem co_I (S : CallFix p m c cc nL s args Ts own) (hT : TW D cI cZ s) (hP : va_P D cls5 W0 H) (hD : va_D A W0) (hS : va_S A s.heap H locs) (hA : ∀ q, s.heap.size ≤ q → A q) (hM : CO l y wy rm D cI cZ H.size wc (.ref b :: As) B mc ms) (hG : GoodIn Ts wy) (hi : (Cond.initialized y.cls).before args s = true) (hl : (Cond.methodLink own index y).before args s = true) (hin : (Cond.instanceMethod y).before args s = true) (hy1 : y.name = "<init>") (hw : wy = Cond.code y bytes maxL none :: wy') (hd : okName y n) (isC isR : List Nat) (hnc : va_nd isC = true) (hC : isC.map (fun i => W0[i]?) = wc.map some) (hR : isR.map (fun i => W0[i]?) = wr.map some) (hn : va_nd isR = true) (hdis : ∀ i ∈ isR, i ∉ isC) (hsz : ls.size = nL) (hst : st0 = As.reverse ++ .ref b :: rest) (hna : As.length = n) (hrs : (rest.map fun v => v.category).sum ≤ 8)
    (hRm : rm.frames + 1 ≤ R.frames ∧ 8 + (maxL + 11) + rm.locals ≤ R.locals) (hz : rm.cells = mc ∧ rm.slots = ms) (hc : cells + mc ≤ R.cells ∧ slots + ms ≤ R.slots) (hdg : decode cc pc = .ok (.invokespecial index, 3))
    (kk : ∀ (u : va_W) (H1 : Heap) (locs1 : List Loc), B u → va_P D cls5 (wr ++ u) H1 → va_D A (wr ++ u) → va_S A s.heap H1 locs1 → W p l e R s m args below meth c H1 locs1 (cells + mc) (slots + ms) Q (F0 m (pc + 3) ls rest)) : W p l e R s m args below meth c H locs cells slots Q (F0 m pc ls st0) :=
  co_go (va_runI (g := F0 m pc ls st0) S hM (cwI n S.2.2.2.2 hG hw hz.1 hz.2 hi hl hin hy1 hd hRm) ⟨PcC.blind, fun U hU hW => ⟨rfl, hT.warm hW, by rw [hU]; exact subP hP isC hC, subD hD isC hnc hC, by rw [hU]⟩⟩ rfl hna hsz hst (lv_room hrs) hdg hc) hP hD hS hA isC isR hC hR hn hdis kk
theorem new_i (hx : p.tables.exec = Jvm.exec) (hb : c.code = cc) (harr : (Cond.arrayClass .int).before args s = true) (hT : TW D cI cZ s) (hP : va_P D cls5 W0 H) (hD : va_D A W0) (hS : va_S A s.heap H locs) (hA : ∀ q, s.heap.size ≤ q → A q) {n : Int32} (z : Nat) (hn : ¬ n < 0) (hz : n.toNatClampNeg = z) (hby : z * componentBytes .int ≤ 536870912) (hc : cells + 1 ≤ R.cells) (hs : slots + z ≤ R.slots) (hdg : decode cc pc = .ok (.newarray .int, 2))
    (kk : ∀ (q : Nat) (H1 : Heap), va_P D cls5 (W0 ++ [(q, .inl (cI, z, .inl (fun _ => 0)))]) H1 → va_D A (W0 ++ [(q, .inl (cI, z, .inl (fun _ => 0)))]) → va_S A s.heap H1 locs → W p l e R s m args below meth c H1 locs (cells + 1) (slots + z) Q (F0 m (pc + 2) ls (.ref q :: rest))) : W p l e R s m args below meth c H locs cells slots Q (F0 m pc ls (.int n :: rest)) := by
  refine va_newa (atype := .int) (ty := .int) (a0 := (z, .inl (fun _ => 0))) hx hb harr rfl hT.1 hP hD hS hA (fun cA => by rw [vp_cell_i]; rfl) hn hz hby hc hs hdg (fun q cA H1 hK hP1 hD1 hS1 => ?_)
  have e1 := (hK.2 0 (cI, .int) rfl).2
  have e2 := (hK.2 2 (cA, .int) rfl).2
  have e : cA = cI := Option.some.inj (e2.symm.trans e1)
  subst e
  exact kk q H1 hP1 hD1 hS1
theorem new_z (hx : p.tables.exec = Jvm.exec) (hb : c.code = cc) (harr : (Cond.arrayClass .boolean).before args s = true) (hT : TW D cI cZ s) (hP : va_P D cls5 W0 H) (hD : va_D A W0) (hS : va_S A s.heap H locs) (hA : ∀ q, s.heap.size ≤ q → A q) {n : Int32} (z : Nat) (hn : ¬ n < 0) (hz : n.toNatClampNeg = z) (hby : z * componentBytes .boolean ≤ 536870912) (hc : cells + 1 ≤ R.cells) (hs : slots + z ≤ R.slots) (hdg : decode cc pc = .ok (.newarray .boolean, 2))
    (kk : ∀ (q : Nat) (H1 : Heap), va_P D cls5 (W0 ++ [(q, .inl (cZ, z, .inl (fun _ => 0)))]) H1 → va_D A (W0 ++ [(q, .inl (cZ, z, .inl (fun _ => 0)))]) → va_S A s.heap H1 locs → W p l e R s m args below meth c H1 locs (cells + 1) (slots + z) Q (F0 m (pc + 2) ls (.ref q :: rest))) : W p l e R s m args below meth c H locs cells slots Q (F0 m pc ls (.int n :: rest)) := by
  refine va_newa (atype := .boolean) (ty := .boolean) (a0 := (z, .inl (fun _ => 0))) hx hb harr rfl hT.1 hP hD hS hA (fun cA => by rw [vp_cell_i]; rfl) hn hz hby hc hs hdg (fun q cA H1 hK hP1 hD1 hS1 => ?_)
  have e1 := (hK.2 1 (cZ, .boolean) rfl).2
  have e2 := (hK.2 2 (cA, .boolean) rfl).2
  have e : cA = cZ := Option.some.inj (e2.symm.trans e1)
  subst e
  exact kk q H1 hP1 hD1 hS1
end CC
