/-! THE CLAIM OUT OF ONE WALK OF THE LAW'S BODY. Your part is whole_start (and what it stands on); all else here is the same for every law, but numbers. -/
def R_law : String := "SlotStarLaw"
def lw_P (b : Addr) (xs : List Int32) (args : Array Value) (s : State) : Prop := args = #[.ref b] ∧ s.IntsAt b xs ∧ xs.length ≤ 2048 ∧ (Jvm.Cond.and given_1 narrow_1).before args s = true
def lw_Q (_ : Array Value) (s : State) (o : Outcome) (t : State) : Prop := o = .returned (some (.int 1)) ∧ Framed s o t [] 19 2989
def lw_Z (below : List Frame) (a : Array Value) (s : State) : State → Prop := fun t => ∃ o, t.status = .running ∧ Ended t below o ∧ lw_Q a s o t
/-- the law's own end, with 1 on the stack, nothing written that was there before, its room as the claim has it -/
theorem lw_ret {p : Program} {l : Launch} {e : Env} {s : State} {m : MethodId} {below : List Frame} {meth : Method} {c : Code} {b : Nat} (hx : p.tables.exec = Jvm.exec) (hb : c.code = code) (hr : meth.sig.returnType = ret) (hlocks : meth.locks = false) {pc : Nat} {H : Heap} {ls : Array Slot} (hdg : decode code pc = .ok (.ireturn, 1)) : W p l e room_1 s m #[Value.ref b] below meth c H [] 19 2989 (lw_Z below #[Value.ref b] s) (F0 m pc ls [.int 1]) := by
  intro T hT X
  obtain ⟨fs, hret, hrun, hended, hW, hframe⟩ := X.leave (v := some (.int 1)) (hlocks := hlocks) (fun h => by rw [hr] at h; cases h)
  have hmeth' : T.vm.method? m = some meth := X.method'
  refine ⟨T.setFrames fs, ?_, .returned (some (.int 1)), hrun, hended, rfl, ⟨_, rfl⟩, hW, hframe⟩
  jvm_step X.here [X.here.top, hx, hb, hdg, hmeth', hr, ret, narrow_b1]
  (try refine ⟨rfl, ?_⟩); (try refine ⟨rfl, ?_⟩)
  first | (intro acts; rw [hret _ acts rfl rfl rfl]) | rw [hret _ _ rfl rfl rfl]
  exact Steps.refl _
/-- what holds at the law's entry: the machine, the code, the tables' words (any of lw_tbl by 'hts w (by decide +kernel)'), the script of L ints xs at the cell b, what the Statement gives of the start (any of its parts by flat_of_before) -/
def lw_At (p : Program) (s : State) (m : MethodId) (meth : Method) (c : Code) (b L : Nat) (xs : Nat → Int32) : Prop :=
  p.tables.exec = Jvm.exec ∧ c.code = code ∧ meth.sig.returnType = ret ∧ c.maxLocals = 4 ∧ s.vm.findClass R_law = some m.cls ∧ (∀ w ∈ lw_tbl, w.before #[Value.ref b] s = true) ∧ va_X b L xs s s.heap ∧ b < s.heap.size ∧ meth.locks = false ∧ (Jvm.Cond.and given_1 narrow_1).before #[Value.ref b] s = true
/-! ===== the law's own rows ===== -/
theorem sw_out18 {x : Int32} (h0 : ¬ x = 0) (h1 : ¬ x = 1) (h2 : ¬ x = 2) (h3 : ¬ x = 3) (h4 : ¬ x = 4) (h5 : ¬ x = 5) (h6 : ¬ x = 6) (h7 : ¬ x = 7) (h8 : ¬ x = 8) (h9 : ¬ x = 9) (h10 : ¬ x = 10) (h11 : ¬ x = 11) (h12 : ¬ x = 12) (h13 : ¬ x = 13) (h14 : ¬ x = 14) (h15 : ¬ x = 15) (h16 : ¬ x = 16) (h17 : ¬ x = 17) : x.toInt < 0 ∨ 17 < x.toInt := by
  have e7 : x.toInt ≠ 7 := i32n h7
  have e8 : x.toInt ≠ 8 := i32n h8
  have e9 : x.toInt ≠ 9 := i32n h9
  have e10 : x.toInt ≠ 10 := i32n h10
  have e11 : x.toInt ≠ 11 := i32n h11
  have e12 : x.toInt ≠ 12 := i32n h12
  have e13 : x.toInt ≠ 13 := i32n h13
  have e14 : x.toInt ≠ 14 := i32n h14
  have e15 : x.toInt ≠ 15 := i32n h15
  have e16 : x.toInt ≠ 16 := i32n h16
  have e17 : x.toInt ≠ 17 := i32n h17
  rcases sw_out7 h0 h1 h2 h3 h4 h5 h6 with h | h <;> omega
theorem law_end {i L : Nat} (hL : L ≤ 2048) (hi : i ≤ 4096) (h : L < i + 4) : nI L - 4 < nI i := by
  by_cases h4 : 4 ≤ L
  · rw [show (4 : Int32) = nI 4 from rfl, pk_sub h4]
    exact nI_lt (by omega) (by omega)
  · have h5 : nI L - nI 4 < 0 := pk_sneg (by decide) (by omega)
    exact Int32.lt_of_lt_of_le h5 (nI_pos' (by omega))
theorem law_on {i L : Nat} (hL : L ≤ 2048) (hi : i ≤ 4096) (h : ¬ nI L - 4 < nI i) : i + 4 ≤ L := Nat.not_lt.mp fun q => h (law_end hL hi q)
/-! ===== images on both sides ===== -/
def IMG (g k kp : Nat → Int32) : Prop := ∀ n : Nat, n < 2 → (kp n = 0 ∧ g (n * 4) = 0) ∨ (¬ kp n = 0 ∧ ¬ g (n * 4) = 0 ∧ MV (cl (g (n * 4))) (cl (g (n * 4 + 1))) (cl (g (n * 4 + 2))) (cl (g (n * 4 + 3))) ∧ (g (n * 4) = nI (cl (g (n * 4))) ∧ g (n * 4 + 1) = nI (cl (g (n * 4 + 1))) ∧ g (n * 4 + 2) = nI (cl (g (n * 4 + 2))) ∧ g (n * 4 + 3) = nI (cl (g (n * 4 + 3)))) ∧ k (n * 4) = g (n * 4) ∧ k (n * 4 + 1) = g (n * 4 + 1) ∧ k (n * 4 + 2) = g (n * 4 + 2) ∧ k (n * 4 + 3) = g (n * 4 + 3))
theorem img_0 : IMG (fun _ => 0) (fun _ => 0) (fun _ => 0) := fun _ _ => Or.inl ⟨rfl, rfl⟩
theorem img_ok {g k kp : Nat → Int32} (h : IMG g k kp) : imOk g := by
  intro n hn h0
  rcases h n hn with ⟨-, e⟩ | ⟨-, -, h1, h2, -⟩
  · exact absurd e h0
  · exact ⟨h1, h2⟩
theorem img_n {g k kp : Nat → Int32} (h : IMG g k kp) : imN k kp := by
  intro n hn h0
  rcases h n hn with ⟨e, -⟩ | ⟨-, -, -, ⟨a0, a1, a2, a3⟩, b0, b1, b2, b3⟩
  · exact absurd e h0
  · rw [b0, b1, b2, b3]
    exact ⟨a0, a1, a2, a3⟩
theorem img_res {g k kp : Nat → Int32} (h : IMG g k kp) (n : Int32) : sRes n g = smRes n kp := by
  unfold sRes smRes
  by_cases hj : jIn n 0 1 = 0
  · rw [if_pos hj, if_pos hj]
  · rw [if_neg hj, if_neg hj]
    obtain ⟨n2, hn2, rfl⟩ := jIn_nat 0 1 (by decide) hj
    rw [cl_nI (by omega)]
    rcases h n2 (by omega) with ⟨e1, e2⟩ | ⟨e1, e2, -⟩
    · rw [if_pos e1, if_pos e2]
    · rw [if_neg e1, if_neg e2]
theorem img_rs {g k kp : Nat → Int32} (h : IMG g k kp) (n : Int32) (t : Nat × Nat × Nat × Nat) : mrT n k kp t = rsT n g t := by
  unfold rsT mrT
  by_cases hj : jIn n 0 1 = 0
  · rw [if_pos hj, if_pos hj]
  · rw [if_neg hj, if_neg hj]
    obtain ⟨n2, hn2, rfl⟩ := jIn_nat 0 1 (by decide) hj
    rw [cl_nI (by omega)]
    rcases h n2 (by omega) with ⟨e1, e2⟩ | ⟨e1, e2, -, -, b0, b1, b2, b3⟩
    · rw [if_pos e1, if_pos e2]
    · rw [if_neg e1, if_neg e2, b0, b1, b2, b3]
theorem upd4 (g : Nat → Int32) (n : Nat) (a b c d : Int32) (m j : Nat) (hj : j < 4) : upd (upd (upd (upd g (n * 4) a) (n * 4 + 1) b) (n * 4 + 2) c) (n * 4 + 3) d (m * 4 + j) = if m = n then (if j = 0 then a else if j = 1 then b else if j = 2 then c else d) else g (m * 4 + j) := by
  unfold upd
  by_cases e : m = n
  · subst e
    rw [if_pos rfl]
    rcases (show j = 0 ∨ j = 1 ∨ j = 2 ∨ j = 3 by omega) with rfl | rfl | rfl | rfl <;> simp
  · rw [if_neg e, if_neg (by omega), if_neg (by omega), if_neg (by omega), if_neg (by omega)]
theorem img_im {Q P M Wd : Nat} (hv : MV Q P M Wd) {g k kp : Nat → Int32} (h : IMG g k kp) (n : Int32) : IMG (imT n g Q P M Wd) (imT n k Q P M Wd) (kpT n kp) := by
  unfold imT kpT
  by_cases hj : jIn n 0 1 = 0
  · rw [if_pos hj, if_pos hj, if_pos hj]
    exact h
  · rw [if_neg hj, if_neg hj, if_neg hj]
    obtain ⟨n2, hn2, rfl⟩ := jIn_nat 0 1 (by decide) hj
    rw [cl_nI (by omega)]
    have hv' := hv
    unfold MV at hv'
    intro m hm
    have u0 := fun g : Nat → Int32 => upd4 g n2 (nI Q) (nI P) (nI M) (nI Wd) m 0 (by decide)
    have u1 := fun g : Nat → Int32 => upd4 g n2 (nI Q) (nI P) (nI M) (nI Wd) m 1 (by decide)
    have u2 := fun g : Nat → Int32 => upd4 g n2 (nI Q) (nI P) (nI M) (nI Wd) m 2 (by decide)
    have u3 := fun g : Nat → Int32 => upd4 g n2 (nI Q) (nI P) (nI M) (nI Wd) m 3 (by decide)
    simp only [Nat.add_zero] at u0
    rw [u0 g, u1 g, u2 g, u3 g, u0 k, u1 k, u2 k, u3 k]
    by_cases e : m = n2
    · subst e
      rw [pk_us]
      simp only [if_true]
      rw [if_neg (show ¬ (1 : Nat) = 0 by decide), if_neg (show ¬ (2 : Nat) = 0 by decide), if_neg (show ¬ (2 : Nat) = 1 by decide), if_neg (show ¬ (3 : Nat) = 0 by decide), if_neg (show ¬ (3 : Nat) = 1 by decide), if_neg (show ¬ (3 : Nat) = 2 by decide), cl_nI (by omega), cl_nI (by omega), cl_nI (by omega), cl_nI (by omega)]
      refine Or.inr ⟨by decide, nI_ne0 (by omega) (by omega), hv, ?_, ?_⟩ <;> simp
    · rw [pk_un e]
      simp only [if_neg e]
      exact h m hm
/-! ===== the machine stays one ===== -/
theorem mv_mc {Q P M Wd : Nat} (hv : MV Q P M Wd) (q p m : Int32) : MV (mcT q p m (Q, P, M, Wd)).1 (mcT q p m (Q, P, M, Wd)).2.1 (mcT q p m (Q, P, M, Wd)).2.2.1 (mcT q p m (Q, P, M, Wd)).2.2.2 := by
  by_cases h1 : jIn q 3 48 = 0
  · rw [mcT_q h1]; exact hv
  · by_cases h2 : jIn p 1 10 = 0
    · rw [mcT_p h2]; exact hv
    · by_cases h3 : m = 3 ∨ m = 5
      · obtain ⟨q2, hq2, rfl⟩ := jIn_nat 3 48 (by decide) h1
        obtain ⟨p2, hp2, rfl⟩ := jIn_nat 1 10 (by decide) h2
        rw [mcT_ok hq2 hp2 h3]
        have hpw := pw_ok hq2 hp2
        have hm : cl m = 3 ∨ cl m = 5 := by
          rcases h3 with rfl | rfl
          · exact Or.inl rfl
          · exact Or.inr rfl
        show MV q2 p2 (cl m) (pw q2 p2)
        unfold MV
        omega
      · rw [mcT_m (fun z => h3 (Or.inl z)) (fun z => h3 (Or.inr z))]; exact hv
theorem mv_wd {Q P M Wd : Nat} (hv : MV Q P M Wd) (w : Int32) : MV Q P M (wdT Q Wd w) := by
  unfold wdT
  by_cases h1 : jIn w 1 (nI Q - 1) = 0
  · rw [if_pos h1]; exact hv
  · have hv' := hv
    unfold MV at hv'
    rw [if_neg h1]
    obtain ⟨w2, hw2, rfl⟩ := jIn_w (by omega) h1
    rw [cl_nI (by omega)]
    unfold MV
    omega
theorem mv_rs {Q P M Wd : Nat} (hv : MV Q P M Wd) {g : Nat → Int32} (hi : imOk g) (n : Int32) : MV (rsT n g (Q, P, M, Wd)).1 (rsT n g (Q, P, M, Wd)).2.1 (rsT n g (Q, P, M, Wd)).2.2.1 (rsT n g (Q, P, M, Wd)).2.2.2 := by
  by_cases h1 : jIn n 0 1 = 0
  · rw [rsT_n h1]; exact hv
  · obtain ⟨n2, hn2, rfl⟩ := jIn_nat 0 1 (by decide) h1
    by_cases h2 : g (n2 * 4) = 0
    · rw [rsT_0 (by omega) h2]; exact hv
    · rw [rsT_1 (by omega) h2]
      exact (hi n2 (by omega) h2).1
section LK
variable {p : Program} {l : Launch} {e : Env} {R : Room} {s : State} {m : MethodId} {args : Array Value} {below : List Frame} {meth : Method} {c : Code} {H : Heap} {locs : List Loc} {cells slots : Nat} {Q : State → Prop}
variable {D : va_G} {cI cZ : ClassId} {W0 wc : va_W} {cc bytes : ByteArray} {nL maxL n index pc : Nat} {own C : String} {y : MethodName} {ret : Option FieldType} {rm : Room} {Ts wy wy' : List Cond} {As rest st0 st1 : List Value} {a : Array Value} {ls : Array Slot} {b ci q0 : Nat} {v : Option Value} {A : Nat → Prop} {fs : List Value} {qc : vw_C} {B : va_W → Prop}
theorem me_go (hr : va_Run p l e R s m args below meth c H locs cells slots 0 0 (F0 m pc ls st0) rest (QcE D wc v B a) (va_M wc)) (hP : va_P D cls5 W0 H) (hD : va_D A W0) (hS : va_S A s.heap H locs) (is : List Nat) (hs : is.map (fun i => W0[i]?) = wc.map some) (hf : ∀ u, B u → u.map (fun q => q.1) = wc.map (fun q => q.1)) (hs1 : v.toList ++ rest = st1)
    (kk : ∀ (u : va_W) (H1 : Heap) (locs1 : List Loc), B u → va_P D cls5 (putAll W0 is u) H1 → va_D A (putAll W0 is u) → va_S A s.heap H1 locs1 → W p l e R s m args below meth c H1 locs1 cells slots Q (F0 m (pc + 3) ls st1)) : W p l e R s m args below meth c H locs cells slots Q (F0 m pc ls st0) := by
  intro T hT X
  obtain ⟨v', st₀, t, T', L, h0, X', hL, e1, e2, ⟨hv, ⟨u, hB, hp⟩, hz⟩, st⟩ := hr T hT X
  have hr2 : va_Run p l e R s m args below meth c H locs cells slots 0 0 (F0 m pc ls st0) rest (QcM D wc u v a) (va_M wc) ∨ True := Or.inr trivial
  -- the same walk, with u in the callee's place
  have key : ∀ T2 : State, T2 = T → ∃ t2, Steps p.tables e below (T2.setTop (F0 m pc ls st0)) t2 ∧ Q t2 := by
    intro T2 hT2
    subst hT2
    have hW : W p l e R s m args below meth c H locs cells slots Q (F0 m pc ls st0) ∨ True := Or.inr trivial
    subst hs1
    have hlen : is.length = u.length := by
      have h1 := congrArg List.length hs
      have h2 := congrArg List.length (hf u hB)
      simp only [List.length_map] at h1 h2
      omega
    have at1 : ∀ (j : Nat) (q : Nat × va_E), wc[j]? = some q → ∃ i, is[j]? = some i ∧ W0[i]? = some q := by
      intro j q hq
      have h1 : (is.map (fun i => W0[i]?))[j]? = some (some q) := by rw [hs, List.getElem?_map, hq]; rfl
      rw [List.getElem?_map] at h1
      cases hi : is[j]? with
      | none => rw [hi] at h1; cases h1
      | some i => rw [hi] at h1; exact ⟨i, rfl, Option.some.inj h1⟩
    have at2 : ∀ (j : Nat) (q : Nat × va_E), u[j]? = some q → ∃ q1 i, wc[j]? = some q1 ∧ q1.1 = q.1 ∧ is[j]? = some i ∧ W0[i]? = some q1 := by
      intro j q hq
      have h1 : (u.map (fun q => q.1))[j]? = some q.1 := by rw [List.getElem?_map, hq]; rfl
      rw [hf u hB, List.getElem?_map] at h1
      cases hi : wc[j]? with
      | none => rw [hi] at h1; cases h1
      | some q1 =>
        rw [hi] at h1
        obtain ⟨i, a1, a2⟩ := at1 j q1 hi
        exact ⟨q1, i, rfl, Option.some.inj h1, a1, a2⟩
    have keyD : ∀ (k : Nat) (q : Nat × va_E), (putAll W0 is u)[k]? = some q → ∃ q1, W0[k]? = some q1 ∧ q1.1 = q.1 := by
      intro k q hk
      rcases putAll_get is u W0 k q hlen hk with ⟨j, h1, h2⟩ | ⟨-, h2⟩
      · obtain ⟨q1, i, a1, a2, a3, a4⟩ := at2 j q h2
        rw [h1] at a3
        cases a3
        exact ⟨q1, a4, a2⟩
      · exact ⟨q, h2, rfl⟩
    have hD1 : va_D A (putAll W0 is u) := by
      refine ⟨fun i j x z hi hj hxy => ?_, fun k q hk => ?_⟩
      · obtain ⟨x1, a1, a2⟩ := keyD i x hi
        obtain ⟨z1, b1, b2⟩ := keyD j z hj
        exact hD.1 i j x1 z1 a1 b1 (a2.trans (hxy.trans b2.symm))
      · obtain ⟨q1, a1, a2⟩ := keyD k q hk
        rw [← a2]
        exact hD.2 k q1 a1
    have hA : ∀ q, va_M wc q → A q := by
      rintro q ⟨k, x, hk⟩
      obtain ⟨i, -, a2⟩ := at1 k (q, x) hk
      exact hD.2 i (q, x) a2
    cases hv
    obtain ⟨hz1, hk⟩ := hz
    rw [h0] at hz1 hk
    have hP1 : va_P D cls5 (putAll W0 is u) t.heap := by
      intro k q hk'
      rcases putAll_get is u W0 k q hlen hk' with ⟨j, h1, h2⟩ | ⟨h1, h2⟩
      · exact hp j q h2
      · refine (hP k q h2).kept (hk q.1 (hP k q h2).lt ?_)
        rintro ⟨j, x, hj⟩
        obtain ⟨i, a1, a2⟩ := at1 j (q.1, x) hj
        have := hD.1 k i q (q.1, x) h2 a2 rfl
        subst this
        exact h1 (List.mem_of_getElem? a1)
    obtain ⟨t2, a1, b1⟩ := kk u t.heap (locs ++ L) hB hP1 hD1 ⟨Nat.le_trans hS.1 hz1, fun q h1 h2 => by rw [hk q (Nat.lt_of_lt_of_le h1 hS.1) (fun z => h2 (hA q z))]; exact hS.2.1 q h1 h2, fun q hq => by
        rcases List.mem_append.mp hq with h | h
        · exact hS.2.2 q h
        · exact hA _ (hL q h)⟩ T' e1 X'
    exact ⟨t2, st t2 a1, b1⟩
  exact key T rfl
theorem me_V (S : CallFix p m c cc nL s args Ts own) (hT : TW D cI cZ s) (hP : va_P D cls5 W0 H) (hD : va_D A W0) (hS : va_S A s.heap H locs) (hM : ME l y wy rm D cI cZ wc (.ref b :: As) v B) (hG : GoodIn Ts (wsV own index C y wy)) (hw : wy = Cond.code y bytes maxL ret :: wy') (hC : y.cls = C) (hd : okName y n) (is : List Nat) (hnd : va_nd is = true) (hs : is.map (fun i => W0[i]?) = wc.map some) (hf : ∀ u, B u → u.map (fun q => q.1) = wc.map (fun q => q.1)) (hs1 : v.toList ++ rest = st1) (hci : cls5[ci]? = some qc) (hcn : qc.1 = C) (hq0 : W0[q0]? = some (b, .inr (ci, fs))) (hsz : ls.size = nL) (hst : st0 = As.reverse ++ .ref b :: rest) (hn : As.length = n) (hrs : (rest.map fun v => v.category).sum ≤ 8)
    (hR : rm.frames + 1 ≤ R.frames ∧ 8 + (maxL + 11) + rm.locals ≤ R.locals) (hz : rm.cells = 0 ∧ rm.slots = 0) (hc : cells ≤ R.cells ∧ slots ≤ R.slots) (hdg : decode cc pc = .ok (.invokevirtual index, 3))
    (kk : ∀ (u : va_W) (H1 : Heap) (locs1 : List Loc), B u → va_P D cls5 (putAll W0 is u) H1 → va_D A (putAll W0 is u) → va_S A s.heap H1 locs1 → W p l e R s m args below meth c H1 locs1 cells slots Q (F0 m (pc + 3) ls st1)) : W p l e R s m args below meth c H locs cells slots Q (F0 m pc ls st0) :=
  me_go (va_runV (g := F0 m pc ls st0) (C := C) S hM (cwV n S.2.2.2.2 hG hw hz.1 hz.2 ⟨hC, hd⟩ hR) ⟨PcX.blind, by rw [← hcn]; exact va_recv hT.1 hP hci hq0, fun U hU hW => ⟨rfl, hT.warm hW, by rw [hU]; exact subP hP is hs, subD hD is hnd hs⟩⟩ rfl hn hsz hst (lv_room hrs) hdg hc) hP hD hS is hs hf hs1 kk
theorem ld_s (hx : p.tables.exec = Jvm.exec) (hb : c.code = cc) {L : Nat} {xs : Nat → Int32} {H0 : Heap} (hX : va_X b L xs s H0) (hbl : b < H0.size) (hbA : ¬ A b) (hS : va_S A H0 H locs) {i : Int32} (k : Nat) (hi : i = nI k) (hk : k < L) (hL : L < 2 ^ 31) (hdg : decode cc pc = .ok (.iaload, 1))
    (kk : W p l e R s m args below meth c H locs cells slots Q (F0 m (pc + 1) ls (.int (xs k) :: rest))) : W p l e R s m args below meth c H locs cells slots Q (F0 m pc ls (.int i :: .ref b :: rest)) := by
  subst hi
  refine va_sld hx hb hX hbl hbA hS (vp_in_nI hk hL) hdg ?_
  rw [nI_clamp (Nat.lt_trans hk hL)]
  exact kk
end LK
theorem arr_known {ty : FieldType} {args : Array Value} {s : State} (h : (Cond.arrayClass ty).before args s = true) : ∃ cA : ClassId, ArrOfT s cA ty ∧ s.vm.findClass ("[" ++ ty.toString) = some cA := by
  obtain ⟨cA, kA, comp, hfind, hk, hkind⟩ := Cond.arrayClass_spec h
  exact ⟨cA, fun n z => ⟨fun k h => (by cases h), kA, hk, comp, hkind⟩, hfind⟩
theorem law_TW {args : Array Value} {s : State} (hts : ∀ w ∈ lw_tbl, w.before args s = true) : ∃ (D : va_G) (cI cZ : ClassId), TW D cI cZ s := by
  obtain ⟨c0, i0, k0⟩ := u_known (C := RX0) (T := TX0) (N := 6) (n := 6) hts inX0 (hts (.instantiable RX0 6) (List.mem_of_getElem? (i := 99) (by decide +kernel)))
  obtain ⟨c1, i1, k1⟩ := u_known (C := RX1) (T := TX1) (N := 6) (n := 6) hts inX1 (hts (.instantiable RX1 6) (List.mem_of_getElem? (i := 48) (by decide +kernel)))
  obtain ⟨c2, i2, k2⟩ := u_known (C := RX2) (T := TX2) (N := 3) (n := 3) hts inX2 (hts (.instantiable RX2 3) (List.mem_of_getElem? (i := 80) (by decide +kernel)))
  obtain ⟨c3, i3, k3⟩ := u_known (C := RX3) (T := TX3) (N := 6) (n := 6) hts inX3 (hts (.instantiable RX3 6) (List.mem_of_getElem? (i := 40) (by decide +kernel)))
  obtain ⟨c4, i4, k4⟩ := u_known (C := RX4) (T := TX4) (N := 16) (n := 16) hts inX4 (hts (.instantiable RX4 16) (List.mem_of_getElem? (i := 403) (by decide +kernel)))
  obtain ⟨cI, aI, fI⟩ := arr_known (hts (.arrayClass .int) (List.mem_of_getElem? (i := 97) (by decide +kernel)))
  obtain ⟨cZ, aZ, fZ⟩ := arr_known (hts (.arrayClass .boolean) (List.mem_of_getElem? (i := 457) (by decide +kernel)))
  refine ⟨(fun k => if k = 0 then c0 else if k = 1 then c1 else if k = 2 then c2 else if k = 3 then c3 else c4, fun k => if k = 0 then i0 else if k = 1 then i1 else if k = 2 then i2 else if k = 3 then i3 else i4), cI, cZ, ⟨?_, ?_⟩, ?_⟩
  · intro k q hq
    match k, hq with
    | 0, hq => cases hq; exact k0
    | 1, hq => cases hq; exact k1
    | 2, hq => cases hq; exact k2
    | 3, hq => cases hq; exact k3
    | 4, hq => cases hq; exact k4
    | k + 5, hq => simp at hq
  · intro k q hq
    match k, hq with
    | 0, hq => cases hq; exact ⟨aI, fI⟩
    | 1, hq => cases hq; exact ⟨aZ, fZ⟩
    | k + 2, hq => simp at hq
  · intro q hq
    unfold nst at hq
    simp only [List.mem_cons, List.not_mem_nil, or_false] at hq
    rcases hq with rfl | rfl | rfl | rfl | rfl | rfl | rfl | rfl | rfl | rfl | rfl | rfl | rfl
    · exact va_Nw.of rfl (hts (.methodLinkNest RX0 52 yX3_put "SlotStar") (List.mem_of_getElem? (i := 359) (by decide +kernel)))
    · exact va_Nw.of rfl (hts (.methodLinkNest RX0 56 yX3_at "SlotStar") (List.mem_of_getElem? (i := 364) (by decide +kernel)))
    · exact va_Nw.of rfl (hts (.methodLinkNest RX0 67 yX3_leftOver "SlotStar") (List.mem_of_getElem? (i := 369) (by decide +kernel)))
    · exact va_Nw.of rfl (hts (.methodLinkNest RX1 22 yX3_commonDivisor "SlotStar") (List.mem_of_getElem? (i := 134) (by decide +kernel)))
    · exact va_Nw.of rfl (hts (.methodLinkNest RX1 31 yX3_cut "SlotStar") (List.mem_of_getElem? (i := 143) (by decide +kernel)))
    · exact va_Nw.of rfl (hts (.methodLinkNest RX1 41 yX3_leftOver "SlotStar") (List.mem_of_getElem? (i := 238) (by decide +kernel)))
    · exact va_Nw.of rfl (hts (.methodLinkNest RX2 54 yX3_at "SlotStar") (List.mem_of_getElem? (i := 168) (by decide +kernel)))
    · exact va_Nw.of rfl (hts (.methodLinkNest RX2 33 yX3_cut "SlotStar") (List.mem_of_getElem? (i := 160) (by decide +kernel)))
    · exact va_Nw.of rfl (hts (.methodLinkNest RX2 29 yX3_leftOver "SlotStar") (List.mem_of_getElem? (i := 159) (by decide +kernel)))
    · exact va_Nw.of rfl (hts (.methodLinkNest RX2 25 yX3_put "SlotStar") (List.mem_of_getElem? (i := 153) (by decide +kernel)))
    · exact va_Nw.of rfl (hts (.methodLinkNest RX3 25 yX0_init "SlotStar") (List.mem_of_getElem? (i := 100) (by decide +kernel)))
    · exact va_Nw.of rfl (hts (.methodLinkNest RX3 9 yX1_init "SlotStar") (List.mem_of_getElem? (i := 49) (by decide +kernel)))
    · exact va_Nw.of rfl (hts (.methodLinkNest RX3 18 yX2_init "SlotStar") (List.mem_of_getElem? (i := 81) (by decide +kernel)))
