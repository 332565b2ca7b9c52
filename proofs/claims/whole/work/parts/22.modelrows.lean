/-! ===== contracts whose scratch rows are only said to be there ===== -/
def QcE (D : va_G) (ws : va_W) (v : Option Value) (B : va_W → Prop) : Array Value → State → Outcome → State → Prop := fun _ st o t => o = .returned v ∧ (∃ ws', B ws' ∧ va_P D cls5 ws' t.heap) ∧ va_F (va_M ws) st t
def ME (l : Launch) (y : MethodName) (wy : List Cond) (rm : Room) (D : va_G) (cI cZ : ClassId) (ws : va_W) (As : List Value) (v : Option Value) (B : va_W → Prop) : Prop := Met l y wy rm (PcX D cI cZ ws As) (QcE D ws v B) 0 0 (va_M ws)
theorem me_start {l : Launch} {y : MethodName} {wy wy' : List Cond} {rm : Room} {D : va_G} {cI cZ : ClassId} {ws : va_W} {B : va_W → Prop} {As : List Value} {v : Option Value} {cc : ByteArray} {maxL : Nat} {ret : Option FieldType}
    (hy : plainName y.cls = true) (hw : wy = Cond.code y cc maxL ret :: wy') (hA : (lg_sl As).length ≤ maxL)
    (body : ∀ (p : Program) (e : Env) (s : State) (m : MethodId) (args : Array Value) (below : List Frame) (meth : Method) (c : Code), p.tables.exec = Jvm.exec → c.code = cc → meth.sig.returnType = ret → c.maxLocals = maxL → meth.locks = false → (∀ w ∈ wy, w.before args s = true) → s.vm.findClass y.cls = some m.cls → TW D cI cZ s → va_P D cls5 ws s.heap → va_D (va_M ws) ws → va_S (va_M ws) s.heap s.heap [] → ∀ ls : Array Slot, lv_has ls maxL (lv_args 0 As) →
      W p l e (headSpec wy rm).room s m args below meth c s.heap [] 0 0 (MQ below (QcE D ws v B) args s 0 0 (va_M ws)) (F0 m 0 ls [])) : ME l y wy rm D cI cZ ws As v B := by
  refine Met.ofW (cc := cc) (maxL := maxL) (ret := ret) hy hw ?_
  intro p e s m args below meth c s₁ X hml hv
  obtain ⟨rfl, hT, hP, hD⟩ := hv
  have hl := lv_entry As (n := maxL) hA
  rw [lg_entry_eq]
  exact body p e s m _ below meth c X.exec X.bytes X.returns hml X.notSynchronized (atoms_spec (ws := wy) X.pre) (findClass_of_methodNamed X.named) hT hP hD.ofM va_S.rf _ hl
section CE
variable {p : Program} {l : Launch} {e : Env} {R : Room} {s : State} {m : MethodId} {args : Array Value} {below : List Frame} {meth : Method} {c : Code} {H : Heap} {locs : List Loc} {cells slots : Nat} {Q : State → Prop}
variable {D : va_G} {cc : ByteArray} {pc : Nat} {ls : Array Slot} {r : Int32}
theorem me_ret {v : Int32} {ws ws' : va_W} {B : va_W → Prop} (hx : p.tables.exec = Jvm.exec) (hb : c.code = cc) (hr : meth.sig.returnType = some .int) (hlocks : meth.locks = false) (hdg : decode cc pc = .ok (.ireturn, 1)) (hP : va_P D cls5 ws' H) (hB : B ws') (hS : va_S (va_M ws) s.heap H locs) (hv : v = r) : W p l e R s m args below meth c H locs 0 0 (MQ below (QcE D ws (some (.int r)) B) args s 0 0 (va_M ws)) (F0 m pc ls [.int v]) := by
  subst hv
  exact W.iret hx hb hr (fun t ht hW => ⟨rfl, ⟨ws', hB, by rw [ht]; exact hP⟩, hS.F ht⟩) hS.2.2 hdg
end CE
/-! ===== rows of the reference ===== -/
def xnL (n : Nat) : Nat → Nat → (Nat → Int32) → Nat → Int32
  | 0, _, w => w
  | f + 1, i, w => xnL n f (i + 1) (upd w i (xn n i))
theorem xnL_at (n : Nat) : ∀ (f i : Nat) (w : Nat → Int32) (j : Nat), (i ≤ j ∧ j < i + f → xnL n f i w j = xn n j) ∧ (j < i → xnL n f i w j = w j)
  | 0, i, w, j => ⟨fun h => absurd h (by omega), fun _ => rfl⟩
  | f + 1, i, w, j => by
    have h := xnL_at n f (i + 1) (upd w i (xn n i)) j
    unfold xnL
    refine ⟨fun hj => ?_, fun hj => ?_⟩
    · by_cases e : j = i
      · subst e
        rw [h.2 (by omega)]
        exact pk_us
      · exact h.1 (by omega)
    · rw [h.2 (by omega)]
      exact pk_un (by omega)
theorem ldOk_yes {n f d h : Nat} {w : Nat → Int32} (h0 : n % d = 0) (hk : ldOk n (f + 1) d h w) : dgN d ≤ h ∧ ldOk n f (d + 1) (h - dgN d) (dvW (cyR d) (dgN d) h w) := by
  unfold ldOk at hk
  rw [if_pos h0] at hk
  exact hk
theorem ldOk_no {n f d h : Nat} {w : Nat → Int32} (h0 : ¬ n % d = 0) (hk : ldOk n (f + 1) d h w) : ldOk n f (d + 1) h w := by
  unfold ldOk at hk
  rw [if_neg h0] at hk
  exact hk
/-- the last step of it says what lies above -/
theorem ldOk_end {n : Nat} : ∀ (f d h : Nat) (w : Nat → Int32), ldOk n f d h w → ∀ i, i < 49 → dgN n < i → cyR n i = 0
  | 0, d, h, w, hk, i, hi, hd => by
    obtain ⟨e, hx⟩ := hk
    rw [← hx i hi, if_neg (by omega)]
  | f + 1, d, h, w, hk, i, hi, hd => by
    by_cases h0 : n % d = 0
    · exact ldOk_end f (d + 1) _ _ (ldOk_yes h0 hk).2 i hi hd
    · exact ldOk_end f (d + 1) _ _ (ldOk_no h0 hk) i hi hd
theorem cyc_hi {n : Nat} (h1 : 1 ≤ n) (h2 : n ≤ 48) {i : Nat} (hi : i < 49) (hd : dgN n < i) : cyR n i = 0 := ldOk_end _ _ _ _ (LD n h1 h2) i hi hd
def layO (n : Nat) (o : Nat → Int32) : Nat → Int32 := fun j => if 49 * n ≤ j ∧ j < 49 * n + 49 then cyR n (j - 49 * n) else o j
def owL (n h : Nat) (w : Nat → Int32) : Nat → Nat → (Nat → Int32) → Nat → Int32
  | 0, _, o => o
  | f + 1, i, o => owL n h w f (i + 1) (upd o (49 * n + i) (if i ≤ h then w i else 0))
theorem owL_at (n h : Nat) (w : Nat → Int32) : ∀ (f i : Nat) (o : Nat → Int32) (j : Nat), (49 * n + i ≤ j ∧ j < 49 * n + i + f → owL n h w f i o j = if j - 49 * n ≤ h then w (j - 49 * n) else 0) ∧ (¬ (49 * n + i ≤ j ∧ j < 49 * n + i + f) → owL n h w f i o j = o j)
  | 0, i, o, j => ⟨fun h => absurd h (by omega), fun _ => rfl⟩
  | f + 1, i, o, j => by
    have hh := owL_at n h w f (i + 1) (upd o (49 * n + i) (if i ≤ h then w i else 0)) j
    unfold owL
    refine ⟨fun hj => ?_, fun hj => ?_⟩
    · by_cases e : j = 49 * n + i
      · subst e
        rw [hh.2 (by omega), pk_us, show 49 * n + i - 49 * n = i by omega]
      · exact hh.1 (by omega)
    · rw [hh.2 (by omega)]
      exact pk_un (by omega)
theorem owL_lay {n h : Nat} {w : Nat → Int32} (o : Nat → Int32) (hx : ∀ i, i < 49 → (if i ≤ h then w i else 0) = cyR n i) (j : Nat) : owL n h w 49 0 o j = layO n o j := by
  have hh := owL_at n h w 49 0 o j
  unfold layO
  by_cases hj : 49 * n ≤ j ∧ j < 49 * n + 49
  · rw [if_pos hj, hh.1 (by omega)]
    exact hx _ (by omega)
  · rw [if_neg hj, hh.2 (by omega)]
def rowOk (o g : Nat → Int32) (d : Nat) : Prop := g d = nI (dgN d) ∧ ∀ k, k < 49 → o (49 * d + k) = cyR d k
theorem rowOk_self (o g : Nat → Int32) (n : Nat) : rowOk (layO n o) (upd g n (nI (dgN n))) n := by
  refine ⟨pk_us, fun k hk => ?_⟩
  unfold layO
  rw [if_pos (by omega), show 49 * n + k - 49 * n = k by omega]
theorem rowOk_other {o g : Nat → Int32} {n e : Nat} {x : Int32} (hne : e ≠ n) (h : rowOk o g e) : rowOk (layO n o) (upd g n x) e := by
  refine ⟨by rw [pk_un hne]; exact h.1, fun k hk => ?_⟩
  unfold layO
  rw [if_neg (by omega)]
  exact h.2 k hk
theorem mod_tr {n d e : Nat} (h1 : d % e = 0) (h2 : n % d = 0) : n % e = 0 := Nat.mod_eq_zero_of_dvd (Nat.dvd_trans (Nat.dvd_of_mod_eq_zero h1) (Nat.dvd_of_mod_eq_zero h2))
def loO (n : Nat) : Nat → Nat → (Nat → Int32) → Nat → Int32
  | 0, _, o => o
  | f + 1, d, o => loO n f (d + 1) (if n % d = 0 then layO d o else o)
def loD (n : Nat) : Nat → Nat → (Nat → Int32) → Nat → Int32
  | 0, _, g => g
  | f + 1, d, g => loD n f (d + 1) (if n % d = 0 then upd g d (nI (dgN d)) else g)
def loW (n : Nat) : Nat → Nat → (Nat → Int32) → Nat → Int32
  | 0, _, w => w
  | f + 1, d, w => loW n f (d + 1) (if n % d = 0 then ldF d else w)
def lO (n : Nat) (o : Nat → Int32) : Nat → Int32 := loO n n 1 o
def lD (n : Nat) (g : Nat → Int32) : Nat → Int32 := loD n n 1 g
def lW (n : Nat) (w : Nat → Int32) : Nat → Int32 := loW n n 1 w
theorem rows_step {n d : Nat} {o g : Nat → Int32} (h : ∀ e, 1 ≤ e → e < d → n % e = 0 → rowOk o g e) : ∀ e, 1 ≤ e → e < d + 1 → n % e = 0 → rowOk (if n % d = 0 then layO d o else o) (if n % d = 0 then upd g d (nI (dgN d)) else g) e := by
  intro e h1 h2 h3
  by_cases hd : n % d = 0
  · rw [if_pos hd, if_pos hd]
    by_cases e1 : e = d
    · subst e1
      exact rowOk_self o g e
    · exact rowOk_other e1 (h e h1 (by omega) h3)
  · rw [if_neg hd, if_neg hd]
    have e1 : e ≠ d := fun q => hd (q ▸ h3)
    exact h e h1 (by omega) h3
theorem rows_all {n : Nat} : ∀ (f d : Nat) (o g : Nat → Int32), d + f = n + 1 → (∀ e, 1 ≤ e → e < d → n % e = 0 → rowOk o g e) → ∀ e, 1 ≤ e → e ≤ n → n % e = 0 → rowOk (loO n f d o) (loD n f d g) e
  | 0, d, o, g, h, hr, e, h1, h2, h3 => hr e h1 (by omega) h3
  | f + 1, d, o, g, h, hr, e, h1, h2, h3 => rows_all f (d + 1) _ _ (by omega) (rows_step hr) e h1 h2 h3
theorem rowOk_n {n : Nat} (h : 1 ≤ n) (o g : Nat → Int32) : rowOk (lO n o) (lD n g) n := rows_all n 1 o g (by omega) (fun e h1 h2 => absurd h2 (by omega)) n h (Nat.le_refl n) (Nat.mod_self n)
/-- a row of the two rows of sums -/
def rowP (r : Nat) (w sm : Nat → Int32) : Nat → Int32 := fun j => if 49 * r ≤ j ∧ j < 49 * r + 49 then w (j - 49 * r) else sm j
theorem rowP_in {r i : Nat} {w sm : Nat → Int32} (h : i < 49) : rowP r w sm (49 * r + i) = w i := by
  unfold rowP
  rw [if_pos (by omega), show 49 * r + i - 49 * r = i by omega]
theorem rowP_upd {r i : Nat} {w sm : Nat → Int32} {x : Int32} (h : i < 49) : upd (rowP r w sm) (49 * r + i) x = rowP r (upd w i x) sm := by
  funext j
  unfold rowP upd
  by_cases e : j = 49 * r + i
  · subst e
    rw [if_pos rfl, if_pos (by omega), if_pos (by omega)]
  · rw [if_neg e]
    by_cases hj : 49 * r ≤ j ∧ j < 49 * r + 49
    · show (if 49 * r ≤ j ∧ j < 49 * r + 49 then w (j - 49 * r) else sm j) = _
      rw [if_pos hj, if_pos hj, if_neg (by omega)]
    · show (if 49 * r ≤ j ∧ j < 49 * r + 49 then w (j - 49 * r) else sm j) = _
      rw [if_neg hj, if_neg hj]
def zfL (r : Nat) : Nat → Nat → (Nat → Int32) → Nat → Int32
  | 0, _, o => o
  | f + 1, i, o => zfL r f (i + 1) (upd o (49 * r + i) 0)
theorem zfL_at (r : Nat) : ∀ (f i : Nat) (o : Nat → Int32) (j : Nat), (49 * r + i ≤ j ∧ j < 49 * r + i + f → zfL r f i o j = 0) ∧ (¬ (49 * r + i ≤ j ∧ j < 49 * r + i + f) → zfL r f i o j = o j)
  | 0, i, o, j => ⟨fun h => absurd h (by omega), fun _ => rfl⟩
  | f + 1, i, o, j => by
    have hh := zfL_at r f (i + 1) (upd o (49 * r + i) 0) j
    unfold zfL
    refine ⟨fun hj => ?_, fun hj => ?_⟩
    · by_cases e : j = 49 * r + i
      · subst e
        rw [hh.2 (by omega), pk_us]
      · exact hh.1 (by omega)
    · rw [hh.2 (by omega)]
      exact pk_un (by omega)
theorem zfL_row (r : Nat) (o : Nat → Int32) (j : Nat) : zfL r 49 0 o j = rowP r (fun _ => 0) o j := by
  have hh := zfL_at r 49 0 o j
  unfold rowP
  by_cases hj : 49 * r ≤ j ∧ j < 49 * r + 49
  · rw [if_pos hj, hh.1 (by omega)]
  · rw [if_neg hj, hh.2 (by omega)]
theorem i_sub {x y : Int32} : x - y = x + -y := Int32.sub_eq_add_neg x y
