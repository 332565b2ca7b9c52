/-! ===== rows: what the root's methods leave ===== -/
def flL (v : Int32) : Nat → Nat → (Nat → Int32) → Nat → Int32
  | 0, _, g => g
  | f + 1, i, g => flL v f (i + 1) (upd g i v)
def mulL (d : Nat) : Nat → Nat → (Nat → Int32) → Nat → Int32
  | 0, _, g => g
  | f + 1, i, g => mulL d f (i - 1) (upd g i (g i - g (i - d)))
def divL (d : Nat) : Nat → Nat → (Nat → Int32) → Nat → Int32
  | 0, _, g => g
  | f + 1, i, g => divL d f (i + 1) (upd g i (g i + g (i - d)))
def hpL (g : Nat → Int32) : Nat → Nat
  | 0 => 0
  | i + 1 => if g (i + 1) = 0 then hpL g i else i + 1
def mbL : Nat → Nat → Nat → Int32 → Int32
  | 0, _, _, sg => sg
  | f + 1, p, r, sg => if r % p = 0 then (if (r / p) % p = 0 then 0 else mbL f (p + 1) (r / p) (-sg)) else mbL f (p + 1) r sg
def mob (n : Nat) : Int32 := mbL 47 2 n 1
def bcS (n d : Nat) (g : Nat → Int32) : Nat → Int32 :=
  if n % d = 0 then (if mob (n / d) ≤ 0 then (if 0 ≤ mob (n / d) then g else divL d (n + 1 - d) d g) else mulL d (n + 1 - d) n g) else g
def bcL (n : Nat) : Nat → Nat → (Nat → Int32) → Nat → Int32
  | 0, _, g => g
  | f + 1, d, g => bcL n f (d + 1) (bcS n d g)
def cyR (n : Nat) : Nat → Int32 := bcL n n 1 (upd (fun _ => 0) 0 (if n = 1 then (-1) else 1))
def dgN (n : Nat) : Nat := hpL (cyR n) n
def rdI (g : Nat → Int32) (b : Nat) (c : Int32) : Nat → Nat → (Nat → Int32) → Nat → Int32
  | 0, _, w => w
  | f + 1, j, w => rdI g b c f (j + 1) (upd w (b + j) (w (b + j) - c * g j))
def rdO (g : Nat → Int32) (dg : Nat) : Nat → Nat → (Nat → Int32) → Nat → Int32
  | 0, _, w => w
  | f + 1, i, w => rdO g dg f (i - 1) (rdI g (i - dg) (w i) (dg + 1) 0 w)
def mxL (g : Nat → Int32) (c : Int32) : Nat → (Nat → Int32) → Nat → Int32
  | 0, w => w
  | i + 1, w => mxL g c i (upd w (i + 1) (w i - c * g (i + 1)))
def rmx (g : Nat → Int32) (dg : Nat) (w : Nat → Int32) : Nat → Int32 := upd (mxL g (w (dg - 1)) (dg - 1) w) 0 (-(w (dg - 1)) * g 0)
def zrL (w : Nat → Int32) : Nat → Nat → Int32
  | 0, _ => 1
  | f + 1, i => if w i = 0 then zrL w f (i + 1) else 0
def smL (w z : Nat → Int32) : Nat → Nat → Int32
  | 0, _ => 1
  | f + 1, i => if w i = z i then smL w z f (i + 1) else 0
theorem zrL01 (w : Nat → Int32) : ∀ f i : Nat, zrL w f i = 0 ∨ zrL w f i = 1
  | 0, _ => Or.inr rfl
  | f + 1, i => by
    unfold zrL
    split
    · exact zrL01 w f (i + 1)
    · exact Or.inl rfl
theorem smL01 (w z : Nat → Int32) : ∀ f i : Nat, smL w z f i = 0 ∨ smL w z f i = 1
  | 0, _ => Or.inr rfl
  | f + 1, i => by
    unfold smL
    split
    · exact smL01 w z f (i + 1)
    · exact Or.inl rfl
theorem nI_sub1 {a : Nat} (h : 0 < a) : nI a - 1 = nI (a - 1) := by
  rw [← nI_one]
  exact pk_sub h
theorem nI_mod0 {a b : Nat} (ha : a < 2 ^ 31) (h0 : 0 < b) (hb : b < 2 ^ 31) : jLO (nI a) (nI b) = 0 ↔ a % b = 0 := by
  rw [jLO_nI ha h0 hb]
  exact nI_eq0 (Nat.lt_of_le_of_lt (Nat.mod_le a b) ha)
theorem hpL_le (g : Nat → Int32) : ∀ i : Nat, hpL g i ≤ i
  | 0 => Nat.le_refl 0
  | i + 1 => by
    unfold hpL
    split
    · exact Nat.le_succ_of_le (hpL_le g i)
    · exact Nat.le_refl _
theorem flL_all (v : Int32) : ∀ (f i : Nat) (g : Nat → Int32) (j : Nat), (i ≤ j ∧ j < i + f → flL v f i g j = v) ∧ (j < i → flL v f i g j = g j)
  | 0, i, g, j => ⟨fun h => absurd h (by omega), fun _ => rfl⟩
  | f + 1, i, g, j => by
    have h := flL_all v f (i + 1) (upd g i v) j
    unfold flL
    refine ⟨fun hj => ?_, fun hj => ?_⟩
    · by_cases e : j = i
      · subst e
        rw [h.2 (by omega)]
        exact pk_us
      · exact h.1 (by omega)
    · rw [h.2 (by omega)]
      exact pk_un (by omega)
theorem arr_eq {D : va_G} {cl : List vw_C} {ws W1 : va_W} {H : Heap} {b z : Nat} {cA : ClassId} {f g : Nat → Int32} (hP : va_P D cl ws H) (q0 : Nat) (ha : ws[q0]? = some (b, .inl (cA, z, .inl f))) (h : ∀ j, j < z → f j = g j) (hW : ws.set q0 (b, .inl (cA, z, .inl g)) = W1) : va_P D cl W1 H := by
  subst hW
  have hl := (List.getElem?_eq_some_iff.mp ha).1
  intro k q hk
  by_cases hkp : k = q0
  · subst hkp
    rw [List.getElem?_set_self hl] at hk
    cases hk
    have h1 := hP k _ ha
    show H[b]? = some (vp_cell cA (z, .inl g))
    have h2 : H[b]? = some (vp_cell cA (z, .inl f)) := h1
    rw [h2, vp_cell_i, vp_cell_i]
    congr 1
    unfold arrV
    congr 1
    congr 1
    funext j
    exact congrArg Value.int (h j.val j.isLt)
  · rw [List.getElem?_set_ne (Ne.symm hkp)] at hk
    exact hP k q hk
theorem i32n {x k : Int32} (h : ¬ x = k) : x.toInt ≠ k.toInt := fun e => h (Int32.toInt_inj.mp e)
theorem lk_out2 {x : Int32} {a b d : Int} (h0 : ¬ x = 0) (h1 : ¬ x = 1) : lookupswitch.offset [(0, a), (1, b)] d x.toInt = d := by
  have e0 : x.toInt ≠ 0 := i32n h0
  have e1 : x.toInt ≠ 1 := i32n h1
  rw [lookupswitch.offset_cons, if_neg (fun q => e0 q.symm), lookupswitch.offset_cons, if_neg (fun q => e1 q.symm), lookupswitch.offset_nil]
theorem sw_out6 {x : Int32} (h0 : ¬ x = 0) (h1 : ¬ x = 1) (h2 : ¬ x = 2) (h3 : ¬ x = 3) (h4 : ¬ x = 4) (h5 : ¬ x = 5) : x.toInt < 0 ∨ 5 < x.toInt := by
  have e0 : x.toInt ≠ 0 := i32n h0
  have e1 : x.toInt ≠ 1 := i32n h1
  have e2 : x.toInt ≠ 2 := i32n h2
  have e3 : x.toInt ≠ 3 := i32n h3
  have e4 : x.toInt ≠ 4 := i32n h4
  have e5 : x.toInt ≠ 5 := i32n h5
  omega
theorem sw_out7 {x : Int32} (h0 : ¬ x = 0) (h1 : ¬ x = 1) (h2 : ¬ x = 2) (h3 : ¬ x = 3) (h4 : ¬ x = 4) (h5 : ¬ x = 5) (h6 : ¬ x = 6) : x.toInt < 0 ∨ 6 < x.toInt := by
  have e6 : x.toInt ≠ 6 := i32n h6
  rcases sw_out6 h0 h1 h2 h3 h4 h5 with h | h <;> omega
