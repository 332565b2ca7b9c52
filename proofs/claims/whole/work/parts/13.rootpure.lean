/-! ===== rows: what the root's methods leave ===== -/
def flL (v : Int32) : Nat → Nat → (Nat → Int32) → Nat → Int32
  | 0, _, g => g
  | f + 1, i, g => flL v f (i + 1) (upd g i v)
def mulL (d : Nat) : Nat → Nat → (Nat → Int32) → Nat → Int32
  | 0, _, g => g
  | f + 1, i, g => mulL d f (i - 1) (upd g i (g i - g (i - d)))
def divL (d : Nat) : Nat → Nat → (Nat → Int32) → Nat → Int32
  | 0, _, g => g
  | f + 1, i, g => divL d f (i + 1) (upd g i (g i + g (i - d)))
def hpL (g : Nat → Int32) : Nat → Nat
  | 0 => 0
  | i + 1 => if g (i + 1) = 0 then hpL g i else i + 1
def mbL : Nat → Nat → Nat → Int32 → Int32
  | 0, _, _, sg => sg
  | f + 1, p, r, sg => if r % p = 0 then (if (r / p) % p = 0 then 0 else mbL f (p + 1) (r / p) (-sg)) else mbL f (p + 1) r sg
def mob (n : Nat) : Int32 := mbL 47 2 n 1
def bcS (n d : Nat) (g : Nat → Int32) : Nat → Int32 :=
  if n % d = 0 then (if mob (n / d) ≤ 0 then (if 0 ≤ mob (n / d) then g else divL d (n + 1 - d) d g) else mulL d (n + 1 - d) n g) else g
def bcL (n : Nat) : Nat → Nat → (Nat → Int32) → Nat → Int32
  | 0, _, g => g
  | f + 1, d, g => bcL n f (d + 1) (bcS n d g)
def rbc (n : Nat) (g : Nat → Int32) : Nat → Int32 := bcL n n 1 (upd (flL 0 49 0 g) 0 (if n = 1 then (-1) else 1))
def rdI (g : Nat → Int32) (b : Nat) (c : Int32) : Nat → Nat → (Nat → Int32) → Nat → Int32
  | 0, _, w => w
  | f + 1, j, w => rdI g b c f (j + 1) (upd w (b + j) (w (b + j) - c * g j))
def rdO (g : Nat → Int32) (dg : Nat) : Nat → Nat → (Nat → Int32) → Nat → Int32
  | 0, _, w => w
  | f + 1, i, w => rdO g dg f (i - 1) (rdI g (i - dg) (w i) (dg + 1) 0 w)
def mxL (g : Nat → Int32) (c : Int32) : Nat → (Nat → Int32) → Nat → Int32
  | 0, w => w
  | i + 1, w => mxL g c i (upd w (i + 1) (w i - c * g (i + 1)))
def rmx (g : Nat → Int32) (dg : Nat) (w : Nat → Int32) : Nat → Int32 := upd (mxL g (w (dg - 1)) (dg - 1) w) 0 (-(w (dg - 1)) * g 0)
def zrL (w : Nat → Int32) : Nat → Nat → Int32
  | 0, _ => 1
  | f + 1, i => if w i = 0 then zrL w f (i + 1) else 0
def smL (w z : Nat → Int32) : Nat → Nat → Int32
  | 0, _ => 1
  | f + 1, i => if w i = z i then smL w z f (i + 1) else 0
theorem zrL01 (w : Nat → Int32) : ∀ f i : Nat, zrL w f i = 0 ∨ zrL w f i = 1
  | 0, _ => Or.inr rfl
  | f + 1, i => by
    unfold zrL
    split
    · exact zrL01 w f (i + 1)
    · exact Or.inl rfl
theorem smL01 (w z : Nat → Int32) : ∀ f i : Nat, smL w z f i = 0 ∨ smL w z f i = 1
  | 0, _ => Or.inr rfl
  | f + 1, i => by
    unfold smL
    split
    · exact smL01 w z f (i + 1)
    · exact Or.inl rfl
theorem nI_sub1 {a : Nat} (h : 0 < a) : nI a - 1 = nI (a - 1) := by
  rw [← nI_one]
  exact pk_sub h
theorem nI_mod0 {a b : Nat} (ha : a < 2 ^ 31) (h0 : 0 < b) (hb : b < 2 ^ 31) : jLO (nI a) (nI b) = 0 ↔ a % b = 0 := by
  rw [jLO_nI ha h0 hb]
  exact nI_eq0 (Nat.lt_of_le_of_lt (Nat.mod_le a b) ha)
theorem hpL_le (g : Nat → Int32) : ∀ i : Nat, hpL g i ≤ i
  | 0 => Nat.le_refl 0
  | i + 1 => by
    unfold hpL
    split
    · exact Nat.le_succ_of_le (hpL_le g i)
    · exact Nat.le_refl _
