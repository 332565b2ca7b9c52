/-! ===== what each call answers, and what it leaves: one word for the class and for the reference ===== -/
theorem jIn_nat {x : Int32} (a b : Nat) (hab : a < 2 ^ 31 ∧ b < 2 ^ 31) (h : ¬ jIn x (nI a) (nI b) = 0) : ∃ k : Nat, (a ≤ k ∧ k ≤ b) ∧ x = nI k := by
  unfold jIn at h
  by_cases h1 : x < nI a
  · rw [if_pos h1] at h
    exact absurd rfl h
  · rw [if_neg h1] at h
    by_cases h2 : nI b < x
    · rw [if_pos h2] at h
      exact absurd rfl h
    · have h3 : ¬ x < 0 := fun q => h1 (Int32.lt_of_lt_of_le q (nI_pos' hab.1))
      obtain ⟨k, hk, rfl⟩ := nI_of h3
      refine ⟨k, ⟨Nat.not_lt.mp fun q => h1 (nI_lt q hab.1), Nat.not_lt.mp fun q => h2 (nI_lt q hk)⟩, rfl⟩
theorem jIn_sl {x : Int32} {z : Nat} (hz : 0 < z ∧ z < 2 ^ 31) (h : ¬ jIn x 0 (nI z - 1) = 0) : ∃ k : Nat, k < z ∧ x = nI k := by
  rw [nI_sub1 hz.1] at h
  obtain ⟨k, hk, e⟩ := jIn_nat 0 (z - 1) (by omega) h
  exact ⟨k, by omega, e⟩
theorem jIn_w {x : Int32} {z : Nat} (hz : 0 < z ∧ z < 2 ^ 31) (h : ¬ jIn x 1 (nI z - 1) = 0) : ∃ k : Nat, (1 ≤ k ∧ k < z) ∧ x = nI k := by
  rw [nI_sub1 hz.1] at h
  obtain ⟨k, hk, e⟩ := jIn_nat 1 (z - 1) (by omega) h
  exact ⟨k, by omega, e⟩
def sSlot (Q P M Wd : Nat) (k what : Int32) : Int32 :=
  if jIn k 0 (nI Q - 1) = 0 then (-1) else if jIn what 0 6 = 0 then (-2) else if ¬ jIn what 2 4 = 0 ∧ bal Q P M = 0 then (-3) else
  if what = 0 then nI (tn Q P (cl k)) else if what = 1 then nI (cl k / tN Q P) else if what = 2 then nI (zn Q P M (cl k)) else if what = 3 then nI (ph Q P M (cl k)) else if what = 4 then fwd Q P M (cl k) else if what = 5 then nI (en Q (cl k) Wd) else nI (be Q Wd (cl k))
def sPhase (Q P M : Nat) (a what : Int32) : Int32 :=
  if jIn a 0 (nI M - 1) = 0 then (-1) else if jIn what 0 2 = 0 then (-2) else if bal Q P M = 0 then (-3) else
  if what = 0 then csL Q P M a 1 Q 0 0 + csL Q P M a 0 Q 0 0 else if what = 1 then csL Q P M a 1 Q 0 0 else csL Q P M a 0 Q 0 0
def lyC (Q P M k : Nat) (b : Int32) : Int32 := 10 * nI (ph Q P M k) + (if fwd Q P M k = b then 1 else 0)
def sLayer (Q P M Wd : Nat) (k layer : Int32) : Int32 :=
  if jIn k 0 (nI Q - 1) = 0 then (-1) else if jIn layer 0 1 = 0 then (-2) else if bal Q P M = 0 then (-3) else
  if layer = 0 then lyC Q P M (cl k) 1 else lyC Q P M (be Q Wd (cl k)) 0
def sEach (Q P M : Nat) (what : Int32) : Int32 :=
  if jIn what 0 1 = 0 then (-2) else if what = 0 then nI (Q / Nat.gcd Q (2 * P * M)) else nI (2 * P * M / Nat.gcd Q (2 * P * M))
def sOwn (n : Nat) (i : Int32) : Int32 :=
  if i = (-1) then nI (dgN n) else if jIn i 0 (nI (dgN n)) = 0 then (-6) else cyR n (cl i)
def sgn (Q P M k : Nat) : Int32 := if fwd Q P M k = 0 then (-1) else 1
def ap (n q : Nat) (x : Int32) (g : Nat → Int32) : Nat → Int32 := upd g (q % n) (g (q % n) + x)
def adS (Q P M : Nat) (a : Int32) (h w k : Nat) (g : Nat → Int32) : Nat → Int32 :=
  if nI (ph Q P M k) = a then ap (tN Q P) (h * tn Q P (en Q k w)) (-(sgn Q P M k)) (ap (tN Q P) (h * tn Q P k) (sgn Q P M k) g) else g
def adL (Q P M : Nat) (a : Int32) (h w : Nat) : Nat → Nat → (Nat → Int32) → Nat → Int32
  | 0, _, g => g
  | f + 1, k, g => adL Q P M a h w f (k + 1) (adS Q P M a h w k g)
def adR (Q P M : Nat) (a : Int32) (h w : Nat) : Nat → Int32 := rdO (cyR (tN Q P)) (dgN (tN Q P)) (tN Q P - dgN (tN Q P)) (tN Q P - 1) (adL Q P M a h w (tN Q P) 0 (fun _ => 0))
def sSum (Q P M Wd : Nat) (a h i : Int32) : Int32 :=
  if jIn a 0 (nI M - 1) = 0 then (-100001) else if jIn h 1 99 = 0 then (-100002) else if jIn i 0 (nI (dgN (tN Q P)) - 1) = 0 then (-100002) else if bal Q P M = 0 then (-100003) else adR Q P M a (cl h) Wd (cl i)
def fSum (Q P M Wd : Nat) (a h i : Int32) (g : Nat → Int32) : Nat → Int32 :=
  if jIn a 0 (nI M - 1) = 0 then g else if jIn h 1 99 = 0 then g else if jIn i 0 (nI (dgN (tN Q P)) - 1) = 0 then g else if bal Q P M = 0 then g else adR Q P M a (cl h) Wd
def nth (Q P M h w : Nat) : Int32 := zrL (adR Q P M 0 h w) (dgN (tN Q P)) 0
theorem nth01 (Q P M h w : Nat) : nth Q P M h w = 0 ∨ nth Q P M h w = 1 := zrL01 _ _ _
def sVan (Q P M Wd : Nat) (h : Int32) : Int32 := if jIn h 1 99 = 0 then (-2) else if bal Q P M = 0 then (-3) else nth Q P M (cl h) Wd
def fVan (Q P M Wd : Nat) (h : Int32) (g : Nat → Int32) : Nat → Int32 := if jIn h 1 99 = 0 then g else if bal Q P M = 0 then g else adR Q P M 0 (cl h) Wd
def chL (Q P M h : Nat) : Nat → Int32
  | 0 => (-6)
  | w + 1 => if nth Q P M h (w + 1) = 0 then chL Q P M h w else nI (w + 1)
def chR (Q P M h : Nat) : Nat → (Nat → Int32) → Nat → Int32
  | 0, g => g
  | w + 1, _ => if nth Q P M h (w + 1) = 0 then chR Q P M h w (adR Q P M 0 h (w + 1)) else adR Q P M 0 h (w + 1)
def sCho (Q P M : Nat) (h : Int32) : Int32 := if jIn h 1 99 = 0 then (-2) else if bal Q P M = 0 then (-3) else chL Q P M (cl h) (pw Q P)
def fCho (Q P M : Nat) (h : Int32) (g : Nat → Int32) : Nat → Int32 := if jIn h 1 99 = 0 then g else if bal Q P M = 0 then g else chR Q P M (cl h) (pw Q P) g
def tuL (n : Nat) (z : Nat → Int32) : Nat → Nat → (Nat → Int32) → Int32
  | 0, _, _ => (-6)
  | f + 1, e, w => if smL w z (dgN n) 0 = 0 then tuL n z f (e + 1) (rmx (cyR n) (dgN n) w) else nI e
def tuR (n : Nat) (z : Nat → Int32) : Nat → (Nat → Int32) → Nat → Int32
  | 0, w => w
  | f + 1, w => if smL w z (dgN n) 0 = 0 then tuR n z f (rmx (cyR n) (dgN n) w) else w
def tuOk (Q P M : Nat) (a b h : Int32) : Prop := ¬ jIn a 0 (nI M - 1) = 0 ∧ ¬ jIn b 0 (nI M - 1) = 0 ∧ ¬ jIn h 1 99 = 0 ∧ ¬ bal Q P M = 0
def sTur (Q P M Wd : Nat) (a b h : Int32) : Int32 :=
  if jIn a 0 (nI M - 1) = 0 then (-1) else if jIn b 0 (nI M - 1) = 0 then (-1) else if jIn h 1 99 = 0 then (-2) else if bal Q P M = 0 then (-3) else
  tuL (tN Q P) (adR Q P M b (cl h) Wd) (tN Q P) 0 (adR Q P M a (cl h) Wd)
def fTur (Q P M Wd : Nat) (a b h : Int32) (g : Nat → Int32) : Nat → Int32 :=
  if jIn a 0 (nI M - 1) = 0 then g else if jIn b 0 (nI M - 1) = 0 then g else if jIn h 1 99 = 0 then g else if bal Q P M = 0 then g else
  tuR (tN Q P) (adR Q P M b (cl h) Wd) (tN Q P) (adR Q P M a (cl h) Wd)
def gTur (Q P M Wd : Nat) (a b h : Int32) (g : Nat → Int32) : Nat → Int32 :=
  if jIn a 0 (nI M - 1) = 0 then g else if jIn b 0 (nI M - 1) = 0 then g else if jIn h 1 99 = 0 then g else if bal Q P M = 0 then g else adR Q P M b (cl h) Wd
def sJoi (Q P M : Nat) (a what : Int32) : Int32 :=
  if jIn a 0 (nI M - 1) = 0 then (-1) else if jIn what 0 2 = 0 then (-2) else if bal Q P M = 0 then (-3) else if jnR Q P M a = 0 then (-5) else
  if what = 0 then nI (joS Q P M a).2 else if what = 1 then nI (joS Q P M a).1 else nI (fwN Q P M a)
def sPar (Q P M : Nat) (k : Int32) : Int32 :=
  if jIn k 0 (nI Q - 1) = 0 then (-1) else if bal Q P M = 0 then (-3) else if jnR Q P M (nI (ph Q P M (cl k))) = 0 then (-5) else ooS Q P M (cl k)
def sPath (Q P : Nat) (k a : Int32) : Int32 :=
  if jIn k 0 (nI Q - 1) = 0 then (-1) else if jIn a 1 10 = 0 then (-2) else if tT Q P % cl a = 0 then nI (cl k / tN Q P % cl a) else (-5)
def sTold (Q P M Wd : Nat) (what : Int32) : Int32 :=
  if what = 0 then nI Q else if what = 1 then nI P else if what = 2 then nI M else if what = 3 then nI Wd else if what = 4 then nI (tT Q P) else if what = 5 then nI (tN Q P) else if what = 6 then bal Q P M else (-2)
/-- the machine's four numbers behind a call of machine, and of restore -/
def mcT (q p m : Int32) (t : Nat × Nat × Nat × Nat) : Nat × Nat × Nat × Nat :=
  if jIn q 3 48 = 0 then t else if jIn p 1 10 = 0 then t else if m = 3 ∨ m = 5 then (cl q, cl p, cl m, pw (cl q) (cl p)) else t
def sMac (q p m : Int32) : Int32 :=
  if jIn q 3 48 = 0 then (-2) else if jIn p 1 10 = 0 then (-2) else if m = 3 ∨ m = 5 then nI (tN (cl q) (cl p)) else (-2)
def sWid (Q Wd : Nat) (w : Int32) : Int32 := if jIn w 1 (nI Q - 1) = 0 then (-2) else nI Wd
def wdT (Q Wd : Nat) (w : Int32) : Nat := if jIn w 1 (nI Q - 1) = 0 then Wd else cl w
def sIma (n : Int32) : Int32 := if jIn n 0 1 = 0 then (-2) else 1
def imT (n : Int32) (g : Nat → Int32) (Q P M Wd : Nat) : Nat → Int32 :=
  if jIn n 0 1 = 0 then g else upd (upd (upd (upd g (cl n * 4) (nI Q)) (cl n * 4 + 1) (nI P)) (cl n * 4 + 2) (nI M)) (cl n * 4 + 3) (nI Wd)
def rsT (n : Int32) (g : Nat → Int32) (t : Nat × Nat × Nat × Nat) : Nat × Nat × Nat × Nat :=
  if jIn n 0 1 = 0 then t else if g (cl n * 4) = 0 then t else (cl (g (cl n * 4)), cl (g (cl n * 4 + 1)), cl (g (cl n * 4 + 2)), cl (g (cl n * 4 + 3)))
def sRes (n : Int32) (g : Nat → Int32) : Int32 := if jIn n 0 1 = 0 then (-2) else if g (cl n * 4) = 0 then (-3) else 1
/-- an image that was kept holds a machine -/
def imOk (g : Nat → Int32) : Prop := ∀ n : Nat, n < 2 → ¬ g (n * 4) = 0 → MV (cl (g (n * 4))) (cl (g (n * 4 + 1))) (cl (g (n * 4 + 2))) (cl (g (n * 4 + 3))) ∧ g (n * 4) = nI (cl (g (n * 4))) ∧ g (n * 4 + 1) = nI (cl (g (n * 4 + 1))) ∧ g (n * 4 + 2) = nI (cl (g (n * 4 + 2))) ∧ g (n * 4 + 3) = nI (cl (g (n * 4 + 3)))
theorem pw_ok {q p : Nat} (hq : 3 ≤ q ∧ q ≤ 48) (hp : 1 ≤ p ∧ p ≤ 10) : 1 ≤ pw q p ∧ pw q p < q := by
  unfold pw
  have h1 : q / (2 * p) ≤ q / 2 := Nat.div_le_div_left (by omega) (by decide)
  split
  · omega
  · rename_i h0
    exact ⟨Nat.pos_of_ne_zero h0, Nat.lt_of_le_of_lt h1 (by omega)⟩
theorem dg_pos : ∀ n : Nat, 1 ≤ n → n ≤ 48 → 1 ≤ dgN n := fun n h1 h2 => by rw [dgN_tab h1 h2]; exact (dgA_all n (by omega) h1).1
theorem dg_lt : ∀ n : Nat, 2 ≤ n → n ≤ 48 → dgN n < n := fun n h1 h2 => by rw [dgN_tab (by omega) h2]; exact (dgA_all n (by omega) (by omega)).2.2 h1
theorem cyc_top : ∀ n : Nat, 1 ≤ n → n ≤ 48 → cyR n (dgN n) = 1 := fun n h1 h2 => by rw [dgN_tab h1 h2, cyR_tab h1 h2]; exact (dgA_all n (by omega) h1).2.1
theorem dg_le (n : Nat) : dgN n ≤ n := hpL_le _ _
theorem j_eachg {Q P M Wd : Nat} (h : MV Q P M Wd) : jCD (nI Q) (2 * nI P * nI M) = nI (Nat.gcd Q (2 * P * M)) := by
  have h1 : 3 ≤ Q ∧ Q ≤ 48 ∧ 1 ≤ P ∧ P ≤ 10 ∧ 1 ≤ M ∧ M ≤ 5 := by unfold MV at h; omega
  have h2 : 2 * P * M ≤ 20 * 5 := Nat.mul_le_mul (by omega) (by omega)
  have h3 : 0 < 2 * P * M := Nat.mul_pos (by omega) (by omega)
  rw [← nI_two, pk_mul, pk_mul]
  exact jCD_gcd (by omega) (by omega) h3 (by omega)
theorem j_each0 {Q P M Wd : Nat} (h : MV Q P M Wd) : jCut (nI Q) (nI (Nat.gcd Q (2 * P * M))) = nI (Q / Nat.gcd Q (2 * P * M)) := by
  have h1 : 3 ≤ Q ∧ Q ≤ 48 := by unfold MV at h; omega
  have h2 : 0 < Nat.gcd Q (2 * P * M) := Nat.gcd_pos_of_pos_left _ (by omega)
  have h3 : Nat.gcd Q (2 * P * M) ≤ Q := Nat.le_of_dvd (by omega) (Nat.gcd_dvd_left _ _)
  exact jCut_nI (by omega) h2 (by omega)
theorem j_each1 {Q P M Wd : Nat} (h : MV Q P M Wd) : jCut (2 * nI P * nI M) (nI (Nat.gcd Q (2 * P * M))) = nI (2 * P * M / Nat.gcd Q (2 * P * M)) := by
  have h1 : 3 ≤ Q ∧ Q ≤ 48 ∧ 1 ≤ P ∧ P ≤ 10 ∧ 1 ≤ M ∧ M ≤ 5 := by unfold MV at h; omega
  have h2 : 0 < Nat.gcd Q (2 * P * M) := Nat.gcd_pos_of_pos_left _ (by omega)
  have h3 : Nat.gcd Q (2 * P * M) ≤ Q := Nat.le_of_dvd (by omega) (Nat.gcd_dvd_left _ _)
  have h4 : 2 * P * M ≤ 20 * 5 := Nat.mul_le_mul (by omega) (by omega)
  rw [← nI_two, pk_mul, pk_mul]
  exact jCut_nI (by omega) h2 (by omega)
def jF (Q P M : Nat) (a what : Int32) (x y : Nat) : Nat := if jIn a 0 (nI M - 1) = 0 ∨ jIn what 0 2 = 0 ∨ bal Q P M = 0 then y else x
def jG (Q P M : Nat) (a what : Int32) (x y : Nat → Int32) : Nat → Int32 := if jIn a 0 (nI M - 1) = 0 ∨ jIn what 0 2 = 0 ∨ bal Q P M = 0 then y else x
def pA (Q P M : Nat) (k : Int32) : Int32 := nI (ph Q P M (cl k))
def pF (Q P M : Nat) (k : Int32) (x y : Nat) : Nat := if jIn k 0 (nI Q - 1) = 0 ∨ bal Q P M = 0 then y else x
def pG (Q P M : Nat) (k : Int32) (x y : Nat → Int32) : Nat → Int32 := if jIn k 0 (nI Q - 1) = 0 ∨ bal Q P M = 0 then y else x
theorem jIn_yes {k a b : Nat} (h : a ≤ k ∧ k ≤ b) (hb : b < 2 ^ 31) : ¬ jIn (nI k) (nI a) (nI b) = 0 := by
  unfold jIn
  rw [if_neg (nI_nlt h.1 (by omega)), if_neg (nI_nlt h.2 hb)]
  decide
theorem mcT_ok {q p : Nat} {m : Int32} {t : Nat × Nat × Nat × Nat} (hq : 3 ≤ q ∧ q ≤ 48) (hp : 1 ≤ p ∧ p ≤ 10) (hm : m = 3 ∨ m = 5) : mcT (nI q) (nI p) m t = (q, p, cl m, pw q p) := by
  have h1 : ¬ jIn (nI q) 3 48 = 0 := jIn_yes (a := 3) (b := 48) hq (by decide)
  have h2 : ¬ jIn (nI p) 1 10 = 0 := jIn_yes (a := 1) (b := 10) hp (by decide)
  unfold mcT
  rw [if_neg h1, if_neg h2, if_pos hm, cl_nI (by omega), cl_nI (by omega)]
theorem mcT_q {q p m : Int32} {t : Nat × Nat × Nat × Nat} (h : jIn q 3 48 = 0) : mcT q p m t = t := by unfold mcT; rw [if_pos h]
theorem mcT_p {q p m : Int32} {t : Nat × Nat × Nat × Nat} (h : jIn p 1 10 = 0) : mcT q p m t = t := by unfold mcT; rw [if_pos h]; split <;> rfl
theorem mcT_m {q p m : Int32} {t : Nat × Nat × Nat × Nat} (h : ¬ m = 3) (h' : ¬ m = 5) : mcT q p m t = t := by
  unfold mcT
  have hn : ¬ (m = 3 ∨ m = 5) := fun x => x.elim h h'
  rw [if_neg hn]
  split
  · rfl
  · split <;> rfl
theorem rsT_n {n : Int32} {g : Nat → Int32} {t : Nat × Nat × Nat × Nat} (h : jIn n 0 1 = 0) : rsT n g t = t := by unfold rsT; rw [if_pos h]
theorem rsT_0 {n : Nat} {g : Nat → Int32} {t : Nat × Nat × Nat × Nat} (hn : n ≤ 1) (h : g (n * 4) = 0) : rsT (nI n) g t = t := by
  have h1 : ¬ jIn (nI n) 0 1 = 0 := jIn_yes (a := 0) (b := 1) (by omega) (by decide)
  unfold rsT
  rw [if_neg h1, cl_nI (by omega), if_pos h]
theorem rsT_1 {n : Nat} {g : Nat → Int32} {t : Nat × Nat × Nat × Nat} (hn : n ≤ 1) (h : ¬ g (n * 4) = 0) : rsT (nI n) g t = (cl (g (n * 4)), cl (g (n * 4 + 1)), cl (g (n * 4 + 2)), cl (g (n * 4 + 3))) := by
  have h1 : ¬ jIn (nI n) 0 1 = 0 := jIn_yes (a := 0) (b := 1) (by omega) (by decide)
  unfold rsT
  rw [if_neg h1, cl_nI (by omega), if_neg h]
