/-! ===== the reference: plain facts ===== -/
theorem gcd_step (x y : Nat) : Nat.gcd x y = Nat.gcd y (x % y) := by
  rw [Nat.gcd_comm x y, Nat.gcd_rec y x, Nat.gcd_comm]
theorem nIm0 {a b : Nat} (ha : a < 2 ^ 31) (h0 : 0 < b) (hb : b < 2 ^ 31) : nI a - nI a / nI b * nI b = 0 ↔ a % b = 0 := by
  rw [pk_rem ha h0 hb]
  exact nI_eq0 (Nat.lt_of_le_of_lt (Nat.mod_le a b) ha)
theorem m_bal1 {Q P M Wd : Nat} (h : MV Q P M Wd) (c : nI (tN Q P) - nI (tN Q P) / nI M * nI M = 0) : (1 : Int32) = bal Q P M := by
  have h3 := tN_le h
  have hM : 0 < M ∧ M ≤ 5 := by unfold MV at h; omega
  unfold bal
  rw [if_pos ((nIm0 (by omega) hM.1 (by omega)).mp c)]
theorem m_bal0 {Q P M Wd : Nat} (h : MV Q P M Wd) (c : ¬ nI (tN Q P) - nI (tN Q P) / nI M * nI M = 0) : (0 : Int32) = bal Q P M := by
  have h3 := tN_le h
  have hM : 0 < M ∧ M ≤ 5 := by unfold MV at h; omega
  unfold bal
  rw [if_neg (fun q => c ((nIm0 (by omega) hM.1 (by omega)).mpr q))]
theorem m_pw {Q P : Nat} (hq : Q < 1000) (hp : 0 < P ∧ P < 1000) : (if 1 ≤ nI (Q / (2 * P)) then nI (Q / (2 * P)) else 1) = nI (pw Q P) := by
  have hd : Q / (2 * P) ≤ Q := Nat.div_le_self _ _
  unfold pw
  by_cases h0 : Q / (2 * P) = 0
  · rw [if_pos h0, h0]; rfl
  · rw [if_neg h0, if_pos (one_le_nI (Nat.pos_of_ne_zero h0) (by omega))]
theorem m_fwd1 {Q P M Wd k : Nat} (h : MV Q P M Wd) (c : nI (zn Q P M k) - nI (zn Q P M k) / 2 * 2 = 0) : (1 : Int32) = fwd Q P M k := by
  have h1 := zn_lt h k
  have hM : M ≤ 5 := by unfold MV at h; omega
  unfold fwd
  rw [if_pos ((nIm0 (b := 2) (by omega) (by decide) (by decide)).mp c)]
theorem m_fwd0 {Q P M Wd k : Nat} (h : MV Q P M Wd) (c : ¬ nI (zn Q P M k) - nI (zn Q P M k) / 2 * 2 = 0) : (0 : Int32) = fwd Q P M k := by
  have h1 := zn_lt h k
  have hM : M ≤ 5 := by unfold MV at h; omega
  unfold fwd
  rw [if_neg (fun q => c ((nIm0 (b := 2) (by omega) (by decide) (by decide)).mpr q))]
theorem m_ph0 {Q P M Wd k : Nat} (h : MV Q P M Wd) (c : nI (zn Q P M k) - nI (zn Q P M k) / 2 * 2 = 0) : nI (zn Q P M k) / 2 = nI (ph Q P M k) := by
  have h1 := zn_lt h k
  have hM : M ≤ 5 := by unfold MV at h; omega
  unfold ph
  rw [if_pos ((nIm0 (b := 2) (by omega) (by decide) (by decide)).mp c), ← nI_two, pk_div (by omega) (by decide) (by decide)]
theorem m_ph1 {Q P M Wd k : Nat} (h : MV Q P M Wd) (c : ¬ nI (zn Q P M k) - nI (zn Q P M k) / 2 * 2 = 0) : (nI (zn Q P M k) + nI M) / 2 - (nI (zn Q P M k) + nI M) / 2 / nI M * nI M = nI (ph Q P M k) := by
  have h1 := zn_lt h k
  have hM : 0 < M ∧ M ≤ 5 := by unfold MV at h; omega
  unfold ph
  rw [if_neg (fun q => c ((nIm0 (b := 2) (by omega) (by decide) (by decide)).mpr q)), ← nI_two, nI_add, pk_div (by omega) (by decide) (by decide), pk_rem (by omega) hM.1 (by omega)]
def mpL (Q P M : Nat) (a what : Int32) : Nat → Nat → Int32 → Int32
  | 0, _, n => n
  | f + 1, i, n => mpL Q P M a what f (i + 1) (n + (if nI (ph Q P M i) = a then (if what = 0 then 1 else if fwd Q P M i = (if what = 1 then 1 else 0) then 1 else 0) else 0))
theorem mpL_1 (Q P M : Nat) (a : Int32) : ∀ (f i : Nat) (n : Int32), mpL Q P M a 1 f i n = csL Q P M a 1 f i n
  | 0, _, _ => rfl
  | f + 1, i, n => by
    unfold mpL csL
    rw [mpL_1 Q P M a f (i + 1)]
    congr 1
    by_cases h : nI (ph Q P M i) = a
    · rw [if_pos h, if_pos h, if_neg (by decide), if_pos rfl]
      split <;> simp
    · rw [if_neg h, if_neg h]
      simp
theorem mpL_2 (Q P M : Nat) (a what : Int32) (h0 : ¬ what = 0) (h1 : ¬ what = 1) : ∀ (f i : Nat) (n : Int32), mpL Q P M a what f i n = csL Q P M a 0 f i n
  | 0, _, _ => rfl
  | f + 1, i, n => by
    unfold mpL csL
    rw [mpL_2 Q P M a what h0 h1 f (i + 1)]
    congr 1
    by_cases h : nI (ph Q P M i) = a
    · rw [if_pos h, if_pos h, if_neg h0, if_neg h1]
      split <;> simp
    · rw [if_neg h, if_neg h]
      simp
theorem csL_add (Q P M : Nat) (a b : Int32) : ∀ (f i : Nat) (n x : Int32), csL Q P M a b f i (n + x) = csL Q P M a b f i n + x
  | 0, _, _, _ => rfl
  | f + 1, i, n, x => by
    unfold csL
    rw [← csL_add Q P M a b f (i + 1)]
    congr 1
    split
    · split
      · rw [Int32.add_assoc, Int32.add_assoc, Int32.add_comm x 1]
      · rfl
    · rfl
theorem mpL_0 (Q P M : Nat) (a : Int32) : ∀ (f i : Nat) (n x : Int32), mpL Q P M a 0 f i (n + x) = csL Q P M a 1 f i n + csL Q P M a 0 f i x
  | 0, _, _, _ => rfl
  | f + 1, i, n, x => by
    unfold mpL csL
    by_cases h : nI (ph Q P M i) = a
    · rw [if_pos h, if_pos rfl]
      rcases fwd01 Q P M i with e | e
      · rw [e]
        simp only [if_pos h]
        rw [if_neg (by decide), if_pos trivial, Int32.add_assoc]
        exact mpL_0 Q P M a f (i + 1) n (x + 1)
      · rw [e]
        simp only [if_pos h]
        rw [if_pos trivial, if_neg (by decide), Int32.add_assoc, Int32.add_comm x 1, ← Int32.add_assoc]
        exact mpL_0 Q P M a f (i + 1) (n + 1) x
    · simp only [if_neg h, Int32.add_zero]
      exact mpL_0 Q P M a f (i + 1) n x
theorem m_phase0 (Q P M : Nat) (a : Int32) : mpL Q P M a 0 Q 0 0 = csL Q P M a 1 Q 0 0 + csL Q P M a 0 Q 0 0 := mpL_0 Q P M a Q 0 0 0
/-- what restore leaves in the reference, by its own flags -/
def mrT (n : Int32) (g kp : Nat → Int32) (t : Nat × Nat × Nat × Nat) : Nat × Nat × Nat × Nat :=
  if jIn n 0 1 = 0 then t else if kp (cl n) = 0 then t else (cl (g (cl n * 4)), cl (g (cl n * 4 + 1)), cl (g (cl n * 4 + 2)), cl (g (cl n * 4 + 3)))
def smRes (n : Int32) (kp : Nat → Int32) : Int32 := if jIn n 0 1 = 0 then (-2) else if kp (cl n) = 0 then (-3) else 1
def kpT (n : Int32) (kp : Nat → Int32) : Nat → Int32 := if jIn n 0 1 = 0 then kp else upd kp (cl n) (vp_nar .boolean 1)
def imN (g kp : Nat → Int32) : Prop := ∀ n : Nat, n < 2 → ¬ kp n = 0 → g (n * 4) = nI (cl (g (n * 4))) ∧ g (n * 4 + 1) = nI (cl (g (n * 4 + 1))) ∧ g (n * 4 + 2) = nI (cl (g (n * 4 + 2))) ∧ g (n * 4 + 3) = nI (cl (g (n * 4 + 3)))
theorem mrT_n {n : Int32} {g kp : Nat → Int32} {t : Nat × Nat × Nat × Nat} (h : jIn n 0 1 = 0) : mrT n g kp t = t := by unfold mrT; rw [if_pos h]
theorem mrT_0 {n : Nat} {g kp : Nat → Int32} {t : Nat × Nat × Nat × Nat} (hn : n ≤ 1) (h : kp n = 0) : mrT (nI n) g kp t = t := by
  have h1 : ¬ jIn (nI n) 0 1 = 0 := jIn_yes (a := 0) (b := 1) (by omega) (by decide)
  unfold mrT
  rw [if_neg h1, cl_nI (by omega), if_pos h]
theorem mrT_1 {n : Nat} {g kp : Nat → Int32} {t : Nat × Nat × Nat × Nat} (hn : n ≤ 1) (h : ¬ kp n = 0) : mrT (nI n) g kp t = (cl (g (n * 4)), cl (g (n * 4 + 1)), cl (g (n * 4 + 2)), cl (g (n * 4 + 3))) := by
  have h1 : ¬ jIn (nI n) 0 1 = 0 := jIn_yes (a := 0) (b := 1) (by omega) (by decide)
  unfold mrT
  rw [if_neg h1, cl_nI (by omega), if_neg h]
theorem nI_4 (n : Nat) : 4 * nI n = nI (n * 4) := by
  rw [show (4 : Int32) = nI 4 from rfl, pk_mul, Nat.mul_comm]
theorem nI_4k (n k : Nat) : nI (n * 4) + nI k = nI (n * 4 + k) := nI_add _ _
theorem m_way {Q a b : Nat} (ha : a < Q) (hb : b < Q) (hQ : Q ≤ 48) {d : Nat} (hd : d = if a < b then b - a else a - b) (c : nI Q - nI d ≤ nI d) : nI Q - nI d = nI (wB Q a b) := by
  have hdQ : d < Q := by rw [hd]; split <;> omega
  rw [pk_sub (by omega)] at c ⊢
  have h1 : Q - d ≤ d := (nI_leI (by omega) (by omega)).mp c
  unfold wB
  subst hd
  split
  · rename_i h; rw [if_pos h] at h1; rw [Nat.min_eq_right h1]
  · rename_i h; rw [if_neg h] at h1; rw [Nat.min_eq_right h1]
theorem m_way2 {Q a b : Nat} (ha : a < Q) (hb : b < Q) (hQ : Q ≤ 48) {d : Nat} (hd : d = if a < b then b - a else a - b) (c : ¬ nI Q - nI d ≤ nI d) : nI d = nI (wB Q a b) := by
  have hdQ : d < Q := by rw [hd]; split <;> omega
  rw [pk_sub (by omega)] at c
  have h1 : ¬ Q - d ≤ d := fun q => c (nI_le q (by omega))
  unfold wB
  subst hd
  split
  · rename_i h; rw [if_pos h] at h1; rw [Nat.min_eq_left (by omega)]
  · rename_i h; rw [if_neg h] at h1; rw [Nat.min_eq_left (by omega)]
theorem m_phase {Q P M : Nat} {a what : Int32} (h1 : ¬ jIn a 0 (nI M - 1) = 0) (h2 : ¬ jIn what 0 2 = 0) (h3 : ¬ bal Q P M = 0) : mpL Q P M a what Q 0 0 = sPhase Q P M a what := by
  unfold sPhase
  rw [if_neg h1, if_neg h2, if_neg h3]
  by_cases e0 : what = 0
  · subst e0
    rw [if_pos rfl]
    exact m_phase0 Q P M a
  · rw [if_neg e0]
    by_cases e1 : what = 1
    · subst e1
      rw [if_pos rfl]
      exact mpL_1 Q P M a Q 0 0
    · rw [if_neg e1]
      exact mpL_2 Q P M a what e0 e1 Q 0 0
