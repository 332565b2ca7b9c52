/-! ===== plain numbers: what the leaves answer ===== -/
def jIn (n lo hi : Int32) : Int32 := if n < lo then 0 else if hi < n then 0 else 1
theorem jIn01 (n lo hi : Int32) : jIn n lo hi = 0 ∨ jIn n lo hi = 1 := by
  unfold jIn
  split
  · exact Or.inl rfl
  · split
    · exact Or.inl rfl
    · exact Or.inr rfl
def jLO (n b : Int32) : Int32 := if 1 ≤ b then (if 0 ≤ n - n / b * b then n - n / b * b else n - n / b * b + b) else 0
def jCut (n b : Int32) : Int32 := if 1 ≤ b then n / b else 0
theorem nI_one : nI 1 = 1 := rfl
theorem nI_two : nI 2 = 2 := rfl
theorem one_le_nI {b : Nat} (h0 : 0 < b) (hb : b < 2 ^ 31) : (1 : Int32) ≤ nI b := by
  rw [← nI_one]
  exact nI_le h0 hb
theorem jLO_nI {a b : Nat} (ha : a < 2 ^ 31) (h0 : 0 < b) (hb : b < 2 ^ 31) : jLO (nI a) (nI b) = nI (a % b) := by
  unfold jLO
  rw [if_pos (one_le_nI h0 hb), pk_rem ha h0 hb, if_pos (nI_pos' (Nat.lt_of_le_of_lt (Nat.mod_le a b) ha))]
theorem jCut_nI {a b : Nat} (ha : a < 2 ^ 31) (h0 : 0 < b) (hb : b < 2 ^ 31) : jCut (nI a) (nI b) = nI (a / b) := by
  unfold jCut
  rw [if_pos (one_le_nI h0 hb), pk_div ha h0 hb]
def cdL (a b : Int32) : Nat → Int32 → Int32
  | 0, _ => 1
  | k + 1, d => if d ≤ 1 then 1 else if jLO a d = 0 then (if jLO b d = 0 then d else cdL a b k (d + (-1))) else cdL a b k (d + (-1))
def jMin (a b : Int32) : Int32 := if b < a then b else a
def jCD (a b : Int32) : Int32 := cdL a b (jMin a b).toNatClampNeg (jMin a b)
theorem clamp0 {d : Int32} (h : d.toNatClampNeg = 0) : d ≤ 1 := by
  by_cases h0 : d < 0
  · exact Int32.le_trans (Int32.le_of_lt h0) (by decide)
  · obtain ⟨j, hj, rfl⟩ := nI_of h0
    rw [nI_clamp hj] at h
    subst h
    decide
theorem clamp_dec {d : Int32} {k : Nat} (h : d.toNatClampNeg = k + 1) : (d + (-1)).toNatClampNeg = k := by
  by_cases h0 : d < 0
  · exfalso
    have h1 : d.toInt < 0 := by simpa using Int32.lt_iff_toInt_lt.mp h0
    have h2 : d.toNatClampNeg = d.toInt.toNat := rfl
    omega
  · obtain ⟨j, hj, rfl⟩ := nI_of h0
    rw [nI_clamp hj] at h
    subst h
    rw [pk_m1, nI_clamp (by omega)]
theorem cdL_gcd {a b : Nat} (ha : 0 < a) (ha' : a < 2 ^ 31) (hb : 0 < b) (hb' : b < 2 ^ 31) : ∀ k : Nat, k < 2 ^ 31 → Nat.gcd a b ≤ k → cdL (nI a) (nI b) k (nI k) = nI (Nat.gcd a b)
  | 0, _, h => by
    have := Nat.gcd_pos_of_pos_left b ha
    omega
  | k + 1, hk, h => by
    have hg := Nat.gcd_pos_of_pos_left b ha
    unfold cdL
    by_cases h1 : k = 0
    · subst h1
      rw [if_pos (by decide)]
      have : Nat.gcd a b = 1 := by omega
      rw [this]; rfl
    · rw [if_neg (by rw [← nI_one]; exact fun q => absurd ((nI_leI hk (by decide)).mp q) (by omega)), jLO_nI ha' (by omega) hk, jLO_nI hb' (by omega) hk, pk_m1]
      have e0 : ∀ x : Nat, x < 2 ^ 31 → (nI x = 0 ↔ x = 0) := fun x hx => by rw [← nI_0]; exact nI_eq hx (by decide)
      have la : a % (k + 1) < 2 ^ 31 := Nat.lt_of_le_of_lt (Nat.mod_le _ _) ha'
      have lb : b % (k + 1) < 2 ^ 31 := Nat.lt_of_le_of_lt (Nat.mod_le _ _) hb'
      by_cases hda : a % (k + 1) = 0
      · rw [if_pos ((e0 _ la).mpr hda)]
        by_cases hdb : b % (k + 1) = 0
        · rw [if_pos ((e0 _ lb).mpr hdb)]
          have h2 : k + 1 ∣ Nat.gcd a b := Nat.dvd_gcd (Nat.dvd_of_mod_eq_zero hda) (Nat.dvd_of_mod_eq_zero hdb)
          have h3 := Nat.le_of_dvd hg h2
          have : Nat.gcd a b = k + 1 := by omega
          rw [this]
        · rw [if_neg (fun q => hdb ((e0 _ lb).mp q))]
          refine cdL_gcd ha ha' hb hb' k (by omega) ?_
          have h4 : Nat.gcd a b ≠ k + 1 := fun q => hdb (Nat.mod_eq_zero_of_dvd (q ▸ Nat.gcd_dvd_right a b))
          omega
      · rw [if_neg (fun q => hda ((e0 _ la).mp q))]
        refine cdL_gcd ha ha' hb hb' k (by omega) ?_
        have h4 : Nat.gcd a b ≠ k + 1 := fun q => hda (Nat.mod_eq_zero_of_dvd (q ▸ Nat.gcd_dvd_left a b))
        omega
theorem jCD_gcd {a b : Nat} (ha : 0 < a) (ha' : a < 2 ^ 31) (hb : 0 < b) (hb' : b < 2 ^ 31) : jCD (nI a) (nI b) = nI (Nat.gcd a b) := by
  unfold jCD jMin
  have ga : Nat.gcd a b ≤ a := Nat.le_of_dvd ha (Nat.gcd_dvd_left a b)
  have gb : Nat.gcd a b ≤ b := Nat.le_of_dvd hb (Nat.gcd_dvd_right a b)
  by_cases h : b < a
  · rw [if_pos (nI_lt h ha'), nI_clamp hb']
    exact cdL_gcd ha ha' hb hb' b hb' gb
  · rw [if_neg (nI_nlt (by omega) hb'), nI_clamp ha']
    exact cdL_gcd ha ha' hb hb' a ha' ga
/-! ===== the machine's own numbers ===== -/
def MV (Q P M W : Nat) : Prop := 3 ≤ Q ∧ Q ≤ 48 ∧ 1 ≤ P ∧ P ≤ 10 ∧ (M = 3 ∨ M = 5) ∧ 1 ≤ W ∧ W < Q
def tT (Q P : Nat) : Nat := Nat.gcd Q P
def tN (Q P : Nat) : Nat := Q / Nat.gcd Q P
def tn (Q P k : Nat) : Nat := k * P % Q / Nat.gcd Q P
def zn (Q P M k : Nat) : Nat := 2 * M * tn Q P k / tN Q P
def ph (Q P M k : Nat) : Nat := if zn Q P M k % 2 = 0 then zn Q P M k / 2 else (zn Q P M k + M) / 2 % M
def fwd (Q P M k : Nat) : Int32 := if zn Q P M k % 2 = 0 then 1 else 0
def bal (Q P M : Nat) : Int32 := if tN Q P % M = 0 then 1 else 0
def lck (Q P M : Nat) : Nat := M / Nat.gcd (tN Q P) M
theorem tT_pos {Q P M W : Nat} (h : MV Q P M W) : 0 < tT Q P := Nat.gcd_pos_of_pos_left P (by unfold MV at h; omega)
theorem tT_le {Q P M W : Nat} (h : MV Q P M W) : tT Q P ≤ 10 := by
  have h1 : tT Q P ≤ P := Nat.le_of_dvd (by unfold MV at h; omega) (Nat.gcd_dvd_right Q P)
  unfold MV at h
  omega
theorem tN_pos {Q P M W : Nat} (h : MV Q P M W) : 0 < tN Q P := Nat.div_pos (Nat.le_of_dvd (by unfold MV at h; omega) (Nat.gcd_dvd_left Q P)) (tT_pos h)
theorem tN_le {Q P M W : Nat} (h : MV Q P M W) : tN Q P ≤ 48 := Nat.le_trans (Nat.div_le_self Q _) (by unfold MV at h; omega)
theorem tN_leQ (Q P : Nat) : tN Q P ≤ Q := Nat.div_le_self Q _
theorem tn_lt {Q P M W : Nat} (h : MV Q P M W) (k : Nat) : tn Q P k < tN Q P := by
  have hg := tT_pos h
  have hd : Nat.gcd Q P ∣ Q := Nat.gcd_dvd_left Q P
  unfold tn tN
  refine Nat.div_lt_of_lt_mul ?_
  rw [Nat.mul_div_cancel' hd]
  exact Nat.mod_lt _ (by unfold MV at h; omega)
theorem zn_lt {Q P M W : Nat} (h : MV Q P M W) (k : Nat) : zn Q P M k < 2 * M := by
  have h1 := tn_lt h k
  have hM : 0 < 2 * M := by unfold MV at h; omega
  unfold zn
  refine Nat.div_lt_of_lt_mul ?_
  rw [Nat.mul_comm (tN Q P)]
  exact Nat.mul_lt_mul_of_pos_left h1 hM
theorem ph_lt {Q P M W : Nat} (h : MV Q P M W) (k : Nat) : ph Q P M k < M := by
  have h1 := zn_lt h k
  have hM : 0 < M := by unfold MV at h; omega
  unfold ph
  split
  · omega
  · exact Nat.mod_lt _ hM
theorem mul_small {k P : Nat} (hk : k < 1000) (hP : P ≤ 10) : k * P < 2 ^ 31 := by
  have : k * P ≤ 1000 * 10 := Nat.mul_le_mul (by omega) hP
  omega
theorem j_turn {Q P M W k : Nat} (h : MV Q P M W) (hk : k < 1000) : jCut (jLO (nI k * nI P) (nI Q)) (nI (tT Q P)) = nI (tn Q P k) := by
  have h1 := h
  unfold MV at h1
  have h2 := tT_pos h
  have h3 := tT_le h
  have h4 : k * P % Q < Q := Nat.mod_lt _ (by omega)
  rw [pk_mul, jLO_nI (mul_small hk (by omega)) (by omega) (by omega), jCut_nI (by omega) h2 (by omega)]
  rfl
theorem j_zone {Q P M W k : Nat} (h : MV Q P M W) : jCut (2 * nI M * nI (tn Q P k)) (nI (tN Q P)) = nI (zn Q P M k) := by
  have h1 := tn_lt h k
  have h2 := tN_pos h
  have h3 := tN_le h
  have hM : M ≤ 5 := by unfold MV at h; omega
  have h4 : 2 * M * tn Q P k ≤ 10 * 48 := Nat.mul_le_mul (by omega) (by omega)
  rw [← nI_two, pk_mul, pk_mul, jCut_nI (by omega) h2 (by omega)]
  rfl
theorem nI_eq0 {x : Nat} (hx : x < 2 ^ 31) : nI x = 0 ↔ x = 0 := by rw [← nI_0]; exact nI_eq hx (by decide)
theorem nI_eq1 {x : Nat} (hx : x < 2 ^ 31) : nI x = 1 ↔ x = 1 := by rw [← nI_one]; exact nI_eq hx (by decide)
theorem j_lo2 {Q P M W k : Nat} (h : MV Q P M W) : (jLO (nI (zn Q P M k)) 2 = 0 ↔ zn Q P M k % 2 = 0) := by
  have h1 := zn_lt h k
  have hM : M ≤ 5 := by unfold MV at h; omega
  rw [← nI_two, jLO_nI (by omega) (by decide) (by decide)]
  exact nI_eq0 (by omega)
theorem nI_lt32 {x : Nat} (h : x < 1000000) : x < 2 ^ 31 := by omega
theorem j_lck {Q P M W : Nat} (h : MV Q P M W) : jCut (nI M) (jCD (nI (tN Q P)) (nI M)) = nI (lck Q P M) := by
  have h2 := tN_pos h
  have h3 := tN_le h
  have hM : 0 < M ∧ M ≤ 5 := by unfold MV at h; omega
  have hg : 0 < Nat.gcd (tN Q P) M := Nat.gcd_pos_of_pos_left M h2
  have hg2 : Nat.gcd (tN Q P) M ≤ M := Nat.le_of_dvd hM.1 (Nat.gcd_dvd_right _ _)
  rw [jCD_gcd h2 (by omega) hM.1 (by omega), jCut_nI (by omega) hg (by omega)]
  rfl
theorem lck_one {Q P M W : Nat} (h : MV Q P M W) : nI (lck Q P M) = 1 ↔ tN Q P % M = 0 := by
  have hM : 0 < M ∧ M ≤ 5 := by unfold MV at h; omega
  have hl : lck Q P M ≤ M := Nat.div_le_self _ _
  rw [nI_eq1 (by omega)]
  have hd : Nat.gcd (tN Q P) M ∣ M := Nat.gcd_dvd_right _ _
  constructor
  · intro e
    have h1 : Nat.gcd (tN Q P) M * (M / Nat.gcd (tN Q P) M) = M := Nat.mul_div_cancel' hd
    unfold lck at e
    rw [e, Nat.mul_one] at h1
    exact Nat.mod_eq_zero_of_dvd (h1 ▸ Nat.gcd_dvd_left (tN Q P) M)
  · intro e
    have h1 : Nat.gcd (tN Q P) M = M := Nat.gcd_eq_right (Nat.dvd_of_mod_eq_zero e)
    unfold lck
    rw [h1]
    exact Nat.div_self hM.1
theorem j_bal {Q P M W : Nat} (h : MV Q P M W) (c : nI (lck Q P M) = 1) : (1 : Int32) = bal Q P M := by
  unfold bal
  rw [if_pos ((lck_one h).mp c)]
theorem j_nbal {Q P M W : Nat} (h : MV Q P M W) (c : ¬ nI (lck Q P M) = 1) : (0 : Int32) = bal Q P M := by
  unfold bal
  rw [if_neg (fun q => c ((lck_one h).mpr q))]
theorem bal01 (Q P M : Nat) : bal Q P M = 0 ∨ bal Q P M = 1 := by
  unfold bal
  split
  · exact Or.inr rfl
  · exact Or.inl rfl
theorem fwd01 (Q P M k : Nat) : fwd Q P M k = 0 ∨ fwd Q P M k = 1 := by
  unfold fwd
  split
  · exact Or.inr rfl
  · exact Or.inl rfl
theorem j_fwd1 {Q P M W k : Nat} (h : MV Q P M W) (c : jLO (nI (zn Q P M k)) 2 = 0) : (1 : Int32) = fwd Q P M k := by
  unfold fwd
  rw [if_pos ((j_lo2 h).mp c)]
theorem j_fwd0 {Q P M W k : Nat} (h : MV Q P M W) (c : ¬ jLO (nI (zn Q P M k)) 2 = 0) : (0 : Int32) = fwd Q P M k := by
  unfold fwd
  rw [if_neg (fun q => c ((j_lo2 h).mpr q))]
theorem j_ph0 {Q P M W k : Nat} (h : MV Q P M W) (c : jLO (nI (zn Q P M k)) 2 = 0) : jCut (nI (zn Q P M k)) 2 = nI (ph Q P M k) := by
  have h1 := zn_lt h k
  have hM : M ≤ 5 := by unfold MV at h; omega
  unfold ph
  rw [if_pos ((j_lo2 h).mp c), ← nI_two, jCut_nI (by omega) (by decide) (by decide)]
theorem j_ph1 {Q P M W k : Nat} (h : MV Q P M W) (c : ¬ jLO (nI (zn Q P M k)) 2 = 0) : jLO (jCut (nI (zn Q P M k) + nI M) 2) (nI M) = nI (ph Q P M k) := by
  have h1 := zn_lt h k
  have hM : 0 < M ∧ M ≤ 5 := by unfold MV at h; omega
  unfold ph
  rw [if_neg (fun q => c ((j_lo2 h).mpr q)), ← nI_two, nI_add, jCut_nI (by omega) (by decide) (by decide), jLO_nI (by omega) hM.1 (by omega)]
def en (Q k w : Nat) : Nat := (k + w) % Q
def be (Q W k : Nat) : Nat := (k + Q - W) % Q
theorem j_en {Q P M W k w : Nat} (h : MV Q P M W) (hk : k < 1000) (hw : w < 1000) : jLO (nI k + nI w) (nI Q) = nI (en Q k w) := by
  have h1 : 3 ≤ Q ∧ Q ≤ 48 := by unfold MV at h; omega
  rw [nI_add, jLO_nI (by omega) (by omega) (by omega)]
  rfl
theorem j_be {Q P M W k : Nat} (h : MV Q P M W) (hk : k < Q) : jLO (nI k - nI W) (nI Q) = nI (be Q W k) := by
  have h1 : 3 ≤ Q ∧ Q ≤ 48 ∧ 1 ≤ W ∧ W < Q := by unfold MV at h; omega
  unfold be
  by_cases hw : W ≤ k
  · rw [pk_sub hw, jLO_nI (by omega) (by omega) (by omega), show k + Q - W = (k - W) + Q by omega, Nat.add_mod_right]
  · have e : k + Q - W < Q := by omega
    rw [Nat.mod_eq_of_lt e]
    have key : ∀ q : Nat, q < 49 → ∀ w : Nat, w < q → ∀ a : Nat, a < w → jLO (nI a - nI w) (nI q) = nI (a + q - w) := by decide +kernel
    exact key Q (by omega) W (by omega) k (by omega)
def csL (Q P M : Nat) (a b : Int32) : Nat → Nat → Int32 → Int32
  | 0, _, n => n
  | f + 1, i, n => csL Q P M a b f (i + 1) (if nI (ph Q P M i) = a then (if fwd Q P M i = b then n + 1 else n) else n)
def wB (Q a b : Nat) : Nat := if a < b then min (b - a) (Q - (b - a)) else min (a - b) (Q - (a - b))
theorem nI_min {a b : Nat} (ha : a < 2 ^ 31) (hb : b < 2 ^ 31) : (if nI b < nI a then nI b else nI a) = nI (min a b) := by
  by_cases h : b < a
  · rw [if_pos (nI_lt h ha), Nat.min_eq_right (by omega)]
  · rw [if_neg (nI_nlt (by omega) hb), Nat.min_eq_left (by omega)]
theorem nI_abs {a b : Nat} (ha : a < 1000) (hb : b < 1000) : (if 0 ≤ nI a - nI b then nI a - nI b else 0 - (nI a - nI b)) = nI (if a < b then b - a else a - b) := by
  by_cases h : a < b
  · rw [if_neg (fun q => absurd (pk_sneg (by omega) h) (Int32.not_lt.mpr q)), if_pos h, ← pk_sub (by omega)]
    simp
  · rw [if_neg h, pk_sub (by omega), if_pos (nI_pos' (by omega))]
theorem j_way {Q a b : Nat} (hQ : Q ≤ 48) (ha : a < Q) (hb : b < Q) : (if nI Q - (if 0 ≤ nI a - nI b then nI a - nI b else 0 - (nI a - nI b)) < (if 0 ≤ nI a - nI b then nI a - nI b else 0 - (nI a - nI b)) then nI Q - (if 0 ≤ nI a - nI b then nI a - nI b else 0 - (nI a - nI b)) else (if 0 ≤ nI a - nI b then nI a - nI b else 0 - (nI a - nI b))) = nI (wB Q a b) := by
  have hz : (if a < b then b - a else a - b) < Q := by split <;> omega
  rw [nI_abs (by omega) (by omega), pk_sub (by omega), nI_min (by omega) (by omega)]
  unfold wB
  split <;> rfl
def pw (Q P : Nat) : Nat := if Q / (2 * P) = 0 then 1 else Q / (2 * P)
theorem j_pw {Q P : Nat} (hq : Q < 1000) (hp : 0 < P ∧ P < 1000) : (if 1 < jCut (nI Q) (2 * nI P) then jCut (nI Q) (2 * nI P) else 1) = nI (pw Q P) := by
  have hd : Q / (2 * P) ≤ Q := Nat.div_le_self _ _
  rw [← nI_two, pk_mul, jCut_nI (by omega) (by omega) (by omega)]
  unfold pw
  by_cases h : 1 < Q / (2 * P)
  · rw [if_pos (by rw [← nI_one]; exact nI_lt h (by omega)), if_neg (fun q => by rw [q] at h; exact absurd h (by decide))]
  · rw [if_neg (by rw [← nI_one]; exact nI_nlt (Nat.not_lt.mp h) (by decide))]
    by_cases h0 : Q / (2 * P) = 0
    · rw [if_pos h0]; rfl
    · rw [if_neg h0, show Q / (2 * P) = 1 from Nat.le_antisymm (Nat.not_lt.mp h) (Nat.pos_of_ne_zero h0)]; rfl
theorem jIn_ok {k z : Nat} (hk : k < z) (hz : z < 2 ^ 31) : ¬ jIn (nI k) 0 (nI z - 1) = 0 := by
  unfold jIn
  have e : nI z - 1 = nI (z - 1) := by
    rw [← nI_one]
    exact pk_sub (by omega)
  rw [if_neg (nI_pos (by omega)), e, if_neg (nI_nlt (by omega) (by omega))]
  decide
theorem j_tT {Q P M W : Nat} (h : MV Q P M W) : jCD (nI Q) (nI P) = nI (tT Q P) := by
  have h1 : 3 ≤ Q ∧ Q ≤ 48 ∧ 1 ≤ P ∧ P ≤ 10 := by unfold MV at h; omega
  exact jCD_gcd (by omega) (by omega) (by omega) (by omega)
theorem j_tN {Q P M W : Nat} (h : MV Q P M W) : jCut (nI Q) (nI (tT Q P)) = nI (tN Q P) := by
  have h1 : 3 ≤ Q ∧ Q ≤ 48 := by unfold MV at h; omega
  have h2 := tT_pos h
  have h3 := tT_le h
  rw [jCut_nI (by omega) h2 (by omega)]
  rfl
