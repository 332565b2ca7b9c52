/-! ===== one layer: what the joint's methods leave ===== -/
def cl (x : Int32) : Nat := x.toNatClampNeg
theorem cl_nI {k : Nat} (h : k < 2 ^ 31) : cl (nI k) = k := nI_clamp h
def clL (Q P M : Nat) (a : Int32) : Nat → Nat → Nat → Nat → (Nat → Int32) → (Nat → Int32) → Nat × Nat × (Nat → Int32) × (Nat → Int32)
  | 0, _, fw, bk, U, V => (fw, bk, U, V)
  | f + 1, k, fw, bk, U, V => if nI (ph Q P M k) = a then (if fwd Q P M k = 0 then clL Q P M a f (k + 1) fw (bk + 1) U (upd V bk (nI k)) else clL Q P M a f (k + 1) (fw + 1) bk (upd U fw (nI k)) V) else clL Q P M a f (k + 1) fw bk U V
def clS (Q P M : Nat) (a : Int32) (U V : Nat → Int32) : Nat × Nat × (Nat → Int32) × (Nat → Int32) := clL Q P M a Q 0 0 0 U V
/-- the canonical collection -/
def cA (Q P M : Nat) (a : Int32) : Nat × Nat × (Nat → Int32) × (Nat → Int32) := clS Q P M a (fun _ => 0) (fun _ => 0)
def fwN (Q P M : Nat) (a : Int32) : Nat := (cA Q P M a).1
def bkN (Q P M : Nat) (a : Int32) : Nat := (cA Q P M a).2.1
def uA (Q P M : Nat) (a : Int32) : Nat → Int32 := (cA Q P M a).2.2.1
def vA (Q P M : Nat) (a : Int32) : Nat → Int32 := (cA Q P M a).2.2.2
def clAgree (x y : Nat × Nat × (Nat → Int32) × (Nat → Int32)) : Prop := x.1 = y.1 ∧ x.2.1 = y.2.1 ∧ (∀ i, i < x.1 → x.2.2.1 i = y.2.2.1 i) ∧ (∀ i, i < x.2.1 → x.2.2.2 i = y.2.2.2 i)
theorem upd_agree {n k : Nat} {U U' : Nat → Int32} (h : ∀ i, i < n → U i = U' i) : ∀ i, i < n + 1 → upd U n (nI k) i = upd U' n (nI k) i := by
  intro i hi
  by_cases e : i = n
  · subst e
    rw [pk_us, pk_us]
  · rw [pk_un e, pk_un e]
    exact h i (by omega)
theorem clL_agree (Q P M : Nat) (a : Int32) : ∀ (f k fw bk : Nat) (U V U' V' : Nat → Int32), (∀ i, i < fw → U i = U' i) → (∀ i, i < bk → V i = V' i) → clAgree (clL Q P M a f k fw bk U V) (clL Q P M a f k fw bk U' V')
  | 0, _, _, _, _, _, _, _, hU, hV => ⟨rfl, rfl, hU, hV⟩
  | f + 1, k, fw, bk, U, V, U', V', hU, hV => by
    unfold clL
    split
    · split
      · exact clL_agree Q P M a f (k + 1) fw (bk + 1) _ _ _ _ hU (upd_agree hV)
      · exact clL_agree Q P M a f (k + 1) (fw + 1) bk _ _ _ _ (upd_agree hU) hV
    · exact clL_agree Q P M a f (k + 1) fw bk _ _ _ _ hU hV
theorem clS_agree (Q P M : Nat) (a : Int32) (U V : Nat → Int32) : clAgree (clS Q P M a U V) (cA Q P M a) := clL_agree Q P M a Q 0 0 0 U V _ _ (fun i h => absurd h (by omega)) (fun i h => absurd h (by omega))
theorem clS_fw (Q P M : Nat) (a : Int32) (U V : Nat → Int32) : fwN Q P M a = (clS Q P M a U V).1 := (clS_agree Q P M a U V).1.symm
theorem clS_bk (Q P M : Nat) (a : Int32) (U V : Nat → Int32) : bkN Q P M a = (clS Q P M a U V).2.1 := (clS_agree Q P M a U V).2.1.symm
theorem clS_u (Q P M : Nat) (a : Int32) (U V : Nat → Int32) {i : Nat} (h : i < fwN Q P M a) : (clS Q P M a U V).2.2.1 i = uA Q P M a i := (clS_agree Q P M a U V).2.2.1 i (by rw [← clS_fw]; exact h)
theorem clS_v (Q P M : Nat) (a : Int32) (U V : Nat → Int32) {i : Nat} (h : i < bkN Q P M a) : (clS Q P M a U V).2.2.2 i = vA Q P M a i := (clS_agree Q P M a U V).2.2.2 i (by rw [← clS_bk]; exact h)
/-- every slot that is kept is a slot: of this phase, and forward or back -/
def clOk (Q P M : Nat) (a : Int32) (x : Nat × Nat × (Nat → Int32) × (Nat → Int32)) : Prop := x.1 + x.2.1 ≤ Q ∧ (∀ i, i < x.1 → ∃ k, k < Q ∧ x.2.2.1 i = nI k ∧ nI (ph Q P M k) = a ∧ ¬ fwd Q P M k = 0) ∧ (∀ i, i < x.2.1 → ∃ k, k < Q ∧ x.2.2.2 i = nI k ∧ nI (ph Q P M k) = a ∧ fwd Q P M k = 0)
theorem clL_ok (Q P M : Nat) (a : Int32) : ∀ (f k fw bk : Nat) (U V : Nat → Int32), k + f = Q → fw + bk ≤ k → (∀ i, i < fw → ∃ k, k < Q ∧ U i = nI k ∧ nI (ph Q P M k) = a ∧ ¬ fwd Q P M k = 0) → (∀ i, i < bk → ∃ k, k < Q ∧ V i = nI k ∧ nI (ph Q P M k) = a ∧ fwd Q P M k = 0) → clOk Q P M a (clL Q P M a f k fw bk U V)
  | 0, k, fw, bk, U, V, h1, h2, hU, hV => ⟨by show fw + bk ≤ Q; omega, hU, hV⟩
  | f + 1, k, fw, bk, U, V, h1, h2, hU, hV => by
    unfold clL
    split
    · rename_i ha
      split
      · rename_i hf
        refine clL_ok Q P M a f (k + 1) fw (bk + 1) _ _ (by omega) (by omega) hU ?_
        intro i hi
        by_cases e : i = bk
        · subst e
          exact ⟨k, by omega, pk_us, ha, hf⟩
        · rw [pk_un e]
          exact hV i (by omega)
      · rename_i hf
        refine clL_ok Q P M a f (k + 1) (fw + 1) bk _ _ (by omega) (by omega) ?_ hV
        intro i hi
        by_cases e : i = fw
        · subst e
          exact ⟨k, by omega, pk_us, ha, hf⟩
        · rw [pk_un e]
          exact hU i (by omega)
    · exact clL_ok Q P M a f (k + 1) fw bk _ _ (by omega) (by omega) hU hV
theorem clS_ok (Q P M : Nat) (a : Int32) (U V : Nat → Int32) : clOk Q P M a (clS Q P M a U V) := clL_ok Q P M a Q 0 0 0 U V (by omega) (by omega) (fun i h => absurd h (by omega)) (fun i h => absurd h (by omega))
theorem fb_le (Q P M : Nat) (a : Int32) : fwN Q P M a + bkN Q P M a ≤ Q := (clS_ok Q P M a (fun _ => 0) (fun _ => 0)).1
/-- a row whose first n places hold slots -/
def slR (Q n : Nat) (U : Nat → Int32) : Prop := ∀ i, i < n → U i = nI (cl (U i)) ∧ cl (U i) < Q
theorem slR_u {Q P M : Nat} (hQ : Q ≤ 48) (a : Int32) (U V : Nat → Int32) : slR Q (fwN Q P M a) (clS Q P M a U V).2.2.1 := by
  intro i hi
  obtain ⟨k, hk, e, -⟩ := (clS_ok Q P M a U V).2.1 i (by rw [← clS_fw]; exact hi)
  rw [e, cl_nI (by omega)]
  exact ⟨rfl, hk⟩
theorem slR_v {Q P M : Nat} (hQ : Q ≤ 48) (a : Int32) (U V : Nat → Int32) : slR Q (bkN Q P M a) (clS Q P M a U V).2.2.2 := by
  intro i hi
  obtain ⟨k, hk, e, -⟩ := (clS_ok Q P M a U V).2.2 i (by rw [← clS_bk]; exact hi)
  rw [e, cl_nI (by omega)]
  exact ⟨rfl, hk⟩
def wyL (Q : Nat) (U V : Nat → Int32) (n sv : Nat) : Nat → Nat → Nat → Nat
  | 0, _, t => t
  | f + 1, i, t => wyL Q U V n sv f (i + 1) (t + wB Q (cl (U i)) (cl (V ((i + sv) % n))))
theorem wyL_congr (Q : Nat) {U V U' V' : Nat → Int32} {n sv : Nat} (hU : ∀ i, i < n → U i = U' i) (hV : ∀ i, i < n → V i = V' i) : ∀ (f i t : Nat), i + f ≤ n → wyL Q U V n sv f i t = wyL Q U' V' n sv f i t
  | 0, _, _, _ => rfl
  | f + 1, i, t, h => by
    unfold wyL
    rw [hU i (by omega), hV _ (Nat.mod_lt _ (by omega))]
    exact wyL_congr Q hU hV f (i + 1) _ (by omega)
/-- the ways together for a shift -/
def wyS (Q P M : Nat) (a : Int32) (sv : Nat) : Nat := wyL Q (uA Q P M a) (vA Q P M a) (fwN Q P M a) sv (fwN Q P M a) 0 0
theorem wyS_of {Q P M : Nat} {a : Int32} (U V : Nat → Int32) (sv : Nat) (h : fwN Q P M a = bkN Q P M a) : wyL Q (clS Q P M a U V).2.2.1 (clS Q P M a U V).2.2.2 (fwN Q P M a) sv (fwN Q P M a) 0 0 = wyS Q P M a sv :=
  wyL_congr Q (fun i hi => clS_u Q P M a U V hi) (fun i hi => clS_v Q P M a U V (by omega)) _ 0 0 (by omega)
def joL (Q P M : Nat) (a : Int32) : Nat → Nat → Nat → Nat → Nat × Nat
  | 0, _, sh, wy => (sh, wy)
  | f + 1, sv, sh, wy => if nI wy ≤ nI (wyS Q P M a sv) then joL Q P M a f (sv + 1) sh wy else joL Q P M a f (sv + 1) sv (wyS Q P M a sv)
def joS (Q P M : Nat) (a : Int32) : Nat × Nat := joL Q P M a (fwN Q P M a - 1) 1 0 (wyS Q P M a 0)
def jnR (Q P M : Nat) (a : Int32) : Int32 := if fwN Q P M a = bkN Q P M a then 1 else 0
theorem jnR01 (Q P M : Nat) (a : Int32) : jnR Q P M a = 0 ∨ jnR Q P M a = 1 := by
  unfold jnR
  split
  · exact Or.inr rfl
  · exact Or.inl rfl
theorem jnR_ne {Q P M : Nat} {a : Int32} (h : ¬ jnR Q P M a = 0) : fwN Q P M a = bkN Q P M a := by
  unfold jnR at h
  split at h
  · assumption
  · exact absurd rfl h
theorem jnR_eq {Q P M : Nat} {a : Int32} (h : jnR Q P M a = 0) : ¬ fwN Q P M a = bkN Q P M a := by
  unfold jnR at h
  split at h
  · exact absurd h (by decide)
  · assumption
theorem joL_lt (Q P M : Nat) (a : Int32) : ∀ (f sv sh wy : Nat), sv + f ≤ 1000 → sh < 1000 → (joL Q P M a f sv sh wy).1 < 1000
  | 0, _, sh, _, _, h => h
  | f + 1, sv, sh, wy, h1, h2 => by
    unfold joL
    split
    · exact joL_lt Q P M a f (sv + 1) sh wy (by omega) h2
    · exact joL_lt Q P M a f (sv + 1) sv _ (by omega) (by omega)
theorem joS_lt {Q P M Wd : Nat} (h : MV Q P M Wd) (a : Int32) : (joS Q P M a).1 < 1000 := by
  have h1 := fb_le Q P M a
  have h2 : Q ≤ 48 := by unfold MV at h; omega
  exact joL_lt Q P M a _ 1 0 _ (by omega) (by omega)
def ooL (U V : Nat → Int32) (n sh : Nat) (k b : Int32) : Nat → Nat → Int32
  | 0, _ => (-5)
  | f + 1, i => if b = 0 then (if k = V ((i + sh) % n) then U i else ooL U V n sh k b f (i + 1)) else (if k = U i then V ((i + sh) % n) else ooL U V n sh k b f (i + 1))
theorem ooL_congr {U V U' V' : Nat → Int32} {n sh : Nat} {k b : Int32} (hU : ∀ i, i < n → U i = U' i) (hV : ∀ i, i < n → V i = V' i) : ∀ (f i : Nat), i + f ≤ n → ooL U V n sh k b f i = ooL U' V' n sh k b f i
  | 0, _, _ => rfl
  | f + 1, i, h => by
    unfold ooL
    rw [hU i (by omega), hV _ (Nat.mod_lt _ (by omega)), ooL_congr hU hV f (i + 1) (by omega)]
def ooS (Q P M k : Nat) : Int32 := ooL (uA Q P M (nI (ph Q P M k))) (vA Q P M (nI (ph Q P M k))) (fwN Q P M (nI (ph Q P M k))) (joS Q P M (nI (ph Q P M k))).1 (nI k) (fwd Q P M k) (fwN Q P M (nI (ph Q P M k))) 0
theorem ooS_of {Q P M k : Nat} (U V : Nat → Int32) (h : fwN Q P M (nI (ph Q P M k)) = bkN Q P M (nI (ph Q P M k))) : ooL (clS Q P M (nI (ph Q P M k)) U V).2.2.1 (clS Q P M (nI (ph Q P M k)) U V).2.2.2 (fwN Q P M (nI (ph Q P M k))) (joS Q P M (nI (ph Q P M k))).1 (nI k) (fwd Q P M k) (fwN Q P M (nI (ph Q P M k))) 0 = ooS Q P M k :=
  ooL_congr (fun i hi => clS_u Q P M _ U V hi) (fun i hi => clS_v Q P M _ U V (by omega)) _ 0 (by omega)
