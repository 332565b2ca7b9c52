/-! ===== more of rows ===== -/
theorem rowP0 {i : Nat} {w sm : Nat → Int32} (h : i < 49) : rowP 0 w sm i = w i := by
  unfold rowP
  rw [if_pos (by omega)]
  rfl
theorem rowP0_upd {i : Nat} {w sm : Nat → Int32} {x : Int32} (h : i < 49) : upd (rowP 0 w sm) i x = rowP 0 (upd w i x) sm := by
  have h1 := rowP_upd (r := 0) (w := w) (sm := sm) (x := x) h
  rw [show 49 * 0 + i = i by omega] at h1
  exact h1
theorem rowP01 {i : Nat} {w z sm : Nat → Int32} (h : i < 49) : rowP 0 w (rowP 1 z sm) (49 * 1 + i) = z i := by
  have e : rowP 0 w (rowP 1 z sm) (49 * 1 + i) = rowP 1 z sm (49 * 1 + i) := by
    show (if _ then _ else _) = _
    rw [if_neg (by omega)]
  rw [e]
  exact rowP_in h
theorem rowP_comm (w z sm : Nat → Int32) : rowP 1 z (rowP 0 w sm) = rowP 0 w (rowP 1 z sm) := by
  funext j
  unfold rowP
  by_cases h : 49 * 1 ≤ j ∧ j < 49 * 1 + 49
  · rw [if_pos h, if_neg (by omega)]
    show _ = (if _ then _ else _)
    rw [if_pos h]
  · rw [if_neg h]
    show (if _ then _ else _) = (if _ then _ else if _ then _ else _)
    rw [if_neg h]
theorem rowP_congr {w w' sm : Nat → Int32} (h : ∀ x, x < 49 → w x = w' x) (j : Nat) : rowP 0 w sm j = rowP 0 w' sm j := by
  unfold rowP
  by_cases hj : 49 * 0 ≤ j ∧ j < 49 * 0 + 49
  · rw [if_pos hj, if_pos hj]
    exact h _ (by omega)
  · rw [if_neg hj, if_neg hj]
theorem bal_ge {Q P M Wd : Nat} (hv : MV Q P M Wd) (h : ¬ bal Q P M = 0) : 3 ≤ tN Q P := by
  have h1 := tN_pos hv
  have hM : 3 ≤ M := by unfold MV at hv; omega
  unfold bal at h
  split at h
  · rename_i hm
    have := Nat.le_of_dvd h1 (Nat.dvd_of_mod_eq_zero hm)
    omega
  · exact absurd rfl h
/-! ===== the reference's shift ===== -/
def mjL (Q P M : Nat) (a : Int32) : Nat → Nat → Nat → Nat → Nat × Nat
  | 0, _, sh, le => (sh, le)
  | f + 1, sv, sh, le => if sv = 0 then mjL Q P M a f (sv + 1) sv (wyS Q P M a sv) else if nI le ≤ nI (wyS Q P M a sv) then mjL Q P M a f (sv + 1) sh le else mjL Q P M a f (sv + 1) sv (wyS Q P M a sv)
theorem mjL_jo (Q P M : Nat) (a : Int32) : ∀ (f sv sh le : Nat), 1 ≤ sv → mjL Q P M a f sv sh le = joL Q P M a f sv sh le
  | 0, _, _, _, _ => rfl
  | f + 1, sv, sh, le, h => by
    unfold mjL joL
    rw [if_neg (by omega), mjL_jo Q P M a f (sv + 1) sh le (by omega), mjL_jo Q P M a f (sv + 1) sv _ (by omega)]
theorem m_jo (Q P M : Nat) (a : Int32) : mjL Q P M a (fwN Q P M a) 0 0 0 = joS Q P M a := by
  unfold joS
  by_cases h : fwN Q P M a = 0
  · have e : wyS Q P M a 0 = 0 := by
      unfold wyS
      rw [h]
      rfl
    rw [e, h]
    rfl
  · obtain ⟨n, hn⟩ : ∃ n, fwN Q P M a = n + 1 := ⟨fwN Q P M a - 1, by omega⟩
    rw [hn]
    show (if (0 : Nat) = 0 then _ else _) = _
    rw [if_pos rfl]
    exact mjL_jo Q P M a n 1 0 _ (Nat.le_refl 1)
/-! ===== a slot is joined to one only ===== -/
def clInj (Q P M : Nat) (a : Int32) (x : Nat × Nat × (Nat → Int32) × (Nat → Int32)) : Prop :=
  (∀ i j, i < x.1 → j < x.1 → x.2.2.1 i = x.2.2.1 j → i = j) ∧ (∀ i j, i < x.2.1 → j < x.2.1 → x.2.2.2 i = x.2.2.2 j → i = j) ∧ (∀ k, k < Q → nI (ph Q P M k) = a → ¬ fwd Q P M k = 0 → ∃ i, i < x.1 ∧ x.2.2.1 i = nI k) ∧ (∀ k, k < Q → nI (ph Q P M k) = a → fwd Q P M k = 0 → ∃ i, i < x.2.1 ∧ x.2.2.2 i = nI k)
theorem inj_push {n k : Nat} {U : Nat → Int32} (hk : k < 1000) (hlt : ∀ i, i < n → ∃ c, c < k ∧ U i = nI c) (hi : ∀ i j, i < n → j < n → U i = U j → i = j) : ∀ i j, i < n + 1 → j < n + 1 → upd U n (nI k) i = upd U n (nI k) j → i = j := by
  intro i j h1 h2 h3
  by_cases e1 : i = n
  · by_cases e2 : j = n
    · omega
    · subst e1
      rw [pk_us, pk_un e2] at h3
      obtain ⟨c, hc, ec⟩ := hlt j (by omega)
      rw [ec] at h3
      have := (nI_eq (by omega) (by omega)).mp h3
      omega
  · by_cases e2 : j = n
    · subst e2
      rw [pk_us, pk_un e1] at h3
      obtain ⟨c, hc, ec⟩ := hlt i (by omega)
      rw [ec] at h3
      have := (nI_eq (by omega) (by omega)).mp h3
      omega
    · rw [pk_un e1, pk_un e2] at h3
      exact hi i j (by omega) (by omega) h3
theorem lt_push {n k : Nat} {U : Nat → Int32} (hlt : ∀ i, i < n → ∃ c, c < k ∧ U i = nI c) : ∀ i, i < n + 1 → ∃ c, c < k + 1 ∧ upd U n (nI k) i = nI c := by
  intro i hi
  by_cases e : i = n
  · subst e
    exact ⟨k, by omega, pk_us⟩
  · obtain ⟨c, hc, ec⟩ := hlt i (by omega)
    exact ⟨c, by omega, by rw [pk_un e]; exact ec⟩
theorem lt_keep {n k : Nat} {U : Nat → Int32} (hlt : ∀ i, i < n → ∃ c, c < k ∧ U i = nI c) : ∀ i, i < n → ∃ c, c < k + 1 ∧ U i = nI c := fun i hi => by
  obtain ⟨c, hc, ec⟩ := hlt i hi
  exact ⟨c, by omega, ec⟩
theorem clL_inj {Q P M : Nat} (hQ : Q ≤ 48) (a : Int32) : ∀ (f k fw bk : Nat) (U V : Nat → Int32), k + f = Q → (∀ i, i < fw → ∃ c, c < k ∧ U i = nI c) → (∀ i, i < bk → ∃ c, c < k ∧ V i = nI c) → (∀ i j, i < fw → j < fw → U i = U j → i = j) → (∀ i j, i < bk → j < bk → V i = V j → i = j) → (∀ c, c < k → nI (ph Q P M c) = a → ¬ fwd Q P M c = 0 → ∃ i, i < fw ∧ U i = nI c) → (∀ c, c < k → nI (ph Q P M c) = a → fwd Q P M c = 0 → ∃ i, i < bk ∧ V i = nI c) → clInj Q P M a (clL Q P M a f k fw bk U V)
  | 0, k, fw, bk, U, V, h1, hU, hV, iU, iV, cU, cV => ⟨iU, iV, fun c hc => cU c (by omega), fun c hc => cV c (by omega)⟩
  | f + 1, k, fw, bk, U, V, h1, hU, hV, iU, iV, cU, cV => by
    unfold clL
    split
    · rename_i ha
      split
      · rename_i hf
        refine clL_inj hQ a f (k + 1) fw (bk + 1) _ _ (by omega) (lt_keep hU) (lt_push hV) iU (inj_push (by omega) hV iV) (fun c hc h2 h3 => ?_) (fun c hc h2 h3 => ?_)
        · by_cases e : c = k
          · subst e
            exact absurd hf h3
          · exact cU c (by omega) h2 h3
        · by_cases e : c = k
          · subst e
            exact ⟨bk, by omega, pk_us⟩
          · obtain ⟨i, hi, ei⟩ := cV c (by omega) h2 h3
            exact ⟨i, by omega, by rw [pk_un (by omega)]; exact ei⟩
      · rename_i hf
        refine clL_inj hQ a f (k + 1) (fw + 1) bk _ _ (by omega) (lt_push hU) (lt_keep hV) (inj_push (by omega) hU iU) iV (fun c hc h2 h3 => ?_) (fun c hc h2 h3 => ?_)
        · by_cases e : c = k
          · subst e
            exact ⟨fw, by omega, pk_us⟩
          · obtain ⟨i, hi, ei⟩ := cU c (by omega) h2 h3
            exact ⟨i, by omega, by rw [pk_un (by omega)]; exact ei⟩
        · by_cases e : c = k
          · subst e
            exact absurd h3 hf
          · exact cV c (by omega) h2 h3
    · rename_i ha
      refine clL_inj hQ a f (k + 1) fw bk _ _ (by omega) (lt_keep hU) (lt_keep hV) iU iV (fun c hc h2 h3 => ?_) (fun c hc h2 h3 => ?_)
      · by_cases e : c = k
        · subst e
          exact absurd h2 ha
        · exact cU c (by omega) h2 h3
      · by_cases e : c = k
        · subst e
          exact absurd h2 ha
        · exact cV c (by omega) h2 h3
theorem cA_inj {Q P M : Nat} (hQ : Q ≤ 48) (a : Int32) : clInj Q P M a (cA Q P M a) := clL_inj hQ a Q 0 0 0 _ _ (by omega) (fun i h => absurd h (by omega)) (fun i h => absurd h (by omega)) (fun i j h => absurd h (by omega)) (fun i j h => absurd h (by omega)) (fun c h => absurd h (by omega)) (fun c h => absurd h (by omega))
def pfL (U V : Nat → Int32) (n sh : Nat) (k : Int32) : Nat → Nat → Int32 → Int32
  | 0, _, fd => fd
  | f + 1, i, fd => pfL U V n sh k f (i + 1) (if U i = k then V ((i + sh) % n) else if V ((i + sh) % n) = k then U i else fd)
theorem pfL_congr {U V U' V' : Nat → Int32} {n sh : Nat} {k : Int32} (hU : ∀ i, i < n → U i = U' i) (hV : ∀ i, i < n → V i = V' i) : ∀ (f i : Nat) (fd : Int32), i + f ≤ n → pfL U V n sh k f i fd = pfL U' V' n sh k f i fd
  | 0, _, _, _ => rfl
  | f + 1, i, fd, h => by
    unfold pfL
    rw [hU i (by omega), hV _ (Nat.mod_lt _ (by omega)), pfL_congr hU hV f (i + 1) _ (by omega)]
/-- one place matches: the last match is the first -/
theorem oo_fwd {U V : Nat → Int32} {n sh : Nat} {k b : Int32} (hb : ¬ b = 0) {i0 : Nat} (h0 : U i0 = k) (hu : ∀ i, i < n → U i = k → i = i0) : ∀ (f i : Nat), i + f = n → i ≤ i0 → i0 < n → ooL U V n sh k b f i = V ((i0 + sh) % n)
  | 0, i, h1, h2, h3 => absurd h2 (by omega)
  | f + 1, i, h1, h2, h3 => by
    unfold ooL
    rw [if_neg hb]
    by_cases e : i = i0
    · subst e
      rw [if_pos h0.symm]
    · rw [if_neg (fun q => e (hu i (by omega) q.symm))]
      exact oo_fwd hb h0 hu f (i + 1) (by omega) (by omega) h3
theorem pf_fwd {U V : Nat → Int32} {n sh : Nat} {k : Int32} (hv : ∀ j, j < n → ¬ V j = k) {i0 : Nat} (h0 : U i0 = k) (hu : ∀ i, i < n → U i = k → i = i0) : ∀ (f i : Nat) (fd : Int32), i + f = n → i0 < n → (i ≤ i0 → pfL U V n sh k f i fd = V ((i0 + sh) % n)) ∧ (i0 < i → pfL U V n sh k f i fd = fd)
  | 0, i, fd, h1, h3 => ⟨fun q => absurd q (by omega), fun _ => rfl⟩
  | f + 1, i, fd, h1, h3 => by
    have ih := fun fd' => pf_fwd (sh := sh) hv h0 hu f (i + 1) fd' (by omega) h3
    unfold pfL
    refine ⟨fun q => ?_, fun q => ?_⟩
    · by_cases e : i = i0
      · subst e
        rw [if_pos h0]
        exact (ih _).2 (by omega)
      · exact (ih _).1 (by omega)
    · rw [if_neg (fun z => absurd (hu i (by omega) z) (by omega)), if_neg (hv _ (Nat.mod_lt _ (by omega)))]
      exact (ih _).2 (by omega)
theorem oo_back {U V : Nat → Int32} {n sh : Nat} {k : Int32} {i0 : Nat} (h0 : V ((i0 + sh) % n) = k) (hu : ∀ i, i < n → V ((i + sh) % n) = k → i = i0) : ∀ (f i : Nat), i + f = n → i ≤ i0 → i0 < n → ooL U V n sh k 0 f i = U i0
  | 0, i, h1, h2, h3 => absurd h2 (by omega)
  | f + 1, i, h1, h2, h3 => by
    unfold ooL
    rw [if_pos rfl]
    by_cases e : i = i0
    · subst e
      rw [if_pos h0.symm]
    · rw [if_neg (fun q => e (hu i (by omega) q.symm))]
      exact oo_back h0 hu f (i + 1) (by omega) (by omega) h3
theorem pf_back {U V : Nat → Int32} {n sh : Nat} {k : Int32} (hv : ∀ j, j < n → ¬ U j = k) {i0 : Nat} (h0 : V ((i0 + sh) % n) = k) (hu : ∀ i, i < n → V ((i + sh) % n) = k → i = i0) : ∀ (f i : Nat) (fd : Int32), i + f = n → i0 < n → (i ≤ i0 → pfL U V n sh k f i fd = U i0) ∧ (i0 < i → pfL U V n sh k f i fd = fd)
  | 0, i, fd, h1, h3 => ⟨fun q => absurd q (by omega), fun _ => rfl⟩
  | f + 1, i, fd, h1, h3 => by
    have ih := fun fd' => pf_back (sh := sh) hv h0 hu f (i + 1) fd' (by omega) h3
    unfold pfL
    rw [if_neg (hv i (by omega))]
    refine ⟨fun q => ?_, fun q => ?_⟩
    · by_cases e : i = i0
      · subst e
        rw [if_pos h0]
        exact (ih _).2 (by omega)
      · exact (ih _).1 (by omega)
    · rw [if_neg (fun z => absurd (hu i (by omega) z) (by omega))]
      exact (ih _).2 (by omega)
theorem mod_add {n sh i : Nat} (hi : i < n) : (i + sh) % n = if i + sh % n < n then i + sh % n else i + sh % n - n := by
  have hr : sh % n < n := Nat.mod_lt _ (by omega)
  rw [Nat.add_mod, Nat.mod_eq_of_lt hi]
  split
  · rename_i h
    exact Nat.mod_eq_of_lt h
  · rename_i h
    rw [Nat.mod_eq_sub_mod (by omega)]
    exact Nat.mod_eq_of_lt (by omega)
theorem mod_inj {n sh i j : Nat} (hi : i < n) (hj : j < n) (h : (i + sh) % n = (j + sh) % n) : i = j := by
  have hr : sh % n < n := Nat.mod_lt _ (by omega)
  rw [mod_add hi, mod_add hj] at h
  split at h <;> split at h <;> omega
theorem mod_sur {n : Nat} (sh : Nat) {j : Nat} (hj : j < n) : ∃ i, i < n ∧ (i + sh) % n = j := by
  have hr : sh % n < n := Nat.mod_lt _ (by omega)
  by_cases h : sh % n ≤ j
  · refine ⟨j - sh % n, by omega, ?_⟩
    rw [mod_add (by omega), if_pos (by omega)]
    omega
  · refine ⟨j + n - sh % n, by omega, ?_⟩
    rw [mod_add (by omega), if_neg (by omega)]
    omega
theorem m_par {Q P M Wd k : Nat} (hv : MV Q P M Wd) (hk : k < Q) (hj : fwN Q P M (nI (ph Q P M k)) = bkN Q P M (nI (ph Q P M k))) (sh : Nat) : pfL (uA Q P M (nI (ph Q P M k))) (vA Q P M (nI (ph Q P M k))) (fwN Q P M (nI (ph Q P M k))) sh (nI k) (fwN Q P M (nI (ph Q P M k))) 0 (-6) = ooL (uA Q P M (nI (ph Q P M k))) (vA Q P M (nI (ph Q P M k))) (fwN Q P M (nI (ph Q P M k))) sh (nI k) (fwd Q P M k) (fwN Q P M (nI (ph Q P M k))) 0 := by
  have hQ : Q ≤ 48 := by unfold MV at hv; omega
  obtain ⟨iU, iV, cU, cV⟩ := cA_inj (P := P) (M := M) hQ (nI (ph Q P M k))
  obtain ⟨-, oU, oV⟩ := clS_ok Q P M (nI (ph Q P M k)) (fun _ => 0) (fun _ => 0)
  have oU' : ∀ i, i < fwN Q P M (nI (ph Q P M k)) → ∃ c, c < Q ∧ uA Q P M (nI (ph Q P M k)) i = nI c ∧ nI (ph Q P M c) = nI (ph Q P M k) ∧ ¬ fwd Q P M c = 0 := oU
  have oV' : ∀ i, i < bkN Q P M (nI (ph Q P M k)) → ∃ c, c < Q ∧ vA Q P M (nI (ph Q P M k)) i = nI c ∧ nI (ph Q P M c) = nI (ph Q P M k) ∧ fwd Q P M c = 0 := oV
  rcases fwd01 Q P M k with e | e
  · have hnU : ∀ i, i < fwN Q P M (nI (ph Q P M k)) → ¬ uA Q P M (nI (ph Q P M k)) i = nI k := by
      intro i hi q
      obtain ⟨c, hc, e1, -, e3⟩ := oU' i hi
      rw [e1] at q
      have := (nI_eq (by omega) (by omega)).mp q
      subst this
      exact e3 e
    obtain ⟨j, hj1, hj2⟩ := cV k hk rfl e
    have hj1' : j < fwN Q P M (nI (ph Q P M k)) := by rw [hj]; exact hj1
    obtain ⟨i0, hi0, hi1⟩ := mod_sur sh hj1'
    have h0 : vA Q P M (nI (ph Q P M k)) ((i0 + sh) % fwN Q P M (nI (ph Q P M k))) = nI k := by rw [hi1]; exact hj2
    have hu : ∀ i, i < fwN Q P M (nI (ph Q P M k)) → vA Q P M (nI (ph Q P M k)) ((i + sh) % fwN Q P M (nI (ph Q P M k))) = nI k → i = i0 := by
      intro i hi q
      have hm : (i + sh) % fwN Q P M (nI (ph Q P M k)) < fwN Q P M (nI (ph Q P M k)) := Nat.mod_lt _ (by omega)
      have h5 := iV ((i + sh) % fwN Q P M (nI (ph Q P M k))) j (by show _ < bkN Q P M _; omega) hj1 (q.trans hj2.symm)
      exact mod_inj hi hi0 (h5.trans hi1.symm)
    rw [e, (pf_back hnU h0 hu _ 0 _ (by omega) hi0).1 (by omega), oo_back h0 hu _ 0 (by omega) (by omega) hi0]
  · have hne : ¬ fwd Q P M k = 0 := by rw [e]; decide
    have hnV : ∀ j, j < fwN Q P M (nI (ph Q P M k)) → ¬ vA Q P M (nI (ph Q P M k)) j = nI k := by
      intro i hi q
      obtain ⟨c, hc, e1, -, e3⟩ := oV' i (by omega)
      rw [e1] at q
      have := (nI_eq (by omega) (by omega)).mp q
      subst this
      exact hne e3
    obtain ⟨i0, hi0, hi1⟩ : ∃ i, i < fwN Q P M (nI (ph Q P M k)) ∧ uA Q P M (nI (ph Q P M k)) i = nI k := cU k hk rfl hne
    have hu : ∀ i, i < fwN Q P M (nI (ph Q P M k)) → uA Q P M (nI (ph Q P M k)) i = nI k → i = i0 := fun i hi q => iU i i0 hi hi0 (q.trans hi1.symm)
    rw [(pf_fwd hnV hi1 hu _ 0 _ (by omega) hi0).1 (by omega), oo_fwd hne hi1 hu _ 0 (by omega) (by omega) hi0]
theorem m_par2 {Q P M Wd k : Nat} (hv : MV Q P M Wd) (hk : k < Q) (hj : fwN Q P M (nI (ph Q P M k)) = bkN Q P M (nI (ph Q P M k))) (U V : Nat → Int32) : pfL (clS Q P M (nI (ph Q P M k)) U V).2.2.1 (clS Q P M (nI (ph Q P M k)) U V).2.2.2 (fwN Q P M (nI (ph Q P M k))) (joS Q P M (nI (ph Q P M k))).1 (nI k) (fwN Q P M (nI (ph Q P M k))) 0 (-6) = ooS Q P M k := by
  rw [pfL_congr (fun i hi => clS_u Q P M _ U V hi) (fun i hi => clS_v Q P M _ U V (by omega)) _ 0 _ (by omega)]
  exact m_par hv hk hj _
