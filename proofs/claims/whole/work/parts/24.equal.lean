/-! ===== what is left over lies below the degree ===== -/
theorem rdO_at {g : Nat → Int32} {dg : Nat} (hg : g dg = 1) : ∀ (f i : Nat) (w : Nat → Int32), i + 1 = dg + f → ∀ x, (dg ≤ x ∧ x ≤ i → rdO g dg f i w x = 0) ∧ (i < x → rdO g dg f i w x = w x)
  | 0, i, w, h, x => ⟨fun q => absurd q (by omega), fun _ => rfl⟩
  | f + 1, i, w, h, x => by
    unfold rdO
    have hx := rdI_at g (i - dg) (w i) (dg + 1) 0 w x
    by_cases hf : f = 0
    · subst hf
      unfold rdO
      refine ⟨fun q => ?_, fun q => hx.2 (by omega)⟩
      have e : x = i := by omega
      subst e
      rw [hx.1 (by omega), show x - (x - dg) = dg by omega, hg]
      simp
    · have ih := rdO_at hg f (i - 1) (rdI g (i - dg) (w i) (dg + 1) 0 w) (by omega) x
      refine ⟨fun q => ?_, fun q => ?_⟩
      · by_cases e : x = i
        · subst e
          rw [ih.2 (by omega), hx.1 (by omega), show x - (x - dg) = dg by omega, hg]
          simp
        · exact ih.1 (by omega)
      · rw [ih.2 (by omega)]
        exact hx.2 (by omega)
theorem ap_at {n q : Nat} {x : Int32} {g : Nat → Int32} {j : Nat} (h : ¬ j = q % n) : ap n q x g j = g j := pk_un h
theorem adL_hi {Q P M Wd : Nat} (hv : MV Q P M Wd) (a : Int32) (h w : Nat) : ∀ (f k : Nat) (g : Nat → Int32) (x : Nat), tN Q P ≤ x → adL Q P M a h w f k g x = g x
  | 0, _, _, _, _ => rfl
  | f + 1, k, g, x, hx => by
    have hn := tN_pos hv
    have h1 : h * tn Q P k % tN Q P < tN Q P := Nat.mod_lt _ hn
    have h2 : h * tn Q P (en Q k w) % tN Q P < tN Q P := Nat.mod_lt _ hn
    unfold adL
    rw [adL_hi hv a h w f (k + 1) _ x hx]
    unfold adS
    split
    · rw [ap_at (by omega), ap_at (by omega)]
    · rfl
theorem adR_hi {Q P M Wd : Nat} (hv : MV Q P M Wd) (a : Int32) (h w : Nat) {x : Nat} (hx : dgN (tN Q P) ≤ x) : adR Q P M a h w x = 0 := by
  have hn := tN_pos hv
  have hn1 := tN_le hv
  have hd0 := dg_pos (tN Q P) hn hn1
  have hd1 := dg_le (tN Q P)
  have hh := rdO_at (cyc_top (tN Q P) hn hn1) (tN Q P - dgN (tN Q P)) (tN Q P - 1) (adL Q P M a h w (tN Q P) 0 (fun _ => 0)) (by omega) x
  unfold adR
  by_cases hl : x ≤ tN Q P - 1
  · exact hh.1 ⟨hx, hl⟩
  · rw [hh.2 (by omega), adL_hi hv a h w _ _ _ x (by omega)]
def nnL (w : Nat → Int32) : Nat → Nat → Int32 → Int32
  | 0, _, b => b
  | f + 1, i, b => nnL w f (i + 1) (if b = 0 then 0 else if w i = 0 then 1 else 0)
theorem nnL_0 (w : Nat → Int32) : ∀ f i : Nat, nnL w f i 0 = 0
  | 0, _ => rfl
  | f + 1, i => by
    unfold nnL
    rw [if_pos rfl]
    exact nnL_0 w f (i + 1)
theorem nnL_1 (w : Nat → Int32) : ∀ f i : Nat, nnL w f i 1 = zrL w f i
  | 0, _ => rfl
  | f + 1, i => by
    unfold nnL zrL
    rw [if_neg (by decide)]
    split
    · exact nnL_1 w f (i + 1)
    · exact nnL_0 w f (i + 1)
theorem zrL_all (w : Nat → Int32) : ∀ f i : Nat, (∀ x, i ≤ x → x < i + f → w x = 0) → zrL w f i = 1
  | 0, _, _ => rfl
  | f + 1, i, h => by
    unfold zrL
    rw [if_pos (h i (by omega) (by omega))]
    exact zrL_all w f (i + 1) (fun x h1 h2 => h x (by omega) (by omega))
theorem zrL_ext (w : Nat → Int32) (e : Nat) : ∀ f i : Nat, (∀ x, i + f ≤ x → x < i + f + e → w x = 0) → zrL w (f + e) i = zrL w f i
  | 0, i, h => by
    rw [Nat.zero_add]
    exact zrL_all w e i (fun x h1 h2 => h x (by omega) (by omega))
  | f + 1, i, h => by
    rw [show f + 1 + e = (f + e) + 1 by omega]
    unfold zrL
    rw [zrL_ext w e f (i + 1) (fun x h1 h2 => h x (by omega) (by omega))]
theorem m_none {Q P M Wd : Nat} (hv : MV Q P M Wd) (h w : Nat) : nnL (adR Q P M 0 h w) 49 0 1 = nth Q P M h w := by
  have hd1 := dg_le (tN Q P)
  have hn1 := tN_le hv
  unfold nth
  rw [nnL_1, show 49 = dgN (tN Q P) + (49 - dgN (tN Q P)) by omega]
  exact zrL_ext _ _ _ _ (fun x h1 h2 => adR_hi hv 0 h w (by omega))
def cmL (w z : Nat → Int32) : Nat → Nat → Int32 → Int32
  | 0, _, b => b
  | f + 1, i, b => cmL w z f (i + 1) (if b = 0 then 0 else if w i = z i then 1 else 0)
theorem cmL_0 (w z : Nat → Int32) : ∀ f i : Nat, cmL w z f i 0 = 0
  | 0, _ => rfl
  | f + 1, i => by
    unfold cmL
    rw [if_pos rfl]
    exact cmL_0 w z f (i + 1)
theorem cmL_1 (w z : Nat → Int32) : ∀ f i : Nat, cmL w z f i 1 = smL w z f i
  | 0, _ => rfl
  | f + 1, i => by
    unfold cmL smL
    rw [if_neg (by decide)]
    split
    · exact cmL_1 w z f (i + 1)
    · exact cmL_0 w z f (i + 1)
theorem smL_all (w z : Nat → Int32) : ∀ f i : Nat, (∀ x, i ≤ x → x < i + f → w x = z x) → smL w z f i = 1
  | 0, _, _ => rfl
  | f + 1, i, h => by
    unfold smL
    rw [if_pos (h i (by omega) (by omega))]
    exact smL_all w z f (i + 1) (fun x h1 h2 => h x (by omega) (by omega))
theorem smL_ext (w z : Nat → Int32) (e : Nat) : ∀ f i : Nat, (∀ x, i + f ≤ x → x < i + f + e → w x = z x) → smL w z (f + e) i = smL w z f i
  | 0, i, h => by
    rw [Nat.zero_add]
    exact smL_all w z e i (fun x h1 h2 => h x (by omega) (by omega))
  | f + 1, i, h => by
    rw [show f + 1 + e = (f + e) + 1 by omega]
    unfold smL
    rw [smL_ext w z e f (i + 1) (fun x h1 h2 => h x (by omega) (by omega))]
/-- nothing at or above a place -/
def hiZ (d : Nat) (w : Nat → Int32) : Prop := ∀ x, d ≤ x → x < 49 → w x = 0
theorem m_same {d : Nat} (hd : d ≤ 48) {w z : Nat → Int32} (hw : hiZ d w) (hz : hiZ d z) : cmL w z 49 0 1 = smL w z d 0 := by
  rw [cmL_1, show 49 = d + (49 - d) by omega]
  exact smL_ext _ _ _ _ _ (fun x h1 h2 => by rw [hw x (by omega) (by omega), hz x (by omega) (by omega)])
theorem mxL_at (g : Nat → Int32) (c : Int32) : ∀ (i : Nat) (w : Nat → Int32) (x : Nat), (1 ≤ x ∧ x ≤ i → mxL g c i w x = w (x - 1) - c * g x) ∧ (¬ (1 ≤ x ∧ x ≤ i) → mxL g c i w x = w x)
  | 0, w, x => ⟨fun h => absurd h (by omega), fun _ => rfl⟩
  | i + 1, w, x => by
    have hh := mxL_at g c i (upd w (i + 1) (w i - c * g (i + 1))) x
    unfold mxL
    refine ⟨fun hj => ?_, fun hj => ?_⟩
    · by_cases e : x = i + 1
      · subst e
        rw [hh.2 (by omega), pk_us]
        rfl
      · rw [hh.1 (by omega), pk_un (by omega)]
    · rw [hh.2 (by omega)]
      exact pk_un (by omega)
theorem rmx_at {g : Nat → Int32} {dg : Nat} (hd : 1 ≤ dg) (w : Nat → Int32) (x : Nat) : rmx g dg w x = if x = 0 then -(w (dg - 1)) * g 0 else if x < dg then w (x - 1) - w (dg - 1) * g x else w x := by
  have hh := mxL_at g (w (dg - 1)) (dg - 1) w x
  unfold rmx
  by_cases e : x = 0
  · subst e
    rw [pk_us, if_pos rfl]
  · rw [pk_un e, if_neg e]
    by_cases hx : x < dg
    · rw [if_pos hx]
      exact hh.1 (by omega)
    · rw [if_neg hx]
      exact hh.2 (by omega)
theorem rmx_hi {g : Nat → Int32} {dg : Nat} (hd : 1 ≤ dg) {w : Nat → Int32} (hw : hiZ dg w) : hiZ dg (rmx g dg w) := by
  intro x h1 h2
  rw [rmx_at hd, if_neg (by omega), if_neg (by omega)]
  exact hw x h1 h2
def swL : Nat → (Nat → Int32) → Nat → Int32
  | 0, w => w
  | i + 1, w => swL i (upd w (i + 1) (w i))
theorem swL_at : ∀ (i : Nat) (w : Nat → Int32) (x : Nat), (1 ≤ x ∧ x ≤ i → swL i w x = w (x - 1)) ∧ (¬ (1 ≤ x ∧ x ≤ i) → swL i w x = w x)
  | 0, w, x => ⟨fun h => absurd h (by omega), fun _ => rfl⟩
  | i + 1, w, x => by
    have hh := swL_at i (upd w (i + 1) (w i)) x
    unfold swL
    refine ⟨fun hj => ?_, fun hj => ?_⟩
    · by_cases e : x = i + 1
      · subst e
        rw [hh.2 (by omega), pk_us]
        rfl
      · rw [hh.1 (by omega), pk_un (by omega)]
    · rw [hh.2 (by omega)]
      exact pk_un (by omega)
/-- a turn of the row by one, as the reference makes it -/
def turn1 (n : Nat) (w : Nat → Int32) : Nat → Int32 := upd (upd (swL n w) 0 (swL n w n)) n 0
theorem rdO_skip {g : Nat → Int32} {dg : Nat} (w : Nat → Int32) : ∀ (f i : Nat), i + 1 = dg + (f + 1) → (∀ x, dg < x → x ≤ i → w x = 0) → rdO g dg (f + 1) i w = rdI g 0 (w dg) (dg + 1) 0 w
  | 0, i, h, _ => by
    have e : i = dg := by omega
    subst e
    simp only [rdO, Nat.sub_self]
  | f + 1, i, h, hz => by
    have h1 : rdO g dg (f + 1 + 1) i w = rdO g dg (f + 1) (i - 1) (rdI g (i - dg) (w i) (dg + 1) 0 w) := rfl
    rw [h1, hz i (by omega) (by omega), rdI_c0]
    exact rdO_skip w f (i - 1) (by omega) (fun x h2 h3 => hz x h2 (by omega))
theorem m_turn {n dg : Nat} {g w : Nat → Int32} (hg : g dg = 1) (hd : 1 ≤ dg) (hn : dg < n) (hn2 : n ≤ 48) (hw : hiZ dg w) : ∀ x, x < 49 → rdO g dg (n - dg) (n - 1) (turn1 n w) x = rmx g dg w x := by
  intro x hx
  have tv : ∀ y, y < 49 → turn1 n w y = if y = 0 then 0 else if y ≤ n then w (y - 1) else 0 := by
    intro y hy
    have hs := swL_at n w y
    have hsn := swL_at n w n
    unfold turn1
    by_cases e : y = n
    · subst e
      rw [pk_us, if_neg (by omega), if_pos (Nat.le_refl _), hw _ (by omega) (by omega)]
    · rw [pk_un e]
      by_cases e0 : y = 0
      · subst e0
        rw [pk_us, if_pos rfl, hsn.1 (by omega), hw _ (by omega) (by omega)]
      · rw [pk_un e0, if_neg e0]
        by_cases hyn : y ≤ n
        · rw [if_pos hyn]
          exact hs.1 (by omega)
        · rw [if_neg hyn, hs.2 (by omega)]
          exact hw y (by omega) hy
  have h1 := rdO_skip (g := g) (dg := dg) (turn1 n w) (n - dg - 1) (n - 1) (by omega) (fun y h2 h3 => by
    rw [tv y (by omega), if_neg (by omega), if_pos (by omega)]
    exact hw _ (by omega) (by omega))
  rw [show n - dg - 1 + 1 = n - dg by omega] at h1
  rw [h1, rmx_at hd]
  have hh := rdI_at g 0 (turn1 n w dg) (dg + 1) 0 (turn1 n w) x
  have htd : turn1 n w dg = w (dg - 1) := by
    rw [tv dg (by omega), if_neg (by omega), if_pos (by omega)]
  by_cases hxd : x ≤ dg
  · rw [hh.1 (by omega), htd, tv x hx, Nat.sub_zero]
    by_cases e0 : x = 0
    · subst e0
      rw [if_pos rfl, if_pos rfl]
      simp [Int32.neg_mul]
    · rw [if_neg e0, if_neg e0, if_pos (by omega)]
      by_cases e1 : x = dg
      · subst e1
        rw [if_neg (by omega), hg, hw x (by omega) hx]
        simp
      · rw [if_pos (by omega)]
  · have e0 : ¬ x = 0 := by omega
    rw [hh.2 (by omega), tv x hx, if_neg e0, if_neg e0, if_neg (show ¬ x < dg by omega), hw x (by omega) hx]
    split
    · exact hw _ (by omega) (by omega)
    · rfl
