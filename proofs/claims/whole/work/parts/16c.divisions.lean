/-! ===== the reference's divisions, by reckoning ===== -/
theorem rdI_at (g : Nat → Int32) (b : Nat) (c : Int32) : ∀ (f j : Nat) (w : Nat → Int32) (x : Nat), (b + j ≤ x ∧ x < b + j + f → rdI g b c f j w x = w x - c * g (x - b)) ∧ (¬ (b + j ≤ x ∧ x < b + j + f) → rdI g b c f j w x = w x)
  | 0, j, w, x => ⟨fun h => absurd h (by omega), fun _ => rfl⟩
  | f + 1, j, w, x => by
    have hh := rdI_at g b c f (j + 1) (upd w (b + j) (w (b + j) - c * g j)) x
    unfold rdI
    refine ⟨fun hj => ?_, fun hj => ?_⟩
    · by_cases e : x = b + j
      · subst e
        rw [hh.2 (by omega), pk_us, show b + j - b = j by omega]
      · rw [hh.1 (by omega), pk_un e]
    · rw [hh.2 (by omega)]
      exact pk_un (by omega)
theorem rdI_c0 (g : Nat → Int32) (b f : Nat) (w : Nat → Int32) : rdI g b 0 f 0 w = w := by
  funext x
  have hh := rdI_at g b 0 f 0 w x
  by_cases hx : b + 0 ≤ x ∧ x < b + 0 + f
  · rw [hh.1 hx]
    simp
  · exact hh.2 hx
def dvO (g : Nat → Int32) (bb : Nat) : Nat → Nat → (Nat → Int32) → Nat → Int32
  | 0, _, w => w
  | f + 1, i, w => dvO g bb f (i - 1) (rdI g (i - bb) (w i) bb 0 w)
def shL (hb bb : Nat) : Nat → Nat → (Nat → Int32) → Nat → Int32
  | 0, _, w => w
  | f + 1, i, w => shL hb bb f (i + 1) (upd w i (if i ≤ hb then w (i + bb) else 0))
def dvW (g : Nat → Int32) (bb h : Nat) (w : Nat → Int32) : Nat → Int32 := shL (h - bb) bb 49 0 (dvO g bb (h + 1 - bb) h w)
def xn (n : Nat) : Nat → Int32 := fun i => if i = n then 1 else if i = 0 then (-1) else 0
def ldR (n : Nat) : Nat → Nat → Nat → (Nat → Int32) → Nat × (Nat → Int32)
  | 0, _, h, w => (h, w)
  | f + 1, d, h, w => if n % d = 0 then ldR n f (d + 1) (h - dgN d) (dvW (cyR d) (dgN d) h w) else ldR n f (d + 1) h w
def ldF (n : Nat) : Nat → Int32 := (ldR n (n - 1) 1 n (xn n)).2
/-- the division of x to the n less 1 by all that it asks for goes through, and leaves the class's own row -/
def ldOk (n : Nat) : Nat → Nat → Nat → (Nat → Int32) → Prop
  | 0, _, h, w => h = dgN n ∧ ∀ i, i < 49 → (if i ≤ h then w i else 0) = cyR n i
  | f + 1, d, h, w => if n % d = 0 then (dgN d ≤ h ∧ ldOk n f (d + 1) (h - dgN d) (dvW (cyR d) (dgN d) h w)) else ldOk n f (d + 1) h w
theorem rL_hi {l : List Int32} {x : Nat} (h : l.length ≤ x) : rL l x = 0 := by
  unfold rL
  rw [List.getD_eq_getElem?_getD, List.getElem?_eq_none h]
  rfl
theorem rL_nil (x : Nat) : rL [] x = 0 := rfl
theorem rL_0 (h : Int32) (t : List Int32) : rL (h :: t) 0 = h := rfl
theorem rL_s (h : Int32) (t : List Int32) (x : Nat) : rL (h :: t) (x + 1) = rL t x := rfl
def subA (c : Int32) : Nat → List Int32 → List Int32 → List Int32
  | _, _, [] => []
  | b + 1, gs, h :: t => h :: subA c b gs t
  | 0, [], h :: t => h :: t
  | 0, g :: gs, h :: t => (h - c * g) :: subA c 0 gs t
theorem subA_len (c : Int32) : ∀ (l gs : List Int32) (b : Nat), (subA c b gs l).length = l.length
  | [], _, _ => by simp [subA]
  | h :: t, gs, b + 1 => by simp [subA, subA_len c t gs b]
  | h :: t, [], 0 => by simp [subA]
  | h :: t, g :: gs, 0 => by simp [subA, subA_len c t gs 0]
theorem subA_at (c : Int32) : ∀ (l gs : List Int32) (b x : Nat), x < l.length → rL (subA c b gs l) x = if b ≤ x ∧ x < b + gs.length then rL l x - c * rL gs (x - b) else rL l x
  | [], _, _, x, hx => absurd hx (by simp)
  | h :: t, gs, b + 1, 0, _ => by
    rw [if_neg (by omega)]
    simp only [subA]
    rfl
  | h :: t, gs, b + 1, x + 1, hx => by
    simp only [subA]
    rw [rL_s, rL_s, subA_at c t gs b x (by simpa using hx)]
    by_cases q : b ≤ x ∧ x < b + gs.length
    · rw [if_pos q, if_pos (by omega), show x + 1 - (b + 1) = x - b by omega]
    · rw [if_neg q, if_neg (by omega)]
  | h :: t, [], 0, x, _ => by
    rw [if_neg (by simp)]
    simp only [subA]
  | h :: t, g :: gs, 0, 0, _ => by
    rw [if_pos (by simp)]
    simp only [subA]
    rfl
  | h :: t, g :: gs, 0, x + 1, hx => by
    simp only [subA]
    rw [rL_s, rL_s, subA_at c t gs 0 x (by simpa using hx), Nat.sub_zero, Nat.sub_zero]
    by_cases q : 0 ≤ x ∧ x < 0 + gs.length
    · rw [if_pos q, if_pos (by simp; omega), rL_s]
    · rw [if_neg q, if_neg (by simp; omega)]
theorem subA_eq {g : Nat → Int32} {c : Int32} {b : Nat} {gs l : List Int32} (h : b + gs.length ≤ l.length) (hg : ∀ k, k < gs.length → g k = rL gs k) : rdI g b c gs.length 0 (rL l) = rL (subA c b gs l) := by
  funext x
  have hh := rdI_at g b c gs.length 0 (rL l) x
  by_cases hx : x < l.length
  · rw [subA_at c l gs b x hx]
    by_cases q : b ≤ x ∧ x < b + gs.length
    · rw [if_pos q, hh.1 (by omega), hg _ (by omega)]
    · rw [if_neg q, hh.2 (by omega)]
  · rw [hh.2 (by omega), rL_hi (by omega), rL_hi (by rw [subA_len]; omega)]
def dvA (gs : List Int32) (bb : Nat) : Nat → Nat → List Int32 → List Int32
  | 0, _, l => l
  | f + 1, i, l => if l.getD i 0 = 0 then dvA gs bb f (i - 1) l else frL (subA (l.getD i 0) (i - bb) gs l) (fun l => dvA gs bb f (i - 1) l)
theorem dvA_eq {g : Nat → Int32} {gs : List Int32} {bb : Nat} (hb : gs.length = bb) (h1 : 1 ≤ bb) (hg : ∀ k, k < bb → g k = rL gs k) : ∀ (f i : Nat) (l : List Int32), l.length = 49 → i + 1 = bb + f → i ≤ 48 → dvO g bb f i (rL l) = rL (dvA gs bb f i l) ∧ (dvA gs bb f i l).length = 49
  | 0, _, l, h, _, _ => ⟨rfl, h⟩
  | f + 1, i, l, h, hi, hi2 => by
    unfold dvO dvA
    have hr : rL l i = l.getD i 0 := rfl
    by_cases hz : l.getD i 0 = 0
    · rw [if_pos hz, hr, hz, rdI_c0]
      by_cases hf : f = 0
      · subst hf
        exact ⟨rfl, h⟩
      · exact dvA_eq hb h1 hg f (i - 1) l h (by omega) (by omega)
    · subst hb
      rw [if_neg hz, frL_eq, subA_eq (g := g) (by omega) hg, ← hr]
      by_cases hf : f = 0
      · subst hf
        exact ⟨rfl, by show (subA _ _ _ _).length = 49; rw [subA_len]; exact h⟩
      · exact dvA_eq rfl h1 hg f (i - 1) _ (by rw [subA_len]; exact h) (by omega) (by omega)
theorem shL_at {hb bb : Nat} (h1 : 1 ≤ bb) : ∀ (f i : Nat) (w : Nat → Int32) (x : Nat), (i ≤ x ∧ x < i + f → shL hb bb f i w x = if x ≤ hb then w (x + bb) else 0) ∧ (¬ (i ≤ x ∧ x < i + f) → shL hb bb f i w x = w x)
  | 0, i, w, x => ⟨fun h => absurd h (by omega), fun _ => rfl⟩
  | f + 1, i, w, x => by
    have hh := shL_at (hb := hb) h1 f (i + 1) (upd w i (if i ≤ hb then w (i + bb) else 0)) x
    unfold shL
    refine ⟨fun hj => ?_, fun hj => ?_⟩
    · by_cases e : x = i
      · subst e
        rw [hh.2 (by omega), pk_us]
      · rw [hh.1 (by omega), pk_un (by omega)]
    · rw [hh.2 (by omega)]
      exact pk_un (by omega)
def tab49 (f : Nat → Int32) : List Int32 := (List.range 49).map f
theorem tab49_len (f : Nat → Int32) : (tab49 f).length = 49 := by simp [tab49]
theorem tab49_at (f : Nat → Int32) {x : Nat} (h : x < 49) : rL (tab49 f) x = f x := by
  unfold rL tab49
  rw [List.getD_eq_getElem?_getD, List.getElem?_map, List.getElem?_range h]
  rfl
def dvWA (gs : List Int32) (bb h : Nat) (l : List Int32) : List Int32 := frL (dvA gs bb (h + 1 - bb) h l) (fun l => tab49 (fun x => if x ≤ h - bb then l.getD (x + bb) 0 else 0))
theorem dvWA_eq {g : Nat → Int32} {gs : List Int32} {bb h : Nat} {l : List Int32} (hb : gs.length = bb) (h1 : 1 ≤ bb) (hg : ∀ k, k < bb → g k = rL gs k) (hl : l.length = 49) (hh : bb ≤ h ∧ h ≤ 48) : dvW g bb h (rL l) = rL (dvWA gs bb h l) ∧ (dvWA gs bb h l).length = 49 := by
  have e := dvA_eq hb h1 hg (h + 1 - bb) h l hl (by omega) (by omega)
  unfold dvW dvWA
  rw [frL_eq, e.1]
  refine ⟨?_, tab49_len _⟩
  funext x
  have hs := shL_at (hb := h - bb) h1 49 0 (rL (dvA gs bb (h + 1 - bb) h l)) x
  by_cases hx : x < 49
  · rw [hs.1 (by omega), tab49_at _ hx]
    rfl
  · rw [hs.2 (by omega), rL_hi (by rw [e.2]; omega), rL_hi (by rw [tab49_len]; omega)]
def ldChk (n : Nat) : Nat → Nat → Nat → List Int32 → Bool
  | 0, _, h, l => decide (h = dgA n) && (List.range 49).all (fun i => decide ((if i ≤ h then l.getD i 0 else 0) = (PH n).getD i 0))
  | f + 1, d, h, l => if n % d = 0 then (decide (dgA d ≤ h) && frL (dvWA ((PH d).take (dgA d)) (dgA d) h l) (fun l => ldChk n f (d + 1) (h - dgA d) l)) else ldChk n f (d + 1) h l
set_option maxRecDepth 100000 in
theorem LD_tab : ∀ n : Nat, n < 49 → 1 ≤ n → ldChk n (n - 1) 1 n (tab49 (xn n)) = true := by decide +kernel
set_option maxRecDepth 100000 in
theorem PH_len : ∀ n : Nat, n < 49 → 1 ≤ n → (PH n).length = 49 := by decide +kernel
theorem take_at {l : List Int32} {n k : Nat} (h : k < n) : rL (l.take n) k = rL l k := by
  unfold rL
  rw [List.getD_eq_getElem?_getD, List.getD_eq_getElem?_getD, List.getElem?_take_of_lt h]
theorem ldChk_ok {n : Nat} (h1 : 1 ≤ n) (h2 : n ≤ 48) : ∀ (f d h : Nat) (l : List Int32), l.length = 49 → h ≤ 48 → 1 ≤ d → d + f ≤ 48 → ldChk n f d h l = true → ldOk n f d h (rL l)
  | 0, d, h, l, hl, hh, hd, hf, hc => by
    unfold ldChk at hc
    rw [Bool.and_eq_true, decide_eq_true_eq, List.all_eq_true] at hc
    refine ⟨by rw [dgN_tab h1 h2]; exact hc.1, fun i hi => ?_⟩
    have h3 := hc.2 i (List.mem_range.mpr hi)
    rw [decide_eq_true_eq] at h3
    rw [cyR_tab h1 h2]
    exact h3
  | f + 1, d, h, l, hl, hh, hd, hf, hc => by
    unfold ldChk at hc
    unfold ldOk
    by_cases h0 : n % d = 0
    · rw [if_pos h0] at hc ⊢
      rw [Bool.and_eq_true, decide_eq_true_eq, frL_eq] at hc
      have hda := dgA_all d (by omega) hd
      have hdl : dgA d ≤ d := hpL_le _ _
      have e := dvWA_eq (g := cyR d) (gs := (PH d).take (dgA d)) (bb := dgA d) (h := h) (l := l) (by rw [List.length_take, PH_len d (by omega) hd]; omega) hda.1 (fun k hk => by rw [cyR_tab hd (by omega), take_at hk]) hl ⟨hc.1, hh⟩
      rw [dgN_tab hd (by omega), e.1]
      exact ⟨hc.1, ldChk_ok h1 h2 f (d + 1) _ _ e.2 (by omega) (by omega) (by omega) hc.2⟩
    · rw [if_neg h0] at hc ⊢
      exact ldChk_ok h1 h2 f (d + 1) h l hl hh (by omega) (by omega) hc
theorem LD : ∀ n : Nat, 1 ≤ n → n ≤ 48 → ldOk n (n - 1) 1 n (xn n) := by
  intro n h1 h2
  have e : xn n = rL (tab49 (xn n)) := by
    funext x
    by_cases hx : x < 49
    · rw [tab49_at _ hx]
    · rw [rL_hi (by rw [tab49_len]; omega)]
      unfold xn
      rw [if_neg (by omega), if_neg (by omega)]
  rw [e]
  have hk := LD_tab n (by omega) h1
  exact ldChk_ok h1 h2 (n - 1) 1 n _ (tab49_len _) h2 (by omega) (by omega) hk
