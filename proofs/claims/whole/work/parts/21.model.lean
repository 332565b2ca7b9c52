theorem nd_X4_in : okName yX4_in 3 := by decide +kernel
set_option maxHeartbeats 4000000 in
set_option maxRecDepth 100000 in
theorem k_X4_in (l : Launch) (D : va_G) (cI cZ : ClassId) (n : Int32) (lo : Int32) (hi : Int32) : RO l yX4_in wsX4_in ({ frames := 0, cells := 0, slots := 0, locals := 0 } : Room) D cI cZ [] [.int n, .int lo, .int hi] (jIn n lo hi) := by
  refine ro_start (by decide) rfl (Nat.le_of_ble_eq_true rfl) ?_
  intro p e s m args below meth c hx hb hr hml hlocks hts hown hT hP ls hl
  have hown : s.vm.findClass RX4 = some m.cls := hown
  have hl : lv_has ls 3 [(0, .int n), (1, .int lo), (2, .int hi)] := hl
  refine lv_iload_n hx hb dX4_in_0 rfl (lv_at hl 0 rfl) ?_
  refine lv_iload_n hx hb dX4_in_1 rfl (lv_at hl 1 rfl) ?_
  refine lv_icmp_lt (tgt := 14) hx hb dX4_in_2 (by decide) (fun c_1 => ?_) (fun c_1 => ?_)
  · skip
    refine lv_iconst (v := 0) hx hb dX4_in_14 (by decide) ?_
    exact ro_retz hx hb hr hlocks dX4_in_15 (by simp [jIn, c_1]) (by first | exact jIn01 _ _ _)
  · skip
    refine lv_iload_n hx hb dX4_in_5 rfl (lv_at hl 0 rfl) ?_
    refine lv_iload_n hx hb dX4_in_6 rfl (lv_at hl 2 rfl) ?_
    refine lv_icmp_gt (tgt := 14) hx hb dX4_in_7 (by decide) (fun c_2 => ?_) (fun c_2 => ?_)
    · skip
      refine lv_iconst (v := 0) hx hb dX4_in_14 (by decide) ?_
      exact ro_retz hx hb hr hlocks dX4_in_15 (by simp [jIn, c_1, c_2]) (by first | exact jIn01 _ _ _)
    · skip
      refine lv_iconst (v := 1) hx hb dX4_in_10 (by decide) ?_
      refine lv_goto (tgt := 15) hx hb dX4_in_11 (by decide) ?_
      exact ro_retz hx hb hr hlocks dX4_in_15 (by simp [jIn, c_1, c_2]) (by first | exact jIn01 _ _ _)

theorem nd_X4_common : okName yX4_common 2 := by decide +kernel
set_option maxHeartbeats 4000000 in
set_option maxRecDepth 100000 in
theorem k_X4_common (l : Launch) (D : va_G) (cI cZ : ClassId) (a : Nat) (b : Nat) (ha : a < 1000) (hbb : b < 1000) : RO l yX4_common wsX4_common ({ frames := 0, cells := 0, slots := 0, locals := 0 } : Room) D cI cZ [] [.int (nI a), .int (nI b)] (nI (Nat.gcd a b)) := by
  refine ro_start (by decide) rfl (Nat.le_of_ble_eq_true rfl) ?_
  intro p e s m args below meth c hx hb hr hml hlocks hts hown hT hP ls hl
  have hown : s.vm.findClass RX4 = some m.cls := hown
  have hl : lv_has ls 5 [(0, .int (nI a)), (1, .int (nI b))] := hl
  refine lv_iload_n hx hb dX4_common_0 rfl (lv_at hl 0 rfl) ?_
  refine lv_istore_n (lv' := [(2, .int (nI a)), (0, .int (nI a)), (1, .int (nI b))]) hx hb dX4_common_1 rfl hl (by decide) rfl (fun ls hl => ?_)
  refine lv_iload_n hx hb dX4_common_2 rfl (lv_at hl 2 rfl) ?_
  refine lv_istore_n (lv' := [(3, .int (nI b)), (2, .int (nI a)), (0, .int (nI a)), (1, .int (nI b))]) hx hb dX4_common_3 rfl hl (by decide) rfl (fun ls hl => ?_)
  have L_4 : ∀ (f : Nat) (x : Nat) (y : Nat), y ≤ f → x < 1000 ∧ y < 1000 → Nat.gcd a b = Nat.gcd x y → ∀ ls : Array Slot, lv_has ls 5 [(0, .int (nI a)), (1, .int (nI b)), (2, .int (nI x)), (3, .int (nI y))] → W p l e (headSpec wsX4_common ({ frames := 0, cells := 0, slots := 0, locals := 0 } : Room)).room s m args below meth c s.heap [] 0 0 (MQ below (QcRead (nI (Nat.gcd a b))) args s 0 0 (fun _ => False)) (F0 m 4 ls []) := by
    intro f
    induction f with
    | zero =>
      intro x y h1 h3 h2 ls hl
      refine lv_iload_n hx hb dX4_common_4 rfl (lv_at hl 3 rfl) ?_
      refine lv_if_le (tgt := 21) hx hb dX4_common_5 (by decide) (fun c_1 => ?_) (fun c_1 => ?_)
      · skip
        have hy0 : y = 0 := Nat.le_zero.mp (Nat.not_lt.mp fun q => nI_nle q (by omega) c_1)
        refine lv_iload_n hx hb dX4_common_21 rfl (lv_at hl 2 rfl) ?_
        exact ro_ret hx hb hr hlocks dX4_common_22 (by rw [h2, hy0, Nat.gcd_zero_right])
      · exfalso; exact c_1 (by rw [show y = 0 by omega]; decide)
    | succ f ih_4 =>
      intro x y h1 h3 h2 ls hl
      refine lv_iload_n hx hb dX4_common_4 rfl (lv_at hl 3 rfl) ?_
      refine lv_if_le (tgt := 21) hx hb dX4_common_5 (by decide) (fun c_2 => ?_) (fun c_2 => ?_)
      · skip
        have hy0 : y = 0 := Nat.le_zero.mp (Nat.not_lt.mp fun q => nI_nle q (by omega) c_2)
        refine lv_iload_n hx hb dX4_common_21 rfl (lv_at hl 2 rfl) ?_
        exact ro_ret hx hb hr hlocks dX4_common_22 (by rw [h2, hy0, Nat.gcd_zero_right])
      · skip
        have hy0 : 0 < y := Nat.pos_of_ne_zero fun q => c_2 (by rw [q]; decide)
        have hxy := Nat.mod_lt x hy0
        refine lv_iload_n hx hb dX4_common_8 rfl (lv_at hl 2 rfl) ?_
        refine lv_iload_n hx hb dX4_common_9 rfl (lv_at hl 3 rfl) ?_
        refine lv_irem hx hb dX4_common_10 (nI_ne0 hy0 (by omega)) ?_
        refine top_eq (z := (nI (x % y))) (by exact pk_rem (by omega) hy0 (by omega)) ?_
        refine lv_istore (lv' := [(4, .int (nI (x % y))), (0, .int (nI a)), (1, .int (nI b)), (2, .int (nI x)), (3, .int (nI y))]) hx hb dX4_common_11 hl (by decide) rfl (fun ls hl => ?_)
        refine lv_iload_n hx hb dX4_common_13 rfl (lv_at hl 4 rfl) ?_
        refine lv_istore_n (lv' := [(2, .int (nI y)), (4, .int (nI (x % y))), (0, .int (nI a)), (1, .int (nI b)), (3, .int (nI y))]) hx hb dX4_common_14 rfl hl (by decide) rfl (fun ls hl => ?_)
        refine lv_iload hx hb dX4_common_15 (lv_at hl 1 rfl) ?_
        refine lv_istore_n (lv' := [(3, .int (nI (x % y))), (2, .int (nI y)), (4, .int (nI (x % y))), (0, .int (nI a)), (1, .int (nI b))]) hx hb dX4_common_17 rfl hl (by decide) rfl (fun ls hl => ?_)
        refine lv_goto (tgt := 4) hx hb dX4_common_18 (by decide) ?_
        exact ih_4 y (x % y) (by omega) (by omega) (by rw [h2]; exact gcd_step x y) ls (lv_sub hl [3, 4, 1, 0] rfl)
  exact L_4 b a b (Nat.le_refl _) (by omega) rfl ls (lv_sub hl [2, 3, 1, 0] rfl)

set_option maxRecDepth 20000 in
theorem hi_X4_copies_X4 : ∀ w ∈ wsX40, w ∈ wsX4_copies := by
  intro w h
  unfold wsX4_copies
  simp only [List.mem_cons, List.mem_append, h, or_true, true_or]
theorem nd_X4_copies : okName yX4_copies 0 := by decide +kernel
set_option maxHeartbeats 4000000 in
set_option maxRecDepth 100000 in
theorem k_X4_copies (l : Launch) (D : va_G) (cI cZ : ClassId) (aO : Nat) (Q : Nat) (P : Nat) (M : Nat) (Wd : Nat) (aOw : Nat) (aDg : Nat) (aWk : Nat) (aSm : Nat) (aFo : Nat) (aBk : Nat) (fo : Nat) (ba : Nat) (le : Nat) (sf : Nat) (aIm : Nat) (aKp : Nat) (hv : MV Q P M Wd) : RO l yX4_copies wsX4_copies ({ frames := 1, cells := 0, slots := 0, locals := 24 } : Room) D cI cZ [(aO, .inr (4, [.int (nI Q), .int (nI P), .int (nI M), .int (nI Wd), .ref aOw, .ref aDg, .ref aWk, .ref aSm, .ref aFo, .ref aBk, .int (nI fo), .int (nI ba), .int (nI le), .int (nI sf), .ref aIm, .ref aKp]))] [.ref aO] (nI (tT Q P)) := by
  refine ro_start (by decide) rfl (Nat.le_of_ble_eq_true rfl) ?_
  intro p e s m args below meth c hx hb hr hml hlocks hts hown hT hP ls hl
  have hown : s.vm.findClass RX4 = some m.cls := hown
  have hl : lv_has ls 1 [(0, .ref aO)] := hl
  have hv' := hv
  unfold MV at hv'
  refine lv_aload_n hx hb dX4_copies_0 rfl (lv_at hl 0 rfl) ?_
  refine va_get (D := D) (ci := 4) (v := .int (nI Q)) (C := RX4) (T := TX4) (N := 16) hx hb hts hi_X4_copies_X4 hown hT.1 hP 0 rfl rfl 0 (by decide) (hts (.fieldLink RX4 7 "SlotStarModel" "slots" "I") (List.mem_of_getElem? (i := 1) rfl)) (fun _ h9 => h9) rfl dX4_copies_1 ?_
  refine lv_aload_n hx hb dX4_copies_4 rfl (lv_at hl 0 rfl) ?_
  refine va_get (D := D) (ci := 4) (v := .int (nI P)) (C := RX4) (T := TX4) (N := 16) hx hb hts hi_X4_copies_X4 hown hT.1 hP 0 rfl rfl 1 (by decide) (hts (.fieldLink RX4 13 "SlotStarModel" "poles" "I") (List.mem_of_getElem? (i := 2) rfl)) (fun _ h9 => h9) rfl dX4_copies_5 ?_
  refine ro_S (As := [.int (nI Q), .int (nI P)]) (rest := []) ⟨hx, hb, hml, hown, hts⟩ hT hP (k_X4_common l D cI cZ Q P (by omega) (by omega)) gX4_copies_X4_common rfl nd_X4_common [] rfl hl.1 rfl rfl (Nat.le_of_ble_eq_true rfl) ⟨Nat.le_of_ble_eq_true rfl, Nat.le_of_ble_eq_true rfl⟩ ⟨rfl, rfl⟩ ⟨Nat.zero_le _, Nat.zero_le _⟩ dX4_copies_8 ?_
  exact ro_ret hx hb hr hlocks dX4_copies_11 (by rfl)

set_option maxRecDepth 20000 in
theorem hi_X4_star_X4 : ∀ w ∈ wsX40, w ∈ wsX4_star := by
  intro w h
  unfold wsX4_star
  simp only [List.mem_cons, List.mem_append, h, or_true, true_or]
theorem nd_X4_star : okName yX4_star 0 := by decide +kernel
set_option maxHeartbeats 4000000 in
set_option maxRecDepth 100000 in
theorem k_X4_star (l : Launch) (D : va_G) (cI cZ : ClassId) (aO : Nat) (Q : Nat) (P : Nat) (M : Nat) (Wd : Nat) (aOw : Nat) (aDg : Nat) (aWk : Nat) (aSm : Nat) (aFo : Nat) (aBk : Nat) (fo : Nat) (ba : Nat) (le : Nat) (sf : Nat) (aIm : Nat) (aKp : Nat) (hv : MV Q P M Wd) : RO l yX4_star wsX4_star ({ frames := 2, cells := 0, slots := 0, locals := 44 } : Room) D cI cZ [(aO, .inr (4, [.int (nI Q), .int (nI P), .int (nI M), .int (nI Wd), .ref aOw, .ref aDg, .ref aWk, .ref aSm, .ref aFo, .ref aBk, .int (nI fo), .int (nI ba), .int (nI le), .int (nI sf), .ref aIm, .ref aKp]))] [.ref aO] (nI (tN Q P)) := by
  refine ro_start (by decide) rfl (Nat.le_of_ble_eq_true rfl) ?_
  intro p e s m args below meth c hx hb hr hml hlocks hts hown hT hP ls hl
  have hown : s.vm.findClass RX4 = some m.cls := hown
  have hl : lv_has ls 1 [(0, .ref aO)] := hl
  have hv' := hv
  unfold MV at hv'
  have ht0 := tT_pos hv
  have ht1 := tT_le hv
  refine lv_aload_n hx hb dX4_star_0 rfl (lv_at hl 0 rfl) ?_
  refine va_get (D := D) (ci := 4) (v := .int (nI Q)) (C := RX4) (T := TX4) (N := 16) hx hb hts hi_X4_star_X4 hown hT.1 hP 0 rfl rfl 0 (by decide) (hts (.fieldLink RX4 7 "SlotStarModel" "slots" "I") (List.mem_of_getElem? (i := 1) rfl)) (fun _ h9 => h9) rfl dX4_star_1 ?_
  refine lv_aload_n hx hb dX4_star_4 rfl (lv_at hl 0 rfl) ?_
  refine ro_V (As := []) (rest := [.int (nI Q)]) ⟨hx, hb, hml, hown, hts⟩ hT hP (k_X4_copies l D cI cZ aO Q P M Wd aOw aDg aWk aSm aFo aBk fo ba le sf aIm aKp hv) gX4_star_X4_copies rfl rfl nd_X4_copies [0] rfl (ci := 4) rfl rfl (q0 := 0) rfl hl.1 rfl rfl (Nat.le_of_ble_eq_true rfl) ⟨Nat.le_of_ble_eq_true rfl, Nat.le_of_ble_eq_true rfl⟩ ⟨rfl, rfl⟩ ⟨Nat.zero_le _, Nat.zero_le _⟩ dX4_star_5 ?_
  refine lv_idiv hx hb dX4_star_8 (nI_ne0 ht0 (by omega)) ?_
  exact ro_ret hx hb hr hlocks dX4_star_9 (by exact pk_div (by omega) ht0 (by omega))

set_option maxRecDepth 20000 in
theorem hi_X4_isBalanced_X4 : ∀ w ∈ wsX40, w ∈ wsX4_isBalanced := by
  intro w h
  unfold wsX4_isBalanced
  simp only [List.mem_cons, List.mem_append, h, or_true, true_or]
theorem nd_X4_isBalanced : okName yX4_isBalanced 0 := by decide +kernel
set_option maxHeartbeats 4000000 in
set_option maxRecDepth 100000 in
theorem k_X4_isBalanced (l : Launch) (D : va_G) (cI cZ : ClassId) (aO : Nat) (Q : Nat) (P : Nat) (M : Nat) (Wd : Nat) (aOw : Nat) (aDg : Nat) (aWk : Nat) (aSm : Nat) (aFo : Nat) (aBk : Nat) (fo : Nat) (ba : Nat) (le : Nat) (sf : Nat) (aIm : Nat) (aKp : Nat) (hv : MV Q P M Wd) : RO l yX4_isBalanced wsX4_isBalanced ({ frames := 3, cells := 0, slots := 0, locals := 64 } : Room) D cI cZ [(aO, .inr (4, [.int (nI Q), .int (nI P), .int (nI M), .int (nI Wd), .ref aOw, .ref aDg, .ref aWk, .ref aSm, .ref aFo, .ref aBk, .int (nI fo), .int (nI ba), .int (nI le), .int (nI sf), .ref aIm, .ref aKp]))] [.ref aO] (bal Q P M) := by
  refine ro_start (by decide) rfl (Nat.le_of_ble_eq_true rfl) ?_
  intro p e s m args below meth c hx hb hr hml hlocks hts hown hT hP ls hl
  have hown : s.vm.findClass RX4 = some m.cls := hown
  have hl : lv_has ls 1 [(0, .ref aO)] := hl
  have hv' := hv
  unfold MV at hv'
  have hM : 0 < M ∧ M ≤ 5 := by omega
  refine lv_aload_n hx hb dX4_isBalanced_0 rfl (lv_at hl 0 rfl) ?_
  refine ro_V (As := []) (rest := []) ⟨hx, hb, hml, hown, hts⟩ hT hP (k_X4_star l D cI cZ aO Q P M Wd aOw aDg aWk aSm aFo aBk fo ba le sf aIm aKp hv) gX4_isBalanced_X4_star rfl rfl nd_X4_star [0] rfl (ci := 4) rfl rfl (q0 := 0) rfl hl.1 rfl rfl (Nat.le_of_ble_eq_true rfl) ⟨Nat.le_of_ble_eq_true rfl, Nat.le_of_ble_eq_true rfl⟩ ⟨rfl, rfl⟩ ⟨Nat.zero_le _, Nat.zero_le _⟩ dX4_isBalanced_1 ?_
  refine lv_aload_n hx hb dX4_isBalanced_4 rfl (lv_at hl 0 rfl) ?_
  refine va_get (D := D) (ci := 4) (v := .int (nI M)) (C := RX4) (T := TX4) (N := 16) hx hb hts hi_X4_isBalanced_X4 hown hT.1 hP 0 rfl rfl 2 (by decide) (hts (.fieldLink RX4 16 "SlotStarModel" "phases" "I") (List.mem_of_getElem? (i := 1) rfl)) (fun _ h9 => h9) rfl dX4_isBalanced_5 ?_
  refine lv_irem hx hb dX4_isBalanced_8 (nI_ne0 hM.1 (by omega)) ?_
  refine lv_if_ne (tgt := 16) hx hb dX4_isBalanced_9 (by decide) (fun c_1 => ?_) (fun c_1 => ?_)
  · skip
    refine lv_iconst (v := 0) hx hb dX4_isBalanced_16 (by decide) ?_
    exact ro_retz hx hb hr hlocks dX4_isBalanced_17 (by first | exact m_bal1 hv c_1 | exact m_bal0 hv c_1) (by exact bal01 _ _ _)
  · skip
    refine lv_iconst (v := 1) hx hb dX4_isBalanced_12 (by decide) ?_
    refine lv_goto (tgt := 17) hx hb dX4_isBalanced_13 (by decide) ?_
    exact ro_retz hx hb hr hlocks dX4_isBalanced_17 (by first | exact m_bal1 hv c_1 | exact m_bal0 hv c_1) (by exact bal01 _ _ _)

set_option maxRecDepth 20000 in
theorem hi_X4_isSlot_X4 : ∀ w ∈ wsX40, w ∈ wsX4_isSlot := by
  intro w h
  unfold wsX4_isSlot
  simp only [List.mem_cons, List.mem_append, h, or_true, true_or]
theorem nd_X4_isSlot : okName yX4_isSlot 1 := by decide +kernel
set_option maxHeartbeats 4000000 in
set_option maxRecDepth 100000 in
theorem k_X4_isSlot (l : Launch) (D : va_G) (cI cZ : ClassId) (aO : Nat) (Q : Nat) (P : Nat) (M : Nat) (Wd : Nat) (aOw : Nat) (aDg : Nat) (aWk : Nat) (aSm : Nat) (aFo : Nat) (aBk : Nat) (fo : Nat) (ba : Nat) (le : Nat) (sf : Nat) (aIm : Nat) (aKp : Nat) (k : Int32) : RO l yX4_isSlot wsX4_isSlot ({ frames := 1, cells := 0, slots := 0, locals := 22 } : Room) D cI cZ [(aO, .inr (4, [.int (nI Q), .int (nI P), .int (nI M), .int (nI Wd), .ref aOw, .ref aDg, .ref aWk, .ref aSm, .ref aFo, .ref aBk, .int (nI fo), .int (nI ba), .int (nI le), .int (nI sf), .ref aIm, .ref aKp]))] [.ref aO, .int k] (jIn k 0 (nI Q - 1)) := by
  refine ro_start (by decide) rfl (Nat.le_of_ble_eq_true rfl) ?_
  intro p e s m args below meth c hx hb hr hml hlocks hts hown hT hP ls hl
  have hown : s.vm.findClass RX4 = some m.cls := hown
  have hl : lv_has ls 2 [(0, .ref aO), (1, .int k)] := hl
  refine lv_iload_n hx hb dX4_isSlot_0 rfl (lv_at hl 1 rfl) ?_
  refine lv_iconst (v := 0) hx hb dX4_isSlot_1 (by decide) ?_
  refine lv_aload_n hx hb dX4_isSlot_2 rfl (lv_at hl 0 rfl) ?_
  refine va_get (D := D) (ci := 4) (v := .int (nI Q)) (C := RX4) (T := TX4) (N := 16) hx hb hts hi_X4_isSlot_X4 hown hT.1 hP 0 rfl rfl 0 (by decide) (hts (.fieldLink RX4 7 "SlotStarModel" "slots" "I") (List.mem_of_getElem? (i := 1) rfl)) (fun _ h9 => h9) rfl dX4_isSlot_3 ?_
  refine lv_iconst (v := 1) hx hb dX4_isSlot_6 (by decide) ?_
  refine lv_isub hx hb dX4_isSlot_7 ?_
  refine ro_S (As := [.int k, .int 0, .int ((nI Q) - 1)]) (rest := []) ⟨hx, hb, hml, hown, hts⟩ hT hP (k_X4_in l D cI cZ k 0 ((nI Q) - 1)) gX4_isSlot_X4_in rfl nd_X4_in [] rfl hl.1 rfl rfl (Nat.le_of_ble_eq_true rfl) ⟨Nat.le_of_ble_eq_true rfl, Nat.le_of_ble_eq_true rfl⟩ ⟨rfl, rfl⟩ ⟨Nat.zero_le _, Nat.zero_le _⟩ dX4_isSlot_8 ?_
  exact ro_retz hx hb hr hlocks dX4_isSlot_11 (by rfl) (by exact jIn01 _ _ _)

set_option maxRecDepth 20000 in
theorem hi_X4_isPhase_X4 : ∀ w ∈ wsX40, w ∈ wsX4_isPhase := by
  intro w h
  unfold wsX4_isPhase
  simp only [List.mem_cons, List.mem_append, h, or_true, true_or]
theorem nd_X4_isPhase : okName yX4_isPhase 1 := by decide +kernel
set_option maxHeartbeats 4000000 in
set_option maxRecDepth 100000 in
theorem k_X4_isPhase (l : Launch) (D : va_G) (cI cZ : ClassId) (aO : Nat) (Q : Nat) (P : Nat) (M : Nat) (Wd : Nat) (aOw : Nat) (aDg : Nat) (aWk : Nat) (aSm : Nat) (aFo : Nat) (aBk : Nat) (fo : Nat) (ba : Nat) (le : Nat) (sf : Nat) (aIm : Nat) (aKp : Nat) (a : Int32) : RO l yX4_isPhase wsX4_isPhase ({ frames := 1, cells := 0, slots := 0, locals := 22 } : Room) D cI cZ [(aO, .inr (4, [.int (nI Q), .int (nI P), .int (nI M), .int (nI Wd), .ref aOw, .ref aDg, .ref aWk, .ref aSm, .ref aFo, .ref aBk, .int (nI fo), .int (nI ba), .int (nI le), .int (nI sf), .ref aIm, .ref aKp]))] [.ref aO, .int a] (jIn a 0 (nI M - 1)) := by
  refine ro_start (by decide) rfl (Nat.le_of_ble_eq_true rfl) ?_
  intro p e s m args below meth c hx hb hr hml hlocks hts hown hT hP ls hl
  have hown : s.vm.findClass RX4 = some m.cls := hown
  have hl : lv_has ls 2 [(0, .ref aO), (1, .int a)] := hl
  refine lv_iload_n hx hb dX4_isPhase_0 rfl (lv_at hl 1 rfl) ?_
  refine lv_iconst (v := 0) hx hb dX4_isPhase_1 (by decide) ?_
  refine lv_aload_n hx hb dX4_isPhase_2 rfl (lv_at hl 0 rfl) ?_
  refine va_get (D := D) (ci := 4) (v := .int (nI M)) (C := RX4) (T := TX4) (N := 16) hx hb hts hi_X4_isPhase_X4 hown hT.1 hP 0 rfl rfl 2 (by decide) (hts (.fieldLink RX4 16 "SlotStarModel" "phases" "I") (List.mem_of_getElem? (i := 1) rfl)) (fun _ h9 => h9) rfl dX4_isPhase_3 ?_
  refine lv_iconst (v := 1) hx hb dX4_isPhase_6 (by decide) ?_
  refine lv_isub hx hb dX4_isPhase_7 ?_
  refine ro_S (As := [.int a, .int 0, .int ((nI M) - 1)]) (rest := []) ⟨hx, hb, hml, hown, hts⟩ hT hP (k_X4_in l D cI cZ a 0 ((nI M) - 1)) gX4_isPhase_X4_in rfl nd_X4_in [] rfl hl.1 rfl rfl (Nat.le_of_ble_eq_true rfl) ⟨Nat.le_of_ble_eq_true rfl, Nat.le_of_ble_eq_true rfl⟩ ⟨rfl, rfl⟩ ⟨Nat.zero_le _, Nat.zero_le _⟩ dX4_isPhase_8 ?_
  exact ro_retz hx hb hr hlocks dX4_isPhase_11 (by rfl) (by exact jIn01 _ _ _)

theorem nd_X4_greater : okName yX4_greater 2 := by decide +kernel
set_option maxHeartbeats 4000000 in
set_option maxRecDepth 100000 in
theorem k_X4_greater (l : Launch) (D : va_G) (cI cZ : ClassId) (a : Int32) (b : Int32) : RO l yX4_greater wsX4_greater ({ frames := 0, cells := 0, slots := 0, locals := 0 } : Room) D cI cZ [] [.int a, .int b] (if a ≤ b then b else a) := by
  refine ro_start (by decide) rfl (Nat.le_of_ble_eq_true rfl) ?_
  intro p e s m args below meth c hx hb hr hml hlocks hts hown hT hP ls hl
  have hown : s.vm.findClass RX4 = some m.cls := hown
  have hl : lv_has ls 2 [(0, .int a), (1, .int b)] := hl
  refine lv_iload_n hx hb dX4_greater_0 rfl (lv_at hl 0 rfl) ?_
  refine lv_iload_n hx hb dX4_greater_1 rfl (lv_at hl 1 rfl) ?_
  refine lv_icmp_le (tgt := 9) hx hb dX4_greater_2 (by decide) (fun c_1 => ?_) (fun c_1 => ?_)
  · skip
    refine lv_iload_n hx hb dX4_greater_9 rfl (lv_at hl 1 rfl) ?_
    exact ro_ret hx hb hr hlocks dX4_greater_10 (by simp [c_1])
  · skip
    refine lv_iload_n hx hb dX4_greater_5 rfl (lv_at hl 0 rfl) ?_
    refine lv_goto (tgt := 10) hx hb dX4_greater_6 (by decide) ?_
    exact ro_ret hx hb hr hlocks dX4_greater_10 (by simp [c_1])

set_option maxRecDepth 20000 in
theorem hi_X4_pitch_X4 : ∀ w ∈ wsX40, w ∈ wsX4_pitch := by
  intro w h
  unfold wsX4_pitch
  simp only [List.mem_cons, List.mem_append, h, or_true, true_or]
theorem nd_X4_pitch : okName yX4_pitch 0 := by decide +kernel
set_option maxHeartbeats 4000000 in
set_option maxRecDepth 100000 in
theorem k_X4_pitch (l : Launch) (D : va_G) (cI cZ : ClassId) (aO : Nat) (Q : Nat) (P : Nat) (M : Nat) (Wd : Nat) (aOw : Nat) (aDg : Nat) (aWk : Nat) (aSm : Nat) (aFo : Nat) (aBk : Nat) (fo : Nat) (ba : Nat) (le : Nat) (sf : Nat) (aIm : Nat) (aKp : Nat) (hq : Q < 1000) (hp : 0 < P ∧ P < 1000) : RO l yX4_pitch wsX4_pitch ({ frames := 1, cells := 0, slots := 0, locals := 21 } : Room) D cI cZ [(aO, .inr (4, [.int (nI Q), .int (nI P), .int (nI M), .int (nI Wd), .ref aOw, .ref aDg, .ref aWk, .ref aSm, .ref aFo, .ref aBk, .int (nI fo), .int (nI ba), .int (nI le), .int (nI sf), .ref aIm, .ref aKp]))] [.ref aO] (nI (pw Q P)) := by
  refine ro_start (by decide) rfl (Nat.le_of_ble_eq_true rfl) ?_
  intro p e s m args below meth c hx hb hr hml hlocks hts hown hT hP ls hl
  have hown : s.vm.findClass RX4 = some m.cls := hown
  have hl : lv_has ls 1 [(0, .ref aO)] := hl
  refine lv_iconst (v := 1) hx hb dX4_pitch_0 (by decide) ?_
  refine lv_aload_n hx hb dX4_pitch_1 rfl (lv_at hl 0 rfl) ?_
  refine va_get (D := D) (ci := 4) (v := .int (nI Q)) (C := RX4) (T := TX4) (N := 16) hx hb hts hi_X4_pitch_X4 hown hT.1 hP 0 rfl rfl 0 (by decide) (hts (.fieldLink RX4 7 "SlotStarModel" "slots" "I") (List.mem_of_getElem? (i := 1) rfl)) (fun _ h9 => h9) rfl dX4_pitch_2 ?_
  refine lv_iconst (v := 2) hx hb dX4_pitch_5 (by decide) ?_
  refine lv_aload_n hx hb dX4_pitch_6 rfl (lv_at hl 0 rfl) ?_
  refine va_get (D := D) (ci := 4) (v := .int (nI P)) (C := RX4) (T := TX4) (N := 16) hx hb hts hi_X4_pitch_X4 hown hT.1 hP 0 rfl rfl 1 (by decide) (hts (.fieldLink RX4 13 "SlotStarModel" "poles" "I") (List.mem_of_getElem? (i := 2) rfl)) (fun _ h9 => h9) rfl dX4_pitch_7 ?_
  refine lv_imul hx hb dX4_pitch_10 ?_
  refine top_eq (z := (nI (2 * P))) (by exact pk_mul 2 P) ?_
  refine lv_idiv hx hb dX4_pitch_11 (nI_ne0 (by omega) (by omega)) ?_
  refine top_eq (z := (nI (Q / (2 * P)))) (by exact pk_div (by omega) (by omega) (by omega)) ?_
  refine ro_S (As := [.int 1, .int (nI (Q / (2 * P)))]) (rest := []) ⟨hx, hb, hml, hown, hts⟩ hT hP (k_X4_greater l D cI cZ 1 (nI (Q / (2 * P)))) gX4_pitch_X4_greater rfl nd_X4_greater [] rfl hl.1 rfl rfl (Nat.le_of_ble_eq_true rfl) ⟨Nat.le_of_ble_eq_true rfl, Nat.le_of_ble_eq_true rfl⟩ ⟨rfl, rfl⟩ ⟨Nat.zero_le _, Nat.zero_le _⟩ dX4_pitch_12 ?_
  exact ro_ret hx hb hr hlocks dX4_pitch_15 (by exact m_pw hq hp)

set_option maxRecDepth 20000 in
theorem hi_X4_lacking_X4 : ∀ w ∈ wsX40, w ∈ wsX4_lacking := by
  intro w h
  unfold wsX4_lacking
  simp only [List.mem_cons, List.mem_append, h, or_true, true_or]
theorem nd_X4_lacking : okName yX4_lacking 0 := by decide +kernel
set_option maxHeartbeats 4000000 in
set_option maxRecDepth 100000 in
theorem k_X4_lacking (l : Launch) (D : va_G) (cI cZ : ClassId) (aO : Nat) (Q : Nat) (P : Nat) (M : Nat) (Wd : Nat) (aOw : Nat) (aDg : Nat) (aWk : Nat) (aSm : Nat) (aFo : Nat) (aBk : Nat) (fo : Nat) (ba : Nat) (le : Nat) (sf : Nat) (aIm : Nat) (aKp : Nat) (hv : MV Q P M Wd) : RO l yX4_lacking wsX4_lacking ({ frames := 3, cells := 0, slots := 0, locals := 64 } : Room) D cI cZ [(aO, .inr (4, [.int (nI Q), .int (nI P), .int (nI M), .int (nI Wd), .ref aOw, .ref aDg, .ref aWk, .ref aSm, .ref aFo, .ref aBk, .int (nI fo), .int (nI ba), .int (nI le), .int (nI sf), .ref aIm, .ref aKp]))] [.ref aO] (nI (lck Q P M)) := by
  refine ro_start (by decide) rfl (Nat.le_of_ble_eq_true rfl) ?_
  intro p e s m args below meth c hx hb hr hml hlocks hts hown hT hP ls hl
  have hown : s.vm.findClass RX4 = some m.cls := hown
  have hl : lv_has ls 1 [(0, .ref aO)] := hl
  have hv' := hv
  unfold MV at hv'
  have hM : 0 < M ∧ M ≤ 5 := by omega
  have hn0 := tN_pos hv
  have hn1 := tN_le hv
  have hg0 : 0 < Nat.gcd (tN Q P) M := Nat.gcd_pos_of_pos_left M hn0
  have hg1 : Nat.gcd (tN Q P) M ≤ M := Nat.le_of_dvd hM.1 (Nat.gcd_dvd_right _ _)
  refine lv_aload_n hx hb dX4_lacking_0 rfl (lv_at hl 0 rfl) ?_
  refine va_get (D := D) (ci := 4) (v := .int (nI M)) (C := RX4) (T := TX4) (N := 16) hx hb hts hi_X4_lacking_X4 hown hT.1 hP 0 rfl rfl 2 (by decide) (hts (.fieldLink RX4 16 "SlotStarModel" "phases" "I") (List.mem_of_getElem? (i := 1) rfl)) (fun _ h9 => h9) rfl dX4_lacking_1 ?_
  refine lv_aload_n hx hb dX4_lacking_4 rfl (lv_at hl 0 rfl) ?_
  refine ro_V (As := []) (rest := [.int (nI M)]) ⟨hx, hb, hml, hown, hts⟩ hT hP (k_X4_star l D cI cZ aO Q P M Wd aOw aDg aWk aSm aFo aBk fo ba le sf aIm aKp hv) gX4_lacking_X4_star rfl rfl nd_X4_star [0] rfl (ci := 4) rfl rfl (q0 := 0) rfl hl.1 rfl rfl (Nat.le_of_ble_eq_true rfl) ⟨Nat.le_of_ble_eq_true rfl, Nat.le_of_ble_eq_true rfl⟩ ⟨rfl, rfl⟩ ⟨Nat.zero_le _, Nat.zero_le _⟩ dX4_lacking_5 ?_
  refine lv_aload_n hx hb dX4_lacking_8 rfl (lv_at hl 0 rfl) ?_
  refine va_get (D := D) (ci := 4) (v := .int (nI M)) (C := RX4) (T := TX4) (N := 16) hx hb hts hi_X4_lacking_X4 hown hT.1 hP 0 rfl rfl 2 (by decide) (hts (.fieldLink RX4 16 "SlotStarModel" "phases" "I") (List.mem_of_getElem? (i := 1) rfl)) (fun _ h9 => h9) rfl dX4_lacking_9 ?_
  refine ro_S (As := [.int (nI (tN Q P)), .int (nI M)]) (rest := [.int (nI M)]) ⟨hx, hb, hml, hown, hts⟩ hT hP (k_X4_common l D cI cZ (tN Q P) M (by omega) (by omega)) gX4_lacking_X4_common rfl nd_X4_common [] rfl hl.1 rfl rfl (Nat.le_of_ble_eq_true rfl) ⟨Nat.le_of_ble_eq_true rfl, Nat.le_of_ble_eq_true rfl⟩ ⟨rfl, rfl⟩ ⟨Nat.zero_le _, Nat.zero_le _⟩ dX4_lacking_12 ?_
  refine lv_idiv hx hb dX4_lacking_15 (nI_ne0 hg0 (by omega)) ?_
  exact ro_ret hx hb hr hlocks dX4_lacking_16 (by exact pk_div (by omega) hg0 (by omega))

set_option maxRecDepth 20000 in
theorem hi_X4_turn_X4 : ∀ w ∈ wsX40, w ∈ wsX4_turn := by
  intro w h
  unfold wsX4_turn
  simp only [List.mem_cons, List.mem_append, h, or_true, true_or]
theorem nd_X4_turn : okName yX4_turn 1 := by decide +kernel
set_option maxHeartbeats 4000000 in
set_option maxRecDepth 100000 in
theorem k_X4_turn (l : Launch) (D : va_G) (cI cZ : ClassId) (aO : Nat) (Q : Nat) (P : Nat) (M : Nat) (Wd : Nat) (aOw : Nat) (aDg : Nat) (aWk : Nat) (aSm : Nat) (aFo : Nat) (aBk : Nat) (fo : Nat) (ba : Nat) (le : Nat) (sf : Nat) (aIm : Nat) (aKp : Nat) (k : Nat) (hv : MV Q P M Wd) (hk : k < 1000) : RO l yX4_turn wsX4_turn ({ frames := 2, cells := 0, slots := 0, locals := 44 } : Room) D cI cZ [(aO, .inr (4, [.int (nI Q), .int (nI P), .int (nI M), .int (nI Wd), .ref aOw, .ref aDg, .ref aWk, .ref aSm, .ref aFo, .ref aBk, .int (nI fo), .int (nI ba), .int (nI le), .int (nI sf), .ref aIm, .ref aKp]))] [.ref aO, .int (nI k)] (nI (tn Q P k)) := by
  refine ro_start (by decide) rfl (Nat.le_of_ble_eq_true rfl) ?_
  intro p e s m args below meth c hx hb hr hml hlocks hts hown hT hP ls hl
  have hown : s.vm.findClass RX4 = some m.cls := hown
  have hl : lv_has ls 2 [(0, .ref aO), (1, .int (nI k))] := hl
  have hv' := hv
  unfold MV at hv'
  have ht0 := tT_pos hv
  have ht1 := tT_le hv
  have hkp := mul_small hk (show P ≤ 10 by omega)
  have hkq : k * P % Q < Q := Nat.mod_lt _ (by omega)
  refine lv_iload_n hx hb dX4_turn_0 rfl (lv_at hl 1 rfl) ?_
  refine lv_aload_n hx hb dX4_turn_1 rfl (lv_at hl 0 rfl) ?_
  refine va_get (D := D) (ci := 4) (v := .int (nI P)) (C := RX4) (T := TX4) (N := 16) hx hb hts hi_X4_turn_X4 hown hT.1 hP 0 rfl rfl 1 (by decide) (hts (.fieldLink RX4 13 "SlotStarModel" "poles" "I") (List.mem_of_getElem? (i := 1) rfl)) (fun _ h9 => h9) rfl dX4_turn_2 ?_
  refine lv_imul hx hb dX4_turn_5 ?_
  refine top_eq (z := (nI (k * P))) (by exact pk_mul k P) ?_
  refine lv_aload_n hx hb dX4_turn_6 rfl (lv_at hl 0 rfl) ?_
  refine va_get (D := D) (ci := 4) (v := .int (nI Q)) (C := RX4) (T := TX4) (N := 16) hx hb hts hi_X4_turn_X4 hown hT.1 hP 0 rfl rfl 0 (by decide) (hts (.fieldLink RX4 7 "SlotStarModel" "slots" "I") (List.mem_of_getElem? (i := 2) rfl)) (fun _ h9 => h9) rfl dX4_turn_7 ?_
  refine lv_irem hx hb dX4_turn_10 (nI_ne0 (by omega) (by omega)) ?_
  refine top_eq (z := (nI (k * P % Q))) (by exact pk_rem hkp (by omega) (by omega)) ?_
  refine lv_aload_n hx hb dX4_turn_11 rfl (lv_at hl 0 rfl) ?_
  refine ro_V (As := []) (rest := [.int (nI (k * P % Q))]) ⟨hx, hb, hml, hown, hts⟩ hT hP (k_X4_copies l D cI cZ aO Q P M Wd aOw aDg aWk aSm aFo aBk fo ba le sf aIm aKp hv) gX4_turn_X4_copies rfl rfl nd_X4_copies [0] rfl (ci := 4) rfl rfl (q0 := 0) rfl hl.1 rfl rfl (Nat.le_of_ble_eq_true rfl) ⟨Nat.le_of_ble_eq_true rfl, Nat.le_of_ble_eq_true rfl⟩ ⟨rfl, rfl⟩ ⟨Nat.zero_le _, Nat.zero_le _⟩ dX4_turn_12 ?_
  refine lv_idiv hx hb dX4_turn_15 (nI_ne0 ht0 (by omega)) ?_
  exact ro_ret hx hb hr hlocks dX4_turn_16 (by exact pk_div (by omega) ht0 (by omega))

set_option maxRecDepth 20000 in
theorem hi_X4_zone_X4 : ∀ w ∈ wsX40, w ∈ wsX4_zone := by
  intro w h
  unfold wsX4_zone
  simp only [List.mem_cons, List.mem_append, h, or_true, true_or]
theorem nd_X4_zone : okName yX4_zone 1 := by decide +kernel
set_option maxHeartbeats 4000000 in
set_option maxRecDepth 100000 in
theorem k_X4_zone (l : Launch) (D : va_G) (cI cZ : ClassId) (aO : Nat) (Q : Nat) (P : Nat) (M : Nat) (Wd : Nat) (aOw : Nat) (aDg : Nat) (aWk : Nat) (aSm : Nat) (aFo : Nat) (aBk : Nat) (fo : Nat) (ba : Nat) (le : Nat) (sf : Nat) (aIm : Nat) (aKp : Nat) (k : Nat) (hv : MV Q P M Wd) (hk : k < 1000) : RO l yX4_zone wsX4_zone ({ frames := 3, cells := 0, slots := 0, locals := 65 } : Room) D cI cZ [(aO, .inr (4, [.int (nI Q), .int (nI P), .int (nI M), .int (nI Wd), .ref aOw, .ref aDg, .ref aWk, .ref aSm, .ref aFo, .ref aBk, .int (nI fo), .int (nI ba), .int (nI le), .int (nI sf), .ref aIm, .ref aKp]))] [.ref aO, .int (nI k)] (nI (zn Q P M k)) := by
  refine ro_start (by decide) rfl (Nat.le_of_ble_eq_true rfl) ?_
  intro p e s m args below meth c hx hb hr hml hlocks hts hown hT hP ls hl
  have hown : s.vm.findClass RX4 = some m.cls := hown
  have hl : lv_has ls 2 [(0, .ref aO), (1, .int (nI k))] := hl
  have hv' := hv
  unfold MV at hv'
  have hM : 0 < M ∧ M ≤ 5 := by omega
  have hn0 := tN_pos hv
  have hn1 := tN_le hv
  have htk := tn_lt hv k
  have hz : 2 * M * tn Q P k ≤ 10 * 48 := Nat.mul_le_mul (by omega) (by omega)
  refine lv_iconst (v := 2) hx hb dX4_zone_0 (by decide) ?_
  refine lv_aload_n hx hb dX4_zone_1 rfl (lv_at hl 0 rfl) ?_
  refine va_get (D := D) (ci := 4) (v := .int (nI M)) (C := RX4) (T := TX4) (N := 16) hx hb hts hi_X4_zone_X4 hown hT.1 hP 0 rfl rfl 2 (by decide) (hts (.fieldLink RX4 16 "SlotStarModel" "phases" "I") (List.mem_of_getElem? (i := 1) rfl)) (fun _ h9 => h9) rfl dX4_zone_2 ?_
  refine lv_imul hx hb dX4_zone_5 ?_
  refine top_eq (z := (nI (2 * M))) (by exact pk_mul 2 M) ?_
  refine lv_aload_n hx hb dX4_zone_6 rfl (lv_at hl 0 rfl) ?_
  refine lv_iload_n hx hb dX4_zone_7 rfl (lv_at hl 1 rfl) ?_
  refine ro_V (As := [.int (nI k)]) (rest := [.int (nI (2 * M))]) ⟨hx, hb, hml, hown, hts⟩ hT hP (k_X4_turn l D cI cZ aO Q P M Wd aOw aDg aWk aSm aFo aBk fo ba le sf aIm aKp k hv hk) gX4_zone_X4_turn rfl rfl nd_X4_turn [0] rfl (ci := 4) rfl rfl (q0 := 0) rfl hl.1 rfl rfl (Nat.le_of_ble_eq_true rfl) ⟨Nat.le_of_ble_eq_true rfl, Nat.le_of_ble_eq_true rfl⟩ ⟨rfl, rfl⟩ ⟨Nat.zero_le _, Nat.zero_le _⟩ dX4_zone_8 ?_
  refine lv_imul hx hb dX4_zone_11 ?_
  refine top_eq (z := (nI (2 * M * tn Q P k))) (by exact pk_mul _ _) ?_
  refine lv_aload_n hx hb dX4_zone_12 rfl (lv_at hl 0 rfl) ?_
  refine ro_V (As := []) (rest := [.int (nI (2 * M * tn Q P k))]) ⟨hx, hb, hml, hown, hts⟩ hT hP (k_X4_star l D cI cZ aO Q P M Wd aOw aDg aWk aSm aFo aBk fo ba le sf aIm aKp hv) gX4_zone_X4_star rfl rfl nd_X4_star [0] rfl (ci := 4) rfl rfl (q0 := 0) rfl hl.1 rfl rfl (Nat.le_of_ble_eq_true rfl) ⟨Nat.le_of_ble_eq_true rfl, Nat.le_of_ble_eq_true rfl⟩ ⟨rfl, rfl⟩ ⟨Nat.zero_le _, Nat.zero_le _⟩ dX4_zone_13 ?_
  refine lv_idiv hx hb dX4_zone_16 (nI_ne0 hn0 (by omega)) ?_
  exact ro_ret hx hb hr hlocks dX4_zone_17 (by exact pk_div (by omega) hn0 (by omega))

set_option maxRecDepth 20000 in
theorem hi_X4_phaseOf_X4 : ∀ w ∈ wsX40, w ∈ wsX4_phaseOf := by
  intro w h
  unfold wsX4_phaseOf
  simp only [List.mem_cons, List.mem_append, h, or_true, true_or]
theorem nd_X4_phaseOf : okName yX4_phaseOf 1 := by decide +kernel
set_option maxHeartbeats 4000000 in
set_option maxRecDepth 100000 in
theorem k_X4_phaseOf (l : Launch) (D : va_G) (cI cZ : ClassId) (aO : Nat) (Q : Nat) (P : Nat) (M : Nat) (Wd : Nat) (aOw : Nat) (aDg : Nat) (aWk : Nat) (aSm : Nat) (aFo : Nat) (aBk : Nat) (fo : Nat) (ba : Nat) (le : Nat) (sf : Nat) (aIm : Nat) (aKp : Nat) (k : Nat) (hv : MV Q P M Wd) (hk : k < 1000) : RO l yX4_phaseOf wsX4_phaseOf ({ frames := 4, cells := 0, slots := 0, locals := 86 } : Room) D cI cZ [(aO, .inr (4, [.int (nI Q), .int (nI P), .int (nI M), .int (nI Wd), .ref aOw, .ref aDg, .ref aWk, .ref aSm, .ref aFo, .ref aBk, .int (nI fo), .int (nI ba), .int (nI le), .int (nI sf), .ref aIm, .ref aKp]))] [.ref aO, .int (nI k)] (nI (ph Q P M k)) := by
  refine ro_start (by decide) rfl (Nat.le_of_ble_eq_true rfl) ?_
  intro p e s m args below meth c hx hb hr hml hlocks hts hown hT hP ls hl
  have hown : s.vm.findClass RX4 = some m.cls := hown
  have hl : lv_has ls 3 [(0, .ref aO), (1, .int (nI k))] := hl
  have hv' := hv
  unfold MV at hv'
  have hM : 0 < M ∧ M ≤ 5 := by omega
  refine lv_aload_n hx hb dX4_phaseOf_0 rfl (lv_at hl 0 rfl) ?_
  refine lv_iload_n hx hb dX4_phaseOf_1 rfl (lv_at hl 1 rfl) ?_
  refine ro_V (As := [.int (nI k)]) (rest := []) ⟨hx, hb, hml, hown, hts⟩ hT hP (k_X4_zone l D cI cZ aO Q P M Wd aOw aDg aWk aSm aFo aBk fo ba le sf aIm aKp k hv hk) gX4_phaseOf_X4_zone rfl rfl nd_X4_zone [0] rfl (ci := 4) rfl rfl (q0 := 0) rfl hl.1 rfl rfl (Nat.le_of_ble_eq_true rfl) ⟨Nat.le_of_ble_eq_true rfl, Nat.le_of_ble_eq_true rfl⟩ ⟨rfl, rfl⟩ ⟨Nat.zero_le _, Nat.zero_le _⟩ dX4_phaseOf_2 ?_
  refine lv_istore_n (lv' := [(2, .int (nI (zn Q P M k))), (0, .ref aO), (1, .int (nI k))]) hx hb dX4_phaseOf_5 rfl hl (by decide) rfl (fun ls hl => ?_)
  refine lv_iload_n hx hb dX4_phaseOf_6 rfl (lv_at hl 0 rfl) ?_
  refine lv_iconst (v := 2) hx hb dX4_phaseOf_7 (by decide) ?_
  refine lv_irem hx hb dX4_phaseOf_8 (by decide) ?_
  refine lv_if_ne (tgt := 18) hx hb dX4_phaseOf_9 (by decide) (fun c_1 => ?_) (fun c_1 => ?_)
  · skip
    refine lv_iload_n hx hb dX4_phaseOf_18 rfl (lv_at hl 0 rfl) ?_
    refine lv_aload_n hx hb dX4_phaseOf_19 rfl (lv_at hl 1 rfl) ?_
    refine va_get (D := D) (ci := 4) (v := .int (nI M)) (C := RX4) (T := TX4) (N := 16) hx hb hts hi_X4_phaseOf_X4 hown hT.1 hP 0 rfl rfl 2 (by decide) (hts (.fieldLink RX4 16 "SlotStarModel" "phases" "I") (List.mem_of_getElem? (i := 1) rfl)) (fun _ h9 => h9) rfl dX4_phaseOf_20 ?_
    refine lv_iadd hx hb dX4_phaseOf_23 ?_
    refine lv_iconst (v := 2) hx hb dX4_phaseOf_24 (by decide) ?_
    refine lv_idiv hx hb dX4_phaseOf_25 (by decide) ?_
    refine lv_aload_n hx hb dX4_phaseOf_26 rfl (lv_at hl 1 rfl) ?_
    refine va_get (D := D) (ci := 4) (v := .int (nI M)) (C := RX4) (T := TX4) (N := 16) hx hb hts hi_X4_phaseOf_X4 hown hT.1 hP 0 rfl rfl 2 (by decide) (hts (.fieldLink RX4 16 "SlotStarModel" "phases" "I") (List.mem_of_getElem? (i := 1) rfl)) (fun _ h9 => h9) rfl dX4_phaseOf_27 ?_
    refine lv_irem hx hb dX4_phaseOf_30 (nI_ne0 hM.1 (by omega)) ?_
    exact ro_ret hx hb hr hlocks dX4_phaseOf_31 (by first | exact m_ph0 hv c_1 | exact m_ph1 hv c_1)
  · skip
    refine lv_iload_n hx hb dX4_phaseOf_12 rfl (lv_at hl 0 rfl) ?_
    refine lv_iconst (v := 2) hx hb dX4_phaseOf_13 (by decide) ?_
    refine lv_idiv hx hb dX4_phaseOf_14 (by decide) ?_
    refine lv_goto (tgt := 31) hx hb dX4_phaseOf_15 (by decide) ?_
    exact ro_ret hx hb hr hlocks dX4_phaseOf_31 (by first | exact m_ph0 hv c_1 | exact m_ph1 hv c_1)

theorem nd_X4_isForward : okName yX4_isForward 1 := by decide +kernel
set_option maxHeartbeats 4000000 in
set_option maxRecDepth 100000 in
theorem k_X4_isForward (l : Launch) (D : va_G) (cI cZ : ClassId) (aO : Nat) (Q : Nat) (P : Nat) (M : Nat) (Wd : Nat) (aOw : Nat) (aDg : Nat) (aWk : Nat) (aSm : Nat) (aFo : Nat) (aBk : Nat) (fo : Nat) (ba : Nat) (le : Nat) (sf : Nat) (aIm : Nat) (aKp : Nat) (k : Nat) (hv : MV Q P M Wd) (hk : k < 1000) : RO l yX4_isForward wsX4_isForward ({ frames := 4, cells := 0, slots := 0, locals := 86 } : Room) D cI cZ [(aO, .inr (4, [.int (nI Q), .int (nI P), .int (nI M), .int (nI Wd), .ref aOw, .ref aDg, .ref aWk, .ref aSm, .ref aFo, .ref aBk, .int (nI fo), .int (nI ba), .int (nI le), .int (nI sf), .ref aIm, .ref aKp]))] [.ref aO, .int (nI k)] (fwd Q P M k) := by
  refine ro_start (by decide) rfl (Nat.le_of_ble_eq_true rfl) ?_
  intro p e s m args below meth c hx hb hr hml hlocks hts hown hT hP ls hl
  have hown : s.vm.findClass RX4 = some m.cls := hown
  have hl : lv_has ls 2 [(0, .ref aO), (1, .int (nI k))] := hl
  refine lv_aload_n hx hb dX4_isForward_0 rfl (lv_at hl 0 rfl) ?_
  refine lv_iload_n hx hb dX4_isForward_1 rfl (lv_at hl 1 rfl) ?_
  refine ro_V (As := [.int (nI k)]) (rest := []) ⟨hx, hb, hml, hown, hts⟩ hT hP (k_X4_zone l D cI cZ aO Q P M Wd aOw aDg aWk aSm aFo aBk fo ba le sf aIm aKp k hv hk) gX4_isForward_X4_zone rfl rfl nd_X4_zone [0] rfl (ci := 4) rfl rfl (q0 := 0) rfl hl.1 rfl rfl (Nat.le_of_ble_eq_true rfl) ⟨Nat.le_of_ble_eq_true rfl, Nat.le_of_ble_eq_true rfl⟩ ⟨rfl, rfl⟩ ⟨Nat.zero_le _, Nat.zero_le _⟩ dX4_isForward_2 ?_
  refine lv_iconst (v := 2) hx hb dX4_isForward_5 (by decide) ?_
  refine lv_irem hx hb dX4_isForward_6 (by decide) ?_
  refine lv_if_ne (tgt := 14) hx hb dX4_isForward_7 (by decide) (fun c_1 => ?_) (fun c_1 => ?_)
  · skip
    refine lv_iconst (v := 0) hx hb dX4_isForward_14 (by decide) ?_
    exact ro_retz hx hb hr hlocks dX4_isForward_15 (by first | exact m_fwd1 hv c_1 | exact m_fwd0 hv c_1) (by exact fwd01 _ _ _ _)
  · skip
    refine lv_iconst (v := 1) hx hb dX4_isForward_10 (by decide) ?_
    refine lv_goto (tgt := 15) hx hb dX4_isForward_11 (by decide) ?_
    exact ro_retz hx hb hr hlocks dX4_isForward_15 (by first | exact m_fwd1 hv c_1 | exact m_fwd0 hv c_1) (by exact fwd01 _ _ _ _)

set_option maxRecDepth 20000 in
theorem hi_X4_begins_X4 : ∀ w ∈ wsX40, w ∈ wsX4_begins := by
  intro w h
  unfold wsX4_begins
  simp only [List.mem_cons, List.mem_append, h, or_true, true_or]
theorem nd_X4_begins : okName yX4_begins 1 := by decide +kernel
set_option maxHeartbeats 4000000 in
set_option maxRecDepth 100000 in
theorem k_X4_begins (l : Launch) (D : va_G) (cI cZ : ClassId) (aO : Nat) (Q : Nat) (P : Nat) (M : Nat) (Wd : Nat) (aOw : Nat) (aDg : Nat) (aWk : Nat) (aSm : Nat) (aFo : Nat) (aBk : Nat) (fo : Nat) (ba : Nat) (le : Nat) (sf : Nat) (aIm : Nat) (aKp : Nat) (k : Nat) (hv : MV Q P M Wd) (hk : k < Q) : RO l yX4_begins wsX4_begins ({ frames := 0, cells := 0, slots := 0, locals := 0 } : Room) D cI cZ [(aO, .inr (4, [.int (nI Q), .int (nI P), .int (nI M), .int (nI Wd), .ref aOw, .ref aDg, .ref aWk, .ref aSm, .ref aFo, .ref aBk, .int (nI fo), .int (nI ba), .int (nI le), .int (nI sf), .ref aIm, .ref aKp]))] [.ref aO, .int (nI k)] (nI (be Q Wd k)) := by
  refine ro_start (by decide) rfl (Nat.le_of_ble_eq_true rfl) ?_
  intro p e s m args below meth c hx hb hr hml hlocks hts hown hT hP ls hl
  have hown : s.vm.findClass RX4 = some m.cls := hown
  have hl : lv_has ls 2 [(0, .ref aO), (1, .int (nI k))] := hl
  have hv' := hv
  unfold MV at hv'
  refine lv_iload_n hx hb dX4_begins_0 rfl (lv_at hl 1 rfl) ?_
  refine lv_aload_n hx hb dX4_begins_1 rfl (lv_at hl 0 rfl) ?_
  refine va_get (D := D) (ci := 4) (v := .int (nI Q)) (C := RX4) (T := TX4) (N := 16) hx hb hts hi_X4_begins_X4 hown hT.1 hP 0 rfl rfl 0 (by decide) (hts (.fieldLink RX4 7 "SlotStarModel" "slots" "I") (List.mem_of_getElem? (i := 1) rfl)) (fun _ h9 => h9) rfl dX4_begins_2 ?_
  refine lv_iadd hx hb dX4_begins_5 ?_
  refine top_eq (z := (nI (k + Q))) (by exact nI_add _ _) ?_
  refine lv_aload_n hx hb dX4_begins_6 rfl (lv_at hl 0 rfl) ?_
  refine va_get (D := D) (ci := 4) (v := .int (nI Wd)) (C := RX4) (T := TX4) (N := 16) hx hb hts hi_X4_begins_X4 hown hT.1 hP 0 rfl rfl 3 (by decide) (hts (.fieldLink RX4 19 "SlotStarModel" "reach" "I") (List.mem_of_getElem? (i := 2) rfl)) (fun _ h9 => h9) rfl dX4_begins_7 ?_
  refine lv_isub hx hb dX4_begins_10 ?_
  refine top_eq (z := (nI (k + Q - Wd))) (by exact pk_sub (by omega)) ?_
  refine lv_aload_n hx hb dX4_begins_11 rfl (lv_at hl 0 rfl) ?_
  refine va_get (D := D) (ci := 4) (v := .int (nI Q)) (C := RX4) (T := TX4) (N := 16) hx hb hts hi_X4_begins_X4 hown hT.1 hP 0 rfl rfl 0 (by decide) (hts (.fieldLink RX4 7 "SlotStarModel" "slots" "I") (List.mem_of_getElem? (i := 1) rfl)) (fun _ h9 => h9) rfl dX4_begins_12 ?_
  refine lv_irem hx hb dX4_begins_15 (nI_ne0 (by omega) (by omega)) ?_
  exact ro_ret hx hb hr hlocks dX4_begins_16 (by exact pk_rem (by omega) (by omega) (by omega))

set_option maxRecDepth 20000 in
theorem hi_X4_slot_X4 : ∀ w ∈ wsX40, w ∈ wsX4_slot := by
  intro w h
  unfold wsX4_slot
  simp only [List.mem_cons, List.mem_append, h, or_true, true_or]
theorem nd_X4_slot : okName yX4_slot 2 := by decide +kernel
set_option maxHeartbeats 4000000 in
set_option maxRecDepth 100000 in
theorem k_X4_slot (l : Launch) (D : va_G) (cI cZ : ClassId) (aO : Nat) (Q : Nat) (P : Nat) (M : Nat) (Wd : Nat) (aOw : Nat) (aDg : Nat) (aWk : Nat) (aSm : Nat) (aFo : Nat) (aBk : Nat) (fo : Nat) (ba : Nat) (le : Nat) (sf : Nat) (aIm : Nat) (aKp : Nat) (k : Int32) (what : Int32) (hv : MV Q P M Wd) : RO l yX4_slot wsX4_slot ({ frames := 5, cells := 0, slots := 0, locals := 108 } : Room) D cI cZ [(aO, .inr (4, [.int (nI Q), .int (nI P), .int (nI M), .int (nI Wd), .ref aOw, .ref aDg, .ref aWk, .ref aSm, .ref aFo, .ref aBk, .int (nI fo), .int (nI ba), .int (nI le), .int (nI sf), .ref aIm, .ref aKp]))] [.ref aO, .int k, .int what] (sSlot Q P M Wd k what) := by
  refine ro_start (by decide) rfl (Nat.le_of_ble_eq_true rfl) ?_
  intro p e s m args below meth c hx hb hr hml hlocks hts hown hT hP ls hl
  have hown : s.vm.findClass RX4 = some m.cls := hown
  have hl : lv_has ls 3 [(0, .ref aO), (1, .int k), (2, .int what)] := hl
  have hv' := hv
  unfold MV at hv'
  have hn0 := tN_pos hv
  have hn1 := tN_le hv
  refine lv_aload_n hx hb dX4_slot_0 rfl (lv_at hl 0 rfl) ?_
  refine lv_iload_n hx hb dX4_slot_1 rfl (lv_at hl 1 rfl) ?_
  refine ro_V (As := [.int k]) (rest := []) ⟨hx, hb, hml, hown, hts⟩ hT hP (k_X4_isSlot l D cI cZ aO Q P M Wd aOw aDg aWk aSm aFo aBk fo ba le sf aIm aKp k) gX4_slot_X4_isSlot rfl rfl nd_X4_isSlot [0] rfl (ci := 4) rfl rfl (q0 := 0) rfl hl.1 rfl rfl (Nat.le_of_ble_eq_true rfl) ⟨Nat.le_of_ble_eq_true rfl, Nat.le_of_ble_eq_true rfl⟩ ⟨rfl, rfl⟩ ⟨Nat.zero_le _, Nat.zero_le _⟩ dX4_slot_2 ?_
  refine lv_if_ne (tgt := 10) hx hb dX4_slot_5 (by decide) (fun c_1 => ?_) (fun c_1 => ?_)
  · skip
    obtain ⟨k2, hk2, rfl⟩ := jIn_sl (by omega) c_1
    have hcl : cl (nI k2) = k2 := cl_nI (by omega)
    refine lv_iload_n hx hb dX4_slot_10 rfl (lv_at hl 2 rfl) ?_
    refine lv_iconst (v := 0) hx hb dX4_slot_11 (by decide) ?_
    refine lv_bipush (v := 6) hx hb dX4_slot_12 (by decide) ?_
    refine ro_S (As := [.int what, .int 0, .int 6]) (rest := []) ⟨hx, hb, hml, hown, hts⟩ hT hP (k_X4_in l D cI cZ what 0 6) gX4_slot_X4_in rfl nd_X4_in [] rfl hl.1 rfl rfl (Nat.le_of_ble_eq_true rfl) ⟨Nat.le_of_ble_eq_true rfl, Nat.le_of_ble_eq_true rfl⟩ ⟨rfl, rfl⟩ ⟨Nat.zero_le _, Nat.zero_le _⟩ dX4_slot_14 ?_
    refine lv_if_ne (tgt := 23) hx hb dX4_slot_17 (by decide) (fun c_2 => ?_) (fun c_2 => ?_)
    · skip
      refine lv_iload_n hx hb dX4_slot_23 rfl (lv_at hl 2 rfl) ?_
      refine lv_iconst (v := 2) hx hb dX4_slot_24 (by decide) ?_
      refine lv_iconst (v := 4) hx hb dX4_slot_25 (by decide) ?_
      refine ro_S (As := [.int what, .int 2, .int 4]) (rest := []) ⟨hx, hb, hml, hown, hts⟩ hT hP (k_X4_in l D cI cZ what 2 4) gX4_slot_X4_in rfl nd_X4_in [] rfl hl.1 rfl rfl (Nat.le_of_ble_eq_true rfl) ⟨Nat.le_of_ble_eq_true rfl, Nat.le_of_ble_eq_true rfl⟩ ⟨rfl, rfl⟩ ⟨Nat.zero_le _, Nat.zero_le _⟩ dX4_slot_26 ?_
      refine lv_if_eq (tgt := 42) hx hb dX4_slot_29 (by decide) (fun c_3 => ?_) (fun c_3 => ?_)
      · skip
        refine lv_iload_n hx hb dX4_slot_42 rfl (lv_at hl 2 rfl) ?_
        by_cases w_4 : what = 0
        · refine lv_tableIn (off := 37) (tgt := 80) hx hb dX4_slot_43 (by rw [w_4]; decide) (by rw [w_4]; decide) (by rw [w_4]; decide) (by decide) ?_
          refine lv_aload_n hx hb dX4_slot_80 rfl (lv_at hl 0 rfl) ?_
          refine lv_iload_n hx hb dX4_slot_81 rfl (lv_at hl 1 rfl) ?_
          refine ro_V (As := [.int (nI k2)]) (rest := []) ⟨hx, hb, hml, hown, hts⟩ hT hP (k_X4_turn l D cI cZ aO Q P M Wd aOw aDg aWk aSm aFo aBk fo ba le sf aIm aKp k2 hv (by omega)) gX4_slot_X4_turn rfl rfl nd_X4_turn [0] rfl (ci := 4) rfl rfl (q0 := 0) rfl hl.1 rfl rfl (Nat.le_of_ble_eq_true rfl) ⟨Nat.le_of_ble_eq_true rfl, Nat.le_of_ble_eq_true rfl⟩ ⟨rfl, rfl⟩ ⟨Nat.zero_le _, Nat.zero_le _⟩ dX4_slot_82 ?_
          exact ro_ret hx hb hr hlocks dX4_slot_85 (by first | simp [sSlot, c_1, c_2, eq_true c_3, eq_true w_4, hcl, hf1] | simp [sSlot, c_1, c_2, eq_true c_3, eq_true w_4, hcl])
        by_cases w_5 : what = 1
        · refine lv_tableIn (off := 43) (tgt := 86) hx hb dX4_slot_43 (by rw [w_5]; decide) (by rw [w_5]; decide) (by rw [w_5]; decide) (by decide) ?_
          refine lv_iload_n hx hb dX4_slot_86 rfl (lv_at hl 1 rfl) ?_
          refine lv_aload_n hx hb dX4_slot_87 rfl (lv_at hl 0 rfl) ?_
          refine ro_V (As := []) (rest := [.int (nI k2)]) ⟨hx, hb, hml, hown, hts⟩ hT hP (k_X4_star l D cI cZ aO Q P M Wd aOw aDg aWk aSm aFo aBk fo ba le sf aIm aKp hv) gX4_slot_X4_star rfl rfl nd_X4_star [0] rfl (ci := 4) rfl rfl (q0 := 0) rfl hl.1 rfl rfl (Nat.le_of_ble_eq_true rfl) ⟨Nat.le_of_ble_eq_true rfl, Nat.le_of_ble_eq_true rfl⟩ ⟨rfl, rfl⟩ ⟨Nat.zero_le _, Nat.zero_le _⟩ dX4_slot_88 ?_
          refine lv_idiv hx hb dX4_slot_91 (nI_ne0 hn0 (by omega)) ?_
          refine top_eq (z := (nI (k2 / tN Q P))) (by exact pk_div (by omega) hn0 (by omega)) ?_
          exact ro_ret hx hb hr hlocks dX4_slot_92 (by first | simp [sSlot, c_1, c_2, eq_true c_3, w_4, eq_true w_5, hcl, hf1] | simp [sSlot, c_1, c_2, eq_true c_3, w_4, eq_true w_5, hcl])
        by_cases w_6 : what = 2
        · refine lv_tableIn (off := 50) (tgt := 93) hx hb dX4_slot_43 (by rw [w_6]; decide) (by rw [w_6]; decide) (by rw [w_6]; decide) (by decide) ?_
          refine lv_aload_n hx hb dX4_slot_93 rfl (lv_at hl 0 rfl) ?_
          refine lv_iload_n hx hb dX4_slot_94 rfl (lv_at hl 1 rfl) ?_
          refine ro_V (As := [.int (nI k2)]) (rest := []) ⟨hx, hb, hml, hown, hts⟩ hT hP (k_X4_zone l D cI cZ aO Q P M Wd aOw aDg aWk aSm aFo aBk fo ba le sf aIm aKp k2 hv (by omega)) gX4_slot_X4_zone rfl rfl nd_X4_zone [0] rfl (ci := 4) rfl rfl (q0 := 0) rfl hl.1 rfl rfl (Nat.le_of_ble_eq_true rfl) ⟨Nat.le_of_ble_eq_true rfl, Nat.le_of_ble_eq_true rfl⟩ ⟨rfl, rfl⟩ ⟨Nat.zero_le _, Nat.zero_le _⟩ dX4_slot_95 ?_
          exact ro_ret hx hb hr hlocks dX4_slot_98 (by first | simp [sSlot, c_1, c_2, eq_true c_3, w_4, w_5, eq_true w_6, hcl, hf1] | simp [sSlot, c_1, c_2, eq_true c_3, w_4, w_5, eq_true w_6, hcl])
        by_cases w_7 : what = 3
        · refine lv_tableIn (off := 56) (tgt := 99) hx hb dX4_slot_43 (by rw [w_7]; decide) (by rw [w_7]; decide) (by rw [w_7]; decide) (by decide) ?_
          refine lv_aload_n hx hb dX4_slot_99 rfl (lv_at hl 0 rfl) ?_
          refine lv_iload_n hx hb dX4_slot_100 rfl (lv_at hl 1 rfl) ?_
          refine ro_V (As := [.int (nI k2)]) (rest := []) ⟨hx, hb, hml, hown, hts⟩ hT hP (k_X4_phaseOf l D cI cZ aO Q P M Wd aOw aDg aWk aSm aFo aBk fo ba le sf aIm aKp k2 hv (by omega)) gX4_slot_X4_phaseOf rfl rfl nd_X4_phaseOf [0] rfl (ci := 4) rfl rfl (q0 := 0) rfl hl.1 rfl rfl (Nat.le_of_ble_eq_true rfl) ⟨Nat.le_of_ble_eq_true rfl, Nat.le_of_ble_eq_true rfl⟩ ⟨rfl, rfl⟩ ⟨Nat.zero_le _, Nat.zero_le _⟩ dX4_slot_101 ?_
          exact ro_ret hx hb hr hlocks dX4_slot_104 (by first | simp [sSlot, c_1, c_2, eq_true c_3, w_4, w_5, w_6, eq_true w_7, hcl, hf1] | simp [sSlot, c_1, c_2, eq_true c_3, w_4, w_5, w_6, eq_true w_7, hcl])
        by_cases w_8 : what = 4
        · refine lv_tableIn (off := 62) (tgt := 105) hx hb dX4_slot_43 (by rw [w_8]; decide) (by rw [w_8]; decide) (by rw [w_8]; decide) (by decide) ?_
          refine lv_aload_n hx hb dX4_slot_105 rfl (lv_at hl 0 rfl) ?_
          refine lv_iload_n hx hb dX4_slot_106 rfl (lv_at hl 1 rfl) ?_
          refine ro_V (As := [.int (nI k2)]) (rest := []) ⟨hx, hb, hml, hown, hts⟩ hT hP (k_X4_isForward l D cI cZ aO Q P M Wd aOw aDg aWk aSm aFo aBk fo ba le sf aIm aKp k2 hv (by omega)) gX4_slot_X4_isForward rfl rfl nd_X4_isForward [0] rfl (ci := 4) rfl rfl (q0 := 0) rfl hl.1 rfl rfl (Nat.le_of_ble_eq_true rfl) ⟨Nat.le_of_ble_eq_true rfl, Nat.le_of_ble_eq_true rfl⟩ ⟨rfl, rfl⟩ ⟨Nat.zero_le _, Nat.zero_le _⟩ dX4_slot_107 ?_
          refine lv_if_eq (tgt := 117) hx hb dX4_slot_110 (by decide) (fun c_9 => ?_) (fun c_9 => ?_)
          · skip
            have hf1 := c_9
            refine lv_iconst (v := 0) hx hb dX4_slot_117 (by decide) ?_
            exact ro_ret hx hb hr hlocks dX4_slot_118 (by first | simp [sSlot, c_1, c_2, eq_true c_3, w_4, w_5, w_6, w_7, eq_true w_8, eq_true c_9, hcl, hf1] | simp [sSlot, c_1, c_2, eq_true c_3, w_4, w_5, w_6, w_7, eq_true w_8, eq_true c_9, hcl])
          · skip
            have hf1 : fwd Q P M k2 = 1 := (fwd01 _ _ _ _).resolve_left c_9
            refine lv_iconst (v := 1) hx hb dX4_slot_113 (by decide) ?_
            refine lv_goto (tgt := 118) hx hb dX4_slot_114 (by decide) ?_
            exact ro_ret hx hb hr hlocks dX4_slot_118 (by first | simp [sSlot, c_1, c_2, eq_true c_3, w_4, w_5, w_6, w_7, eq_true w_8, c_9, hcl, hf1] | simp [sSlot, c_1, c_2, eq_true c_3, w_4, w_5, w_6, w_7, eq_true w_8, c_9, hcl])
        by_cases w_10 : what = 5
        · refine lv_tableIn (off := 76) (tgt := 119) hx hb dX4_slot_43 (by rw [w_10]; decide) (by rw [w_10]; decide) (by rw [w_10]; decide) (by decide) ?_
          refine lv_iload_n hx hb dX4_slot_119 rfl (lv_at hl 1 rfl) ?_
          refine lv_aload_n hx hb dX4_slot_120 rfl (lv_at hl 0 rfl) ?_
          refine va_get (D := D) (ci := 4) (v := .int (nI Wd)) (C := RX4) (T := TX4) (N := 16) hx hb hts hi_X4_slot_X4 hown hT.1 hP 0 rfl rfl 3 (by decide) (hts (.fieldLink RX4 19 "SlotStarModel" "reach" "I") (List.mem_of_getElem? (i := 1) rfl)) (fun _ h9 => h9) rfl dX4_slot_121 ?_
          refine lv_iadd hx hb dX4_slot_124 ?_
          refine top_eq (z := (nI (k2 + Wd))) (by exact nI_add _ _) ?_
          refine lv_aload_n hx hb dX4_slot_125 rfl (lv_at hl 0 rfl) ?_
          refine va_get (D := D) (ci := 4) (v := .int (nI Q)) (C := RX4) (T := TX4) (N := 16) hx hb hts hi_X4_slot_X4 hown hT.1 hP 0 rfl rfl 0 (by decide) (hts (.fieldLink RX4 7 "SlotStarModel" "slots" "I") (List.mem_of_getElem? (i := 2) rfl)) (fun _ h9 => h9) rfl dX4_slot_126 ?_
          refine lv_irem hx hb dX4_slot_129 (nI_ne0 (by omega) (by omega)) ?_
          refine top_eq (z := (nI (en Q k2 Wd))) (by exact pk_rem (by omega) (by omega) (by omega)) ?_
          exact ro_ret hx hb hr hlocks dX4_slot_130 (by first | simp [sSlot, c_1, c_2, eq_true c_3, w_4, w_5, w_6, w_7, w_8, eq_true w_10, hcl, hf1] | simp [sSlot, c_1, c_2, eq_true c_3, w_4, w_5, w_6, w_7, w_8, eq_true w_10, hcl])
        refine lv_tableOut (tgt := 131) hx hb dX4_slot_43 (sw_out6 w_4 w_5 w_6 w_7 w_8 w_10) (by decide) ?_
        refine lv_aload_n hx hb dX4_slot_131 rfl (lv_at hl 0 rfl) ?_
        refine lv_iload_n hx hb dX4_slot_132 rfl (lv_at hl 1 rfl) ?_
        refine ro_V (As := [.int (nI k2)]) (rest := []) ⟨hx, hb, hml, hown, hts⟩ hT hP (k_X4_begins l D cI cZ aO Q P M Wd aOw aDg aWk aSm aFo aBk fo ba le sf aIm aKp k2 hv (by omega)) gX4_slot_X4_begins rfl rfl nd_X4_begins [0] rfl (ci := 4) rfl rfl (q0 := 0) rfl hl.1 rfl rfl (Nat.le_of_ble_eq_true rfl) ⟨Nat.le_of_ble_eq_true rfl, Nat.le_of_ble_eq_true rfl⟩ ⟨rfl, rfl⟩ ⟨Nat.zero_le _, Nat.zero_le _⟩ dX4_slot_133 ?_
        exact ro_ret hx hb hr hlocks dX4_slot_136 (by first | simp [sSlot, c_1, c_2, eq_true c_3, w_4, w_5, w_6, w_7, w_8, w_10, hcl, hf1] | simp [sSlot, c_1, c_2, eq_true c_3, w_4, w_5, w_6, w_7, w_8, w_10, hcl])
      · skip
        refine lv_aload_n hx hb dX4_slot_32 rfl (lv_at hl 0 rfl) ?_
        refine ro_V (As := []) (rest := []) ⟨hx, hb, hml, hown, hts⟩ hT hP (k_X4_isBalanced l D cI cZ aO Q P M Wd aOw aDg aWk aSm aFo aBk fo ba le sf aIm aKp hv) gX4_slot_X4_isBalanced rfl rfl nd_X4_isBalanced [0] rfl (ci := 4) rfl rfl (q0 := 0) rfl hl.1 rfl rfl (Nat.le_of_ble_eq_true rfl) ⟨Nat.le_of_ble_eq_true rfl, Nat.le_of_ble_eq_true rfl⟩ ⟨rfl, rfl⟩ ⟨Nat.zero_le _, Nat.zero_le _⟩ dX4_slot_33 ?_
        refine lv_if_ne (tgt := 42) hx hb dX4_slot_36 (by decide) (fun c_11 => ?_) (fun c_11 => ?_)
        · skip
          refine lv_iload_n hx hb dX4_slot_42 rfl (lv_at hl 2 rfl) ?_
          by_cases w_12 : what = 0
          · refine lv_tableIn (off := 37) (tgt := 80) hx hb dX4_slot_43 (by rw [w_12]; decide) (by rw [w_12]; decide) (by rw [w_12]; decide) (by decide) ?_
            refine lv_aload_n hx hb dX4_slot_80 rfl (lv_at hl 0 rfl) ?_
            refine lv_iload_n hx hb dX4_slot_81 rfl (lv_at hl 1 rfl) ?_
            refine ro_V (As := [.int (nI k2)]) (rest := []) ⟨hx, hb, hml, hown, hts⟩ hT hP (k_X4_turn l D cI cZ aO Q P M Wd aOw aDg aWk aSm aFo aBk fo ba le sf aIm aKp k2 hv (by omega)) gX4_slot_X4_turn rfl rfl nd_X4_turn [0] rfl (ci := 4) rfl rfl (q0 := 0) rfl hl.1 rfl rfl (Nat.le_of_ble_eq_true rfl) ⟨Nat.le_of_ble_eq_true rfl, Nat.le_of_ble_eq_true rfl⟩ ⟨rfl, rfl⟩ ⟨Nat.zero_le _, Nat.zero_le _⟩ dX4_slot_82 ?_
            exact ro_ret hx hb hr hlocks dX4_slot_85 (by first | simp [sSlot, c_1, c_2, c_3, c_11, eq_true w_12, hcl, hf1] | simp [sSlot, c_1, c_2, c_3, c_11, eq_true w_12, hcl])
          by_cases w_13 : what = 1
          · refine lv_tableIn (off := 43) (tgt := 86) hx hb dX4_slot_43 (by rw [w_13]; decide) (by rw [w_13]; decide) (by rw [w_13]; decide) (by decide) ?_
            refine lv_iload_n hx hb dX4_slot_86 rfl (lv_at hl 1 rfl) ?_
            refine lv_aload_n hx hb dX4_slot_87 rfl (lv_at hl 0 rfl) ?_
            refine ro_V (As := []) (rest := [.int (nI k2)]) ⟨hx, hb, hml, hown, hts⟩ hT hP (k_X4_star l D cI cZ aO Q P M Wd aOw aDg aWk aSm aFo aBk fo ba le sf aIm aKp hv) gX4_slot_X4_star rfl rfl nd_X4_star [0] rfl (ci := 4) rfl rfl (q0 := 0) rfl hl.1 rfl rfl (Nat.le_of_ble_eq_true rfl) ⟨Nat.le_of_ble_eq_true rfl, Nat.le_of_ble_eq_true rfl⟩ ⟨rfl, rfl⟩ ⟨Nat.zero_le _, Nat.zero_le _⟩ dX4_slot_88 ?_
            refine lv_idiv hx hb dX4_slot_91 (nI_ne0 hn0 (by omega)) ?_
            refine top_eq (z := (nI (k2 / tN Q P))) (by exact pk_div (by omega) hn0 (by omega)) ?_
            exact ro_ret hx hb hr hlocks dX4_slot_92 (by first | simp [sSlot, c_1, c_2, c_3, c_11, w_12, eq_true w_13, hcl, hf1] | simp [sSlot, c_1, c_2, c_3, c_11, w_12, eq_true w_13, hcl])
          by_cases w_14 : what = 2
          · refine lv_tableIn (off := 50) (tgt := 93) hx hb dX4_slot_43 (by rw [w_14]; decide) (by rw [w_14]; decide) (by rw [w_14]; decide) (by decide) ?_
            refine lv_aload_n hx hb dX4_slot_93 rfl (lv_at hl 0 rfl) ?_
            refine lv_iload_n hx hb dX4_slot_94 rfl (lv_at hl 1 rfl) ?_
            refine ro_V (As := [.int (nI k2)]) (rest := []) ⟨hx, hb, hml, hown, hts⟩ hT hP (k_X4_zone l D cI cZ aO Q P M Wd aOw aDg aWk aSm aFo aBk fo ba le sf aIm aKp k2 hv (by omega)) gX4_slot_X4_zone rfl rfl nd_X4_zone [0] rfl (ci := 4) rfl rfl (q0 := 0) rfl hl.1 rfl rfl (Nat.le_of_ble_eq_true rfl) ⟨Nat.le_of_ble_eq_true rfl, Nat.le_of_ble_eq_true rfl⟩ ⟨rfl, rfl⟩ ⟨Nat.zero_le _, Nat.zero_le _⟩ dX4_slot_95 ?_
            exact ro_ret hx hb hr hlocks dX4_slot_98 (by first | simp [sSlot, c_1, c_2, c_3, c_11, w_12, w_13, eq_true w_14, hcl, hf1] | simp [sSlot, c_1, c_2, c_3, c_11, w_12, w_13, eq_true w_14, hcl])
          by_cases w_15 : what = 3
          · refine lv_tableIn (off := 56) (tgt := 99) hx hb dX4_slot_43 (by rw [w_15]; decide) (by rw [w_15]; decide) (by rw [w_15]; decide) (by decide) ?_
            refine lv_aload_n hx hb dX4_slot_99 rfl (lv_at hl 0 rfl) ?_
            refine lv_iload_n hx hb dX4_slot_100 rfl (lv_at hl 1 rfl) ?_
            refine ro_V (As := [.int (nI k2)]) (rest := []) ⟨hx, hb, hml, hown, hts⟩ hT hP (k_X4_phaseOf l D cI cZ aO Q P M Wd aOw aDg aWk aSm aFo aBk fo ba le sf aIm aKp k2 hv (by omega)) gX4_slot_X4_phaseOf rfl rfl nd_X4_phaseOf [0] rfl (ci := 4) rfl rfl (q0 := 0) rfl hl.1 rfl rfl (Nat.le_of_ble_eq_true rfl) ⟨Nat.le_of_ble_eq_true rfl, Nat.le_of_ble_eq_true rfl⟩ ⟨rfl, rfl⟩ ⟨Nat.zero_le _, Nat.zero_le _⟩ dX4_slot_101 ?_
            exact ro_ret hx hb hr hlocks dX4_slot_104 (by first | simp [sSlot, c_1, c_2, c_3, c_11, w_12, w_13, w_14, eq_true w_15, hcl, hf1] | simp [sSlot, c_1, c_2, c_3, c_11, w_12, w_13, w_14, eq_true w_15, hcl])
          by_cases w_16 : what = 4
          · refine lv_tableIn (off := 62) (tgt := 105) hx hb dX4_slot_43 (by rw [w_16]; decide) (by rw [w_16]; decide) (by rw [w_16]; decide) (by decide) ?_
            refine lv_aload_n hx hb dX4_slot_105 rfl (lv_at hl 0 rfl) ?_
            refine lv_iload_n hx hb dX4_slot_106 rfl (lv_at hl 1 rfl) ?_
            refine ro_V (As := [.int (nI k2)]) (rest := []) ⟨hx, hb, hml, hown, hts⟩ hT hP (k_X4_isForward l D cI cZ aO Q P M Wd aOw aDg aWk aSm aFo aBk fo ba le sf aIm aKp k2 hv (by omega)) gX4_slot_X4_isForward rfl rfl nd_X4_isForward [0] rfl (ci := 4) rfl rfl (q0 := 0) rfl hl.1 rfl rfl (Nat.le_of_ble_eq_true rfl) ⟨Nat.le_of_ble_eq_true rfl, Nat.le_of_ble_eq_true rfl⟩ ⟨rfl, rfl⟩ ⟨Nat.zero_le _, Nat.zero_le _⟩ dX4_slot_107 ?_
            refine lv_if_eq (tgt := 117) hx hb dX4_slot_110 (by decide) (fun c_17 => ?_) (fun c_17 => ?_)
            · skip
              have hf1 := c_17
              refine lv_iconst (v := 0) hx hb dX4_slot_117 (by decide) ?_
              exact ro_ret hx hb hr hlocks dX4_slot_118 (by first | simp [sSlot, c_1, c_2, c_3, c_11, w_12, w_13, w_14, w_15, eq_true w_16, eq_true c_17, hcl, hf1] | simp [sSlot, c_1, c_2, c_3, c_11, w_12, w_13, w_14, w_15, eq_true w_16, eq_true c_17, hcl])
            · skip
              have hf1 : fwd Q P M k2 = 1 := (fwd01 _ _ _ _).resolve_left c_17
              refine lv_iconst (v := 1) hx hb dX4_slot_113 (by decide) ?_
              refine lv_goto (tgt := 118) hx hb dX4_slot_114 (by decide) ?_
              exact ro_ret hx hb hr hlocks dX4_slot_118 (by first | simp [sSlot, c_1, c_2, c_3, c_11, w_12, w_13, w_14, w_15, eq_true w_16, c_17, hcl, hf1] | simp [sSlot, c_1, c_2, c_3, c_11, w_12, w_13, w_14, w_15, eq_true w_16, c_17, hcl])
          by_cases w_18 : what = 5
          · refine lv_tableIn (off := 76) (tgt := 119) hx hb dX4_slot_43 (by rw [w_18]; decide) (by rw [w_18]; decide) (by rw [w_18]; decide) (by decide) ?_
            refine lv_iload_n hx hb dX4_slot_119 rfl (lv_at hl 1 rfl) ?_
            refine lv_aload_n hx hb dX4_slot_120 rfl (lv_at hl 0 rfl) ?_
            refine va_get (D := D) (ci := 4) (v := .int (nI Wd)) (C := RX4) (T := TX4) (N := 16) hx hb hts hi_X4_slot_X4 hown hT.1 hP 0 rfl rfl 3 (by decide) (hts (.fieldLink RX4 19 "SlotStarModel" "reach" "I") (List.mem_of_getElem? (i := 1) rfl)) (fun _ h9 => h9) rfl dX4_slot_121 ?_
            refine lv_iadd hx hb dX4_slot_124 ?_
            refine top_eq (z := (nI (k2 + Wd))) (by exact nI_add _ _) ?_
            refine lv_aload_n hx hb dX4_slot_125 rfl (lv_at hl 0 rfl) ?_
            refine va_get (D := D) (ci := 4) (v := .int (nI Q)) (C := RX4) (T := TX4) (N := 16) hx hb hts hi_X4_slot_X4 hown hT.1 hP 0 rfl rfl 0 (by decide) (hts (.fieldLink RX4 7 "SlotStarModel" "slots" "I") (List.mem_of_getElem? (i := 2) rfl)) (fun _ h9 => h9) rfl dX4_slot_126 ?_
            refine lv_irem hx hb dX4_slot_129 (nI_ne0 (by omega) (by omega)) ?_
            refine top_eq (z := (nI (en Q k2 Wd))) (by exact pk_rem (by omega) (by omega) (by omega)) ?_
            exact ro_ret hx hb hr hlocks dX4_slot_130 (by first | simp [sSlot, c_1, c_2, c_3, c_11, w_12, w_13, w_14, w_15, w_16, eq_true w_18, hcl, hf1] | simp [sSlot, c_1, c_2, c_3, c_11, w_12, w_13, w_14, w_15, w_16, eq_true w_18, hcl])
          refine lv_tableOut (tgt := 131) hx hb dX4_slot_43 (sw_out6 w_12 w_13 w_14 w_15 w_16 w_18) (by decide) ?_
          refine lv_aload_n hx hb dX4_slot_131 rfl (lv_at hl 0 rfl) ?_
          refine lv_iload_n hx hb dX4_slot_132 rfl (lv_at hl 1 rfl) ?_
          refine ro_V (As := [.int (nI k2)]) (rest := []) ⟨hx, hb, hml, hown, hts⟩ hT hP (k_X4_begins l D cI cZ aO Q P M Wd aOw aDg aWk aSm aFo aBk fo ba le sf aIm aKp k2 hv (by omega)) gX4_slot_X4_begins rfl rfl nd_X4_begins [0] rfl (ci := 4) rfl rfl (q0 := 0) rfl hl.1 rfl rfl (Nat.le_of_ble_eq_true rfl) ⟨Nat.le_of_ble_eq_true rfl, Nat.le_of_ble_eq_true rfl⟩ ⟨rfl, rfl⟩ ⟨Nat.zero_le _, Nat.zero_le _⟩ dX4_slot_133 ?_
          exact ro_ret hx hb hr hlocks dX4_slot_136 (by first | simp [sSlot, c_1, c_2, c_3, c_11, w_12, w_13, w_14, w_15, w_16, w_18, hcl, hf1] | simp [sSlot, c_1, c_2, c_3, c_11, w_12, w_13, w_14, w_15, w_16, w_18, hcl])
        · skip
          refine lv_bipush (v := (-3)) hx hb dX4_slot_39 (by decide) ?_
          exact ro_ret hx hb hr hlocks dX4_slot_41 (by first | simp [sSlot, c_1, c_2, c_3, eq_true c_11, hcl, hf1] | simp [sSlot, c_1, c_2, c_3, eq_true c_11, hcl])
    · skip
      refine lv_bipush (v := (-2)) hx hb dX4_slot_20 (by decide) ?_
      exact ro_ret hx hb hr hlocks dX4_slot_22 (by first | simp [sSlot, c_1, eq_true c_2, hcl, hf1] | simp [sSlot, c_1, eq_true c_2, hcl])
  · skip
    refine lv_iconst (v := (-1)) hx hb dX4_slot_8 (by decide) ?_
    exact ro_ret hx hb hr hlocks dX4_slot_9 (by simp [sSlot, eq_true c_1])

set_option maxRecDepth 20000 in
theorem hi_X4_phase_X4 : ∀ w ∈ wsX40, w ∈ wsX4_phase := by
  intro w h
  unfold wsX4_phase
  simp only [List.mem_cons, List.mem_append, h, or_true, true_or]
theorem nd_X4_phase : okName yX4_phase 2 := by decide +kernel
set_option maxHeartbeats 4000000 in
set_option maxRecDepth 100000 in
theorem k_X4_phase (l : Launch) (D : va_G) (cI cZ : ClassId) (aO : Nat) (Q : Nat) (P : Nat) (M : Nat) (Wd : Nat) (aOw : Nat) (aDg : Nat) (aWk : Nat) (aSm : Nat) (aFo : Nat) (aBk : Nat) (fo : Nat) (ba : Nat) (le : Nat) (sf : Nat) (aIm : Nat) (aKp : Nat) (a : Int32) (what : Int32) (hv : MV Q P M Wd) : RO l yX4_phase wsX4_phase ({ frames := 5, cells := 0, slots := 0, locals := 108 } : Room) D cI cZ [(aO, .inr (4, [.int (nI Q), .int (nI P), .int (nI M), .int (nI Wd), .ref aOw, .ref aDg, .ref aWk, .ref aSm, .ref aFo, .ref aBk, .int (nI fo), .int (nI ba), .int (nI le), .int (nI sf), .ref aIm, .ref aKp]))] [.ref aO, .int a, .int what] (sPhase Q P M a what) := by
  refine ro_start (by decide) rfl (Nat.le_of_ble_eq_true rfl) ?_
  intro p e s m args below meth c hx hb hr hml hlocks hts hown hT hP ls hl
  have hown : s.vm.findClass RX4 = some m.cls := hown
  have hl : lv_has ls 5 [(0, .ref aO), (1, .int a), (2, .int what)] := hl
  have hv' := hv
  unfold MV at hv'
  refine lv_aload_n hx hb dX4_phase_0 rfl (lv_at hl 0 rfl) ?_
  refine lv_iload_n hx hb dX4_phase_1 rfl (lv_at hl 1 rfl) ?_
  refine ro_V (As := [.int a]) (rest := []) ⟨hx, hb, hml, hown, hts⟩ hT hP (k_X4_isPhase l D cI cZ aO Q P M Wd aOw aDg aWk aSm aFo aBk fo ba le sf aIm aKp a) gX4_phase_X4_isPhase rfl rfl nd_X4_isPhase [0] rfl (ci := 4) rfl rfl (q0 := 0) rfl hl.1 rfl rfl (Nat.le_of_ble_eq_true rfl) ⟨Nat.le_of_ble_eq_true rfl, Nat.le_of_ble_eq_true rfl⟩ ⟨rfl, rfl⟩ ⟨Nat.zero_le _, Nat.zero_le _⟩ dX4_phase_2 ?_
  refine lv_if_ne (tgt := 10) hx hb dX4_phase_5 (by decide) (fun c_1 => ?_) (fun c_1 => ?_)
  · skip
    refine lv_iload_n hx hb dX4_phase_10 rfl (lv_at hl 2 rfl) ?_
    refine lv_iconst (v := 0) hx hb dX4_phase_11 (by decide) ?_
    refine lv_iconst (v := 2) hx hb dX4_phase_12 (by decide) ?_
    refine ro_S (As := [.int what, .int 0, .int 2]) (rest := []) ⟨hx, hb, hml, hown, hts⟩ hT hP (k_X4_in l D cI cZ what 0 2) gX4_phase_X4_in rfl nd_X4_in [] rfl hl.1 rfl rfl (Nat.le_of_ble_eq_true rfl) ⟨Nat.le_of_ble_eq_true rfl, Nat.le_of_ble_eq_true rfl⟩ ⟨rfl, rfl⟩ ⟨Nat.zero_le _, Nat.zero_le _⟩ dX4_phase_13 ?_
    refine lv_if_ne (tgt := 22) hx hb dX4_phase_16 (by decide) (fun c_2 => ?_) (fun c_2 => ?_)
    · skip
      refine lv_aload_n hx hb dX4_phase_22 rfl (lv_at hl 0 rfl) ?_
      refine ro_V (As := []) (rest := []) ⟨hx, hb, hml, hown, hts⟩ hT hP (k_X4_isBalanced l D cI cZ aO Q P M Wd aOw aDg aWk aSm aFo aBk fo ba le sf aIm aKp hv) gX4_phase_X4_isBalanced rfl rfl nd_X4_isBalanced [0] rfl (ci := 4) rfl rfl (q0 := 0) rfl hl.1 rfl rfl (Nat.le_of_ble_eq_true rfl) ⟨Nat.le_of_ble_eq_true rfl, Nat.le_of_ble_eq_true rfl⟩ ⟨rfl, rfl⟩ ⟨Nat.zero_le _, Nat.zero_le _⟩ dX4_phase_23 ?_
      refine lv_if_ne (tgt := 32) hx hb dX4_phase_26 (by decide) (fun c_3 => ?_) (fun c_3 => ?_)
      · skip
        refine lv_iconst (v := 0) hx hb dX4_phase_32 (by decide) ?_
        refine lv_istore_n (lv' := [(3, .int 0), (0, .ref aO), (1, .int a), (2, .int what)]) hx hb dX4_phase_33 rfl hl (by decide) rfl (fun ls hl => ?_)
        refine lv_iconst (v := 0) hx hb dX4_phase_34 (by decide) ?_
        refine lv_istore (lv' := [(4, .int 0), (3, .int 0), (0, .ref aO), (1, .int a), (2, .int what)]) hx hb dX4_phase_35 hl (by decide) rfl (fun ls hl => ?_)
        have L_37 : ∀ (f : Nat) (i : Nat) (n : Int32), i + f = Q → mpL Q P M a what Q 0 0 = mpL Q P M a what f i n → ∀ ls : Array Slot, lv_has ls 5 [(0, .ref aO), (1, .int a), (2, .int what), (3, .int n), (4, .int (nI i))] → W p l e (headSpec wsX4_phase ({ frames := 5, cells := 0, slots := 0, locals := 108 } : Room)).room s m args below meth c s.heap [] 0 0 (MQ below (QcRead (sPhase Q P M a what)) args s 0 0 (fun _ => False)) (F0 m 37 ls []) := by
          intro f
          induction f with
          | zero =>
            intro i n h1 h2 ls hl
            refine lv_iload hx hb dX4_phase_37 (lv_at hl 4 rfl) ?_
            refine lv_aload_n hx hb dX4_phase_39 rfl (lv_at hl 0 rfl) ?_
            refine va_get (D := D) (ci := 4) (v := .int (nI Q)) (C := RX4) (T := TX4) (N := 16) hx hb hts hi_X4_phase_X4 hown hT.1 hP 0 rfl rfl 0 (by decide) (hts (.fieldLink RX4 7 "SlotStarModel" "slots" "I") (List.mem_of_getElem? (i := 1) rfl)) (fun _ h9 => h9) rfl dX4_phase_40 ?_
            refine lv_icmp_ge (tgt := 93) hx hb dX4_phase_43 (by decide) (fun c_4 => ?_) (fun c_4 => ?_)
            · skip
              refine lv_iload_n hx hb dX4_phase_93 rfl (lv_at hl 3 rfl) ?_
              exact ro_ret hx hb hr hlocks dX4_phase_94 (by rw [← m_phase c_1 c_2 c_3, h2]; rfl)
            · exfalso; exact c_4 (nI_le (by omega) (by omega))
          | succ f ih_37 =>
            intro i n h1 h2 ls hl
            refine lv_iload hx hb dX4_phase_37 (lv_at hl 4 rfl) ?_
            refine lv_aload_n hx hb dX4_phase_39 rfl (lv_at hl 0 rfl) ?_
            refine va_get (D := D) (ci := 4) (v := .int (nI Q)) (C := RX4) (T := TX4) (N := 16) hx hb hts hi_X4_phase_X4 hown hT.1 hP 0 rfl rfl 0 (by decide) (hts (.fieldLink RX4 7 "SlotStarModel" "slots" "I") (List.mem_of_getElem? (i := 1) rfl)) (fun _ h9 => h9) rfl dX4_phase_40 ?_
            refine lv_icmp_ge (tgt := 93) hx hb dX4_phase_43 (by decide) (fun c_5 => ?_) (fun c_5 => ?_)
            · exfalso; exact nI_ge (show i < Q by omega) (by omega) c_5
            · skip
              refine lv_iload_n hx hb dX4_phase_46 rfl (lv_at hl 3 rfl) ?_
              refine lv_aload_n hx hb dX4_phase_47 rfl (lv_at hl 0 rfl) ?_
              refine lv_iload hx hb dX4_phase_48 (lv_at hl 4 rfl) ?_
              refine ro_V (As := [.int (nI i)]) (rest := [.int n]) ⟨hx, hb, hml, hown, hts⟩ hT hP (k_X4_phaseOf l D cI cZ aO Q P M Wd aOw aDg aWk aSm aFo aBk fo ba le sf aIm aKp i hv (by omega)) gX4_phase_X4_phaseOf rfl rfl nd_X4_phaseOf [0] rfl (ci := 4) rfl rfl (q0 := 0) rfl hl.1 rfl rfl (Nat.le_of_ble_eq_true rfl) ⟨Nat.le_of_ble_eq_true rfl, Nat.le_of_ble_eq_true rfl⟩ ⟨rfl, rfl⟩ ⟨Nat.zero_le _, Nat.zero_le _⟩ dX4_phase_50 ?_
              refine lv_iload_n hx hb dX4_phase_53 rfl (lv_at hl 1 rfl) ?_
              refine lv_icmp_ne (tgt := 84) hx hb dX4_phase_54 (by decide) (fun c_6 => ?_) (fun c_6 => ?_)
              · skip
                refine lv_iconst (v := 0) hx hb dX4_phase_84 (by decide) ?_
                refine lv_iadd hx hb dX4_phase_85 ?_
                refine lv_istore_n (lv' := [(3, .int (n + 0)), (0, .ref aO), (1, .int a), (2, .int what), (4, .int (nI i))]) hx hb dX4_phase_86 rfl hl (by decide) rfl (fun ls hl => ?_)
                refine lv_iinc (v := nI (i + 1)) (lv' := [(4, .int (nI (i + 1))), (3, .int (n + 0)), (0, .ref aO), (1, .int a), (2, .int what)]) hx hb dX4_phase_87 hl (k := 4) rfl ((nI_succ i).symm) (by decide) rfl (fun ls hl => ?_)
                refine lv_goto (tgt := 37) hx hb dX4_phase_90 (by decide) ?_
                exact ih_37 (i + 1) (n + 0) (by omega) (by rw [h2]; simp [mpL, c_1, c_2, c_3, c_5, c_6]) ls (lv_sub hl [2, 3, 4, 1, 0] rfl)
              · skip
                refine lv_iload_n hx hb dX4_phase_57 rfl (lv_at hl 2 rfl) ?_
                refine lv_if_eq (tgt := 80) hx hb dX4_phase_58 (by decide) (fun c_7 => ?_) (fun c_7 => ?_)
                · skip
                  refine lv_iconst (v := 1) hx hb dX4_phase_80 (by decide) ?_
                  refine lv_goto (tgt := 85) hx hb dX4_phase_81 (by decide) ?_
                  refine lv_iadd hx hb dX4_phase_85 ?_
                  refine lv_istore_n (lv' := [(3, .int (n + 1)), (0, .ref aO), (1, .int a), (2, .int what), (4, .int (nI i))]) hx hb dX4_phase_86 rfl hl (by decide) rfl (fun ls hl => ?_)
                  refine lv_iinc (v := nI (i + 1)) (lv' := [(4, .int (nI (i + 1))), (3, .int (n + 1)), (0, .ref aO), (1, .int a), (2, .int what)]) hx hb dX4_phase_87 hl (k := 4) rfl ((nI_succ i).symm) (by decide) rfl (fun ls hl => ?_)
                  refine lv_goto (tgt := 37) hx hb dX4_phase_90 (by decide) ?_
                  exact ih_37 (i + 1) (n + 1) (by omega) (by rw [h2]; simp [mpL, c_1, c_2, c_3, c_5, eq_true c_6, eq_true c_7]) ls (lv_sub hl [2, 3, 4, 1, 0] rfl)
                · skip
                  refine lv_aload_n hx hb dX4_phase_61 rfl (lv_at hl 0 rfl) ?_
                  refine lv_iload hx hb dX4_phase_62 (lv_at hl 4 rfl) ?_
                  refine ro_V (As := [.int (nI i)]) (rest := [.int n]) ⟨hx, hb, hml, hown, hts⟩ hT hP (k_X4_isForward l D cI cZ aO Q P M Wd aOw aDg aWk aSm aFo aBk fo ba le sf aIm aKp i hv (by omega)) gX4_phase_X4_isForward rfl rfl nd_X4_isForward [0] rfl (ci := 4) rfl rfl (q0 := 0) rfl hl.1 rfl rfl (Nat.le_of_ble_eq_true rfl) ⟨Nat.le_of_ble_eq_true rfl, Nat.le_of_ble_eq_true rfl⟩ ⟨rfl, rfl⟩ ⟨Nat.zero_le _, Nat.zero_le _⟩ dX4_phase_64 ?_
                  refine lv_iload_n hx hb dX4_phase_67 rfl (lv_at hl 2 rfl) ?_
                  refine lv_iconst (v := 1) hx hb dX4_phase_68 (by decide) ?_
                  refine lv_icmp_ne (tgt := 76) hx hb dX4_phase_69 (by decide) (fun c_8 => ?_) (fun c_8 => ?_)
                  · skip
                    refine lv_iconst (v := 0) hx hb dX4_phase_76 (by decide) ?_
                    refine lv_icmp_ne (tgt := 84) hx hb dX4_phase_77 (by decide) (fun c_9 => ?_) (fun c_9 => ?_)
                    · skip
                      refine lv_iconst (v := 0) hx hb dX4_phase_84 (by decide) ?_
                      refine lv_iadd hx hb dX4_phase_85 ?_
                      refine lv_istore_n (lv' := [(3, .int (n + 0)), (0, .ref aO), (1, .int a), (2, .int what), (4, .int (nI i))]) hx hb dX4_phase_86 rfl hl (by decide) rfl (fun ls hl => ?_)
                      refine lv_iinc (v := nI (i + 1)) (lv' := [(4, .int (nI (i + 1))), (3, .int (n + 0)), (0, .ref aO), (1, .int a), (2, .int what)]) hx hb dX4_phase_87 hl (k := 4) rfl ((nI_succ i).symm) (by decide) rfl (fun ls hl => ?_)
                      refine lv_goto (tgt := 37) hx hb dX4_phase_90 (by decide) ?_
                      exact ih_37 (i + 1) (n + 0) (by omega) (by rw [h2]; simp [mpL, c_1, c_2, c_3, c_5, eq_true c_6, c_7, c_8, c_9]) ls (lv_sub hl [2, 3, 4, 1, 0] rfl)
                    · skip
                      refine lv_iconst (v := 1) hx hb dX4_phase_80 (by decide) ?_
                      refine lv_goto (tgt := 85) hx hb dX4_phase_81 (by decide) ?_
                      refine lv_iadd hx hb dX4_phase_85 ?_
                      refine lv_istore_n (lv' := [(3, .int (n + 1)), (0, .ref aO), (1, .int a), (2, .int what), (4, .int (nI i))]) hx hb dX4_phase_86 rfl hl (by decide) rfl (fun ls hl => ?_)
                      refine lv_iinc (v := nI (i + 1)) (lv' := [(4, .int (nI (i + 1))), (3, .int (n + 1)), (0, .ref aO), (1, .int a), (2, .int what)]) hx hb dX4_phase_87 hl (k := 4) rfl ((nI_succ i).symm) (by decide) rfl (fun ls hl => ?_)
                      refine lv_goto (tgt := 37) hx hb dX4_phase_90 (by decide) ?_
                      exact ih_37 (i + 1) (n + 1) (by omega) (by rw [h2]; simp [mpL, c_1, c_2, c_3, c_5, eq_true c_6, c_7, c_8, eq_true c_9]) ls (lv_sub hl [2, 3, 4, 1, 0] rfl)
                  · skip
                    refine lv_iconst (v := 1) hx hb dX4_phase_72 (by decide) ?_
                    refine lv_goto (tgt := 77) hx hb dX4_phase_73 (by decide) ?_
                    refine lv_icmp_ne (tgt := 84) hx hb dX4_phase_77 (by decide) (fun c_10 => ?_) (fun c_10 => ?_)
                    · skip
                      refine lv_iconst (v := 0) hx hb dX4_phase_84 (by decide) ?_
                      refine lv_iadd hx hb dX4_phase_85 ?_
                      refine lv_istore_n (lv' := [(3, .int (n + 0)), (0, .ref aO), (1, .int a), (2, .int what), (4, .int (nI i))]) hx hb dX4_phase_86 rfl hl (by decide) rfl (fun ls hl => ?_)
                      refine lv_iinc (v := nI (i + 1)) (lv' := [(4, .int (nI (i + 1))), (3, .int (n + 0)), (0, .ref aO), (1, .int a), (2, .int what)]) hx hb dX4_phase_87 hl (k := 4) rfl ((nI_succ i).symm) (by decide) rfl (fun ls hl => ?_)
                      refine lv_goto (tgt := 37) hx hb dX4_phase_90 (by decide) ?_
                      exact ih_37 (i + 1) (n + 0) (by omega) (by rw [h2]; simp [mpL, c_1, c_2, c_3, c_5, eq_true c_6, c_7, eq_true c_8, c_10]) ls (lv_sub hl [2, 3, 4, 1, 0] rfl)
                    · skip
                      refine lv_iconst (v := 1) hx hb dX4_phase_80 (by decide) ?_
                      refine lv_goto (tgt := 85) hx hb dX4_phase_81 (by decide) ?_
                      refine lv_iadd hx hb dX4_phase_85 ?_
                      refine lv_istore_n (lv' := [(3, .int (n + 1)), (0, .ref aO), (1, .int a), (2, .int what), (4, .int (nI i))]) hx hb dX4_phase_86 rfl hl (by decide) rfl (fun ls hl => ?_)
                      refine lv_iinc (v := nI (i + 1)) (lv' := [(4, .int (nI (i + 1))), (3, .int (n + 1)), (0, .ref aO), (1, .int a), (2, .int what)]) hx hb dX4_phase_87 hl (k := 4) rfl ((nI_succ i).symm) (by decide) rfl (fun ls hl => ?_)
                      refine lv_goto (tgt := 37) hx hb dX4_phase_90 (by decide) ?_
                      exact ih_37 (i + 1) (n + 1) (by omega) (by rw [h2]; simp [mpL, c_1, c_2, c_3, c_5, eq_true c_6, c_7, eq_true c_8, eq_true c_10]) ls (lv_sub hl [2, 3, 4, 1, 0] rfl)
        exact L_37 Q 0 0 (by omega) rfl ls (lv_sub hl [2, 3, 4, 1, 0] rfl)
      · skip
        refine lv_bipush (v := (-3)) hx hb dX4_phase_29 (by decide) ?_
        exact ro_ret hx hb hr hlocks dX4_phase_31 (by simp [sPhase, c_1, c_2, eq_true c_3])
    · skip
      refine lv_bipush (v := (-2)) hx hb dX4_phase_19 (by decide) ?_
      exact ro_ret hx hb hr hlocks dX4_phase_21 (by simp [sPhase, c_1, eq_true c_2])
  · skip
    refine lv_iconst (v := (-1)) hx hb dX4_phase_8 (by decide) ?_
    exact ro_ret hx hb hr hlocks dX4_phase_9 (by simp [sPhase, eq_true c_1])

theorem nd_X4_layer : okName yX4_layer 2 := by decide +kernel
set_option maxHeartbeats 4000000 in
set_option maxRecDepth 100000 in
theorem k_X4_layer (l : Launch) (D : va_G) (cI cZ : ClassId) (aO : Nat) (Q : Nat) (P : Nat) (M : Nat) (Wd : Nat) (aOw : Nat) (aDg : Nat) (aWk : Nat) (aSm : Nat) (aFo : Nat) (aBk : Nat) (fo : Nat) (ba : Nat) (le : Nat) (sf : Nat) (aIm : Nat) (aKp : Nat) (k : Int32) (layer : Int32) (hv : MV Q P M Wd) : RO l yX4_layer wsX4_layer ({ frames := 5, cells := 0, slots := 0, locals := 108 } : Room) D cI cZ [(aO, .inr (4, [.int (nI Q), .int (nI P), .int (nI M), .int (nI Wd), .ref aOw, .ref aDg, .ref aWk, .ref aSm, .ref aFo, .ref aBk, .int (nI fo), .int (nI ba), .int (nI le), .int (nI sf), .ref aIm, .ref aKp]))] [.ref aO, .int k, .int layer] (sLayer Q P M Wd k layer) := by
  refine ro_start (by decide) rfl (Nat.le_of_ble_eq_true rfl) ?_
  intro p e s m args below meth c hx hb hr hml hlocks hts hown hT hP ls hl
  have hown : s.vm.findClass RX4 = some m.cls := hown
  have hl : lv_has ls 4 [(0, .ref aO), (1, .int k), (2, .int layer)] := hl
  have hv' := hv
  unfold MV at hv'
  refine lv_aload_n hx hb dX4_layer_0 rfl (lv_at hl 0 rfl) ?_
  refine lv_iload_n hx hb dX4_layer_1 rfl (lv_at hl 1 rfl) ?_
  refine ro_V (As := [.int k]) (rest := []) ⟨hx, hb, hml, hown, hts⟩ hT hP (k_X4_isSlot l D cI cZ aO Q P M Wd aOw aDg aWk aSm aFo aBk fo ba le sf aIm aKp k) gX4_layer_X4_isSlot rfl rfl nd_X4_isSlot [0] rfl (ci := 4) rfl rfl (q0 := 0) rfl hl.1 rfl rfl (Nat.le_of_ble_eq_true rfl) ⟨Nat.le_of_ble_eq_true rfl, Nat.le_of_ble_eq_true rfl⟩ ⟨rfl, rfl⟩ ⟨Nat.zero_le _, Nat.zero_le _⟩ dX4_layer_2 ?_
  refine lv_if_ne (tgt := 10) hx hb dX4_layer_5 (by decide) (fun c_1 => ?_) (fun c_1 => ?_)
  · skip
    obtain ⟨k2, hk2, rfl⟩ := jIn_sl (by omega) c_1
    have hcl : cl (nI k2) = k2 := cl_nI (by omega)
    have hbe : be Q Wd k2 < 1000 := Nat.lt_of_lt_of_le (Nat.mod_lt _ (by omega)) (by omega)
    refine lv_iload_n hx hb dX4_layer_10 rfl (lv_at hl 2 rfl) ?_
    refine lv_iconst (v := 0) hx hb dX4_layer_11 (by decide) ?_
    refine lv_iconst (v := 1) hx hb dX4_layer_12 (by decide) ?_
    refine ro_S (As := [.int layer, .int 0, .int 1]) (rest := []) ⟨hx, hb, hml, hown, hts⟩ hT hP (k_X4_in l D cI cZ layer 0 1) gX4_layer_X4_in rfl nd_X4_in [] rfl hl.1 rfl rfl (Nat.le_of_ble_eq_true rfl) ⟨Nat.le_of_ble_eq_true rfl, Nat.le_of_ble_eq_true rfl⟩ ⟨rfl, rfl⟩ ⟨Nat.zero_le _, Nat.zero_le _⟩ dX4_layer_13 ?_
    refine lv_if_ne (tgt := 22) hx hb dX4_layer_16 (by decide) (fun c_2 => ?_) (fun c_2 => ?_)
    · skip
      refine lv_aload_n hx hb dX4_layer_22 rfl (lv_at hl 0 rfl) ?_
      refine ro_V (As := []) (rest := []) ⟨hx, hb, hml, hown, hts⟩ hT hP (k_X4_isBalanced l D cI cZ aO Q P M Wd aOw aDg aWk aSm aFo aBk fo ba le sf aIm aKp hv) gX4_layer_X4_isBalanced rfl rfl nd_X4_isBalanced [0] rfl (ci := 4) rfl rfl (q0 := 0) rfl hl.1 rfl rfl (Nat.le_of_ble_eq_true rfl) ⟨Nat.le_of_ble_eq_true rfl, Nat.le_of_ble_eq_true rfl⟩ ⟨rfl, rfl⟩ ⟨Nat.zero_le _, Nat.zero_le _⟩ dX4_layer_23 ?_
      refine lv_if_ne (tgt := 32) hx hb dX4_layer_26 (by decide) (fun c_3 => ?_) (fun c_3 => ?_)
      · skip
        refine lv_iload_n hx hb dX4_layer_32 rfl (lv_at hl 2 rfl) ?_
        refine lv_if_ne (tgt := 40) hx hb dX4_layer_33 (by decide) (fun c_4 => ?_) (fun c_4 => ?_)
        · skip
          refine lv_aload_n hx hb dX4_layer_40 rfl (lv_at hl 0 rfl) ?_
          refine lv_iload_n hx hb dX4_layer_41 rfl (lv_at hl 1 rfl) ?_
          refine ro_V (As := [.int (nI k2)]) (rest := []) ⟨hx, hb, hml, hown, hts⟩ hT hP (k_X4_begins l D cI cZ aO Q P M Wd aOw aDg aWk aSm aFo aBk fo ba le sf aIm aKp k2 hv (by omega)) gX4_layer_X4_begins rfl rfl nd_X4_begins [0] rfl (ci := 4) rfl rfl (q0 := 0) rfl hl.1 rfl rfl (Nat.le_of_ble_eq_true rfl) ⟨Nat.le_of_ble_eq_true rfl, Nat.le_of_ble_eq_true rfl⟩ ⟨rfl, rfl⟩ ⟨Nat.zero_le _, Nat.zero_le _⟩ dX4_layer_42 ?_
          refine lv_istore_n (lv' := [(3, .int (nI (be Q Wd k2))), (0, .ref aO), (1, .int (nI k2)), (2, .int layer)]) hx hb dX4_layer_45 rfl hl (by decide) rfl (fun ls hl => ?_)
          refine lv_bipush (v := 10) hx hb dX4_layer_46 (by decide) ?_
          refine lv_aload_n hx hb dX4_layer_48 rfl (lv_at hl 1 rfl) ?_
          refine lv_iload_n hx hb dX4_layer_49 rfl (lv_at hl 0 rfl) ?_
          refine ro_V (As := [.int (nI (be Q Wd k2))]) (rest := [.int 10]) ⟨hx, hb, hml, hown, hts⟩ hT hP (k_X4_phaseOf l D cI cZ aO Q P M Wd aOw aDg aWk aSm aFo aBk fo ba le sf aIm aKp (be Q Wd k2) hv (by omega)) gX4_layer_X4_phaseOf rfl rfl nd_X4_phaseOf [0] rfl (ci := 4) rfl rfl (q0 := 0) rfl hl.1 rfl rfl (Nat.le_of_ble_eq_true rfl) ⟨Nat.le_of_ble_eq_true rfl, Nat.le_of_ble_eq_true rfl⟩ ⟨rfl, rfl⟩ ⟨Nat.zero_le _, Nat.zero_le _⟩ dX4_layer_50 ?_
          refine lv_imul hx hb dX4_layer_53 ?_
          refine lv_aload_n hx hb dX4_layer_54 rfl (lv_at hl 1 rfl) ?_
          refine lv_iload_n hx hb dX4_layer_55 rfl (lv_at hl 0 rfl) ?_
          refine ro_V (As := [.int (nI (be Q Wd k2))]) (rest := [.int (10 * (nI (ph Q P M (be Q Wd k2))))]) ⟨hx, hb, hml, hown, hts⟩ hT hP (k_X4_isForward l D cI cZ aO Q P M Wd aOw aDg aWk aSm aFo aBk fo ba le sf aIm aKp (be Q Wd k2) hv (by omega)) gX4_layer_X4_isForward rfl rfl nd_X4_isForward [0] rfl (ci := 4) rfl rfl (q0 := 0) rfl hl.1 rfl rfl (Nat.le_of_ble_eq_true rfl) ⟨Nat.le_of_ble_eq_true rfl, Nat.le_of_ble_eq_true rfl⟩ ⟨rfl, rfl⟩ ⟨Nat.zero_le _, Nat.zero_le _⟩ dX4_layer_56 ?_
          refine lv_iload_n hx hb dX4_layer_59 rfl (lv_at hl 3 rfl) ?_
          refine lv_if_ne (tgt := 67) hx hb dX4_layer_60 (by decide) (fun c_5 => ?_) (fun c_5 => ?_)
          · skip
            refine lv_iconst (v := 0) hx hb dX4_layer_67 (by decide) ?_
            refine lv_icmp_ne (tgt := 75) hx hb dX4_layer_68 (by decide) (fun c_6 => ?_) (fun c_6 => ?_)
            · skip
              refine lv_iconst (v := 0) hx hb dX4_layer_75 (by decide) ?_
              refine lv_iadd hx hb dX4_layer_76 ?_
              exact ro_ret hx hb hr hlocks dX4_layer_77 (by simp_all [sLayer, lyC])
            · skip
              refine lv_iconst (v := 1) hx hb dX4_layer_71 (by decide) ?_
              refine lv_goto (tgt := 76) hx hb dX4_layer_72 (by decide) ?_
              refine lv_iadd hx hb dX4_layer_76 ?_
              exact ro_ret hx hb hr hlocks dX4_layer_77 (by simp_all [sLayer, lyC])
          · skip
            refine lv_iconst (v := 1) hx hb dX4_layer_63 (by decide) ?_
            refine lv_goto (tgt := 68) hx hb dX4_layer_64 (by decide) ?_
            refine lv_icmp_ne (tgt := 75) hx hb dX4_layer_68 (by decide) (fun c_7 => ?_) (fun c_7 => ?_)
            · skip
              refine lv_iconst (v := 0) hx hb dX4_layer_75 (by decide) ?_
              refine lv_iadd hx hb dX4_layer_76 ?_
              exact ro_ret hx hb hr hlocks dX4_layer_77 (by simp_all [sLayer, lyC])
            · skip
              refine lv_iconst (v := 1) hx hb dX4_layer_71 (by decide) ?_
              refine lv_goto (tgt := 76) hx hb dX4_layer_72 (by decide) ?_
              refine lv_iadd hx hb dX4_layer_76 ?_
              exact ro_ret hx hb hr hlocks dX4_layer_77 (by simp_all [sLayer, lyC])
        · skip
          refine lv_iload_n hx hb dX4_layer_36 rfl (lv_at hl 1 rfl) ?_
          refine lv_goto (tgt := 45) hx hb dX4_layer_37 (by decide) ?_
          refine lv_istore_n (lv' := [(3, .int (nI k2)), (0, .ref aO), (1, .int (nI k2)), (2, .int layer)]) hx hb dX4_layer_45 rfl hl (by decide) rfl (fun ls hl => ?_)
          refine lv_bipush (v := 10) hx hb dX4_layer_46 (by decide) ?_
          refine lv_aload_n hx hb dX4_layer_48 rfl (lv_at hl 1 rfl) ?_
          refine lv_iload_n hx hb dX4_layer_49 rfl (lv_at hl 0 rfl) ?_
          refine ro_V (As := [.int (nI k2)]) (rest := [.int 10]) ⟨hx, hb, hml, hown, hts⟩ hT hP (k_X4_phaseOf l D cI cZ aO Q P M Wd aOw aDg aWk aSm aFo aBk fo ba le sf aIm aKp k2 hv (by omega)) gX4_layer_X4_phaseOf rfl rfl nd_X4_phaseOf [0] rfl (ci := 4) rfl rfl (q0 := 0) rfl hl.1 rfl rfl (Nat.le_of_ble_eq_true rfl) ⟨Nat.le_of_ble_eq_true rfl, Nat.le_of_ble_eq_true rfl⟩ ⟨rfl, rfl⟩ ⟨Nat.zero_le _, Nat.zero_le _⟩ dX4_layer_50 ?_
          refine lv_imul hx hb dX4_layer_53 ?_
          refine lv_aload_n hx hb dX4_layer_54 rfl (lv_at hl 1 rfl) ?_
          refine lv_iload_n hx hb dX4_layer_55 rfl (lv_at hl 0 rfl) ?_
          refine ro_V (As := [.int (nI k2)]) (rest := [.int (10 * (nI (ph Q P M k2)))]) ⟨hx, hb, hml, hown, hts⟩ hT hP (k_X4_isForward l D cI cZ aO Q P M Wd aOw aDg aWk aSm aFo aBk fo ba le sf aIm aKp k2 hv (by omega)) gX4_layer_X4_isForward rfl rfl nd_X4_isForward [0] rfl (ci := 4) rfl rfl (q0 := 0) rfl hl.1 rfl rfl (Nat.le_of_ble_eq_true rfl) ⟨Nat.le_of_ble_eq_true rfl, Nat.le_of_ble_eq_true rfl⟩ ⟨rfl, rfl⟩ ⟨Nat.zero_le _, Nat.zero_le _⟩ dX4_layer_56 ?_
          refine lv_iload_n hx hb dX4_layer_59 rfl (lv_at hl 3 rfl) ?_
          refine lv_if_ne (tgt := 67) hx hb dX4_layer_60 (by decide) (fun c_8 => ?_) (fun c_8 => ?_)
          · skip
            refine lv_iconst (v := 0) hx hb dX4_layer_67 (by decide) ?_
            refine lv_icmp_ne (tgt := 75) hx hb dX4_layer_68 (by decide) (fun c_9 => ?_) (fun c_9 => ?_)
            · skip
              refine lv_iconst (v := 0) hx hb dX4_layer_75 (by decide) ?_
              refine lv_iadd hx hb dX4_layer_76 ?_
              exact ro_ret hx hb hr hlocks dX4_layer_77 (by simp_all [sLayer, lyC])
            · skip
              refine lv_iconst (v := 1) hx hb dX4_layer_71 (by decide) ?_
              refine lv_goto (tgt := 76) hx hb dX4_layer_72 (by decide) ?_
              refine lv_iadd hx hb dX4_layer_76 ?_
              exact ro_ret hx hb hr hlocks dX4_layer_77 (by simp_all [sLayer, lyC])
          · skip
            refine lv_iconst (v := 1) hx hb dX4_layer_63 (by decide) ?_
            refine lv_goto (tgt := 68) hx hb dX4_layer_64 (by decide) ?_
            refine lv_icmp_ne (tgt := 75) hx hb dX4_layer_68 (by decide) (fun c_10 => ?_) (fun c_10 => ?_)
            · skip
              refine lv_iconst (v := 0) hx hb dX4_layer_75 (by decide) ?_
              refine lv_iadd hx hb dX4_layer_76 ?_
              exact ro_ret hx hb hr hlocks dX4_layer_77 (by simp_all [sLayer, lyC])
            · skip
              refine lv_iconst (v := 1) hx hb dX4_layer_71 (by decide) ?_
              refine lv_goto (tgt := 76) hx hb dX4_layer_72 (by decide) ?_
              refine lv_iadd hx hb dX4_layer_76 ?_
              exact ro_ret hx hb hr hlocks dX4_layer_77 (by simp_all [sLayer, lyC])
      · skip
        refine lv_bipush (v := (-3)) hx hb dX4_layer_29 (by decide) ?_
        exact ro_ret hx hb hr hlocks dX4_layer_31 (by simp_all [sLayer, lyC])
    · skip
      refine lv_bipush (v := (-2)) hx hb dX4_layer_19 (by decide) ?_
      exact ro_ret hx hb hr hlocks dX4_layer_21 (by simp_all [sLayer, lyC])
  · skip
    refine lv_iconst (v := (-1)) hx hb dX4_layer_8 (by decide) ?_
    exact ro_ret hx hb hr hlocks dX4_layer_9 (by simp [sLayer, eq_true c_1])

set_option maxRecDepth 20000 in
theorem hi_X4_each_X4 : ∀ w ∈ wsX40, w ∈ wsX4_each := by
  intro w h
  unfold wsX4_each
  simp only [List.mem_cons, List.mem_append, h, or_true, true_or]
theorem nd_X4_each : okName yX4_each 1 := by decide +kernel
set_option maxHeartbeats 4000000 in
set_option maxRecDepth 100000 in
theorem k_X4_each (l : Launch) (D : va_G) (cI cZ : ClassId) (aO : Nat) (Q : Nat) (P : Nat) (M : Nat) (Wd : Nat) (aOw : Nat) (aDg : Nat) (aWk : Nat) (aSm : Nat) (aFo : Nat) (aBk : Nat) (fo : Nat) (ba : Nat) (le : Nat) (sf : Nat) (aIm : Nat) (aKp : Nat) (what : Int32) (hv : MV Q P M Wd) : RO l yX4_each wsX4_each ({ frames := 1, cells := 0, slots := 0, locals := 24 } : Room) D cI cZ [(aO, .inr (4, [.int (nI Q), .int (nI P), .int (nI M), .int (nI Wd), .ref aOw, .ref aDg, .ref aWk, .ref aSm, .ref aFo, .ref aBk, .int (nI fo), .int (nI ba), .int (nI le), .int (nI sf), .ref aIm, .ref aKp]))] [.ref aO, .int what] (sEach Q P M what) := by
  refine ro_start (by decide) rfl (Nat.le_of_ble_eq_true rfl) ?_
  intro p e s m args below meth c hx hb hr hml hlocks hts hown hT hP ls hl
  have hown : s.vm.findClass RX4 = some m.cls := hown
  have hl : lv_has ls 4 [(0, .ref aO), (1, .int what)] := hl
  have hv' := hv
  unfold MV at hv'
  have hM : 0 < M ∧ M ≤ 5 := by omega
  have hpm : 2 * P * M ≤ 20 * 5 := Nat.mul_le_mul (by omega) (by omega)
  have hg0 : 0 < Nat.gcd Q (2 * P * M) := Nat.gcd_pos_of_pos_left _ (by omega)
  have hg1 : Nat.gcd Q (2 * P * M) ≤ Q := Nat.le_of_dvd (by omega) (Nat.gcd_dvd_left _ _)
  refine lv_iload_n hx hb dX4_each_0 rfl (lv_at hl 1 rfl) ?_
  refine lv_iconst (v := 0) hx hb dX4_each_1 (by decide) ?_
  refine lv_iconst (v := 1) hx hb dX4_each_2 (by decide) ?_
  refine ro_S (As := [.int what, .int 0, .int 1]) (rest := []) ⟨hx, hb, hml, hown, hts⟩ hT hP (k_X4_in l D cI cZ what 0 1) gX4_each_X4_in rfl nd_X4_in [] rfl hl.1 rfl rfl (Nat.le_of_ble_eq_true rfl) ⟨Nat.le_of_ble_eq_true rfl, Nat.le_of_ble_eq_true rfl⟩ ⟨rfl, rfl⟩ ⟨Nat.zero_le _, Nat.zero_le _⟩ dX4_each_3 ?_
  refine lv_if_ne (tgt := 12) hx hb dX4_each_6 (by decide) (fun c_1 => ?_) (fun c_1 => ?_)
  · skip
    refine lv_iconst (v := 2) hx hb dX4_each_12 (by decide) ?_
    refine lv_aload_n hx hb dX4_each_13 rfl (lv_at hl 0 rfl) ?_
    refine va_get (D := D) (ci := 4) (v := .int (nI P)) (C := RX4) (T := TX4) (N := 16) hx hb hts hi_X4_each_X4 hown hT.1 hP 0 rfl rfl 1 (by decide) (hts (.fieldLink RX4 13 "SlotStarModel" "poles" "I") (List.mem_of_getElem? (i := 1) rfl)) (fun _ h9 => h9) rfl dX4_each_14 ?_
    refine lv_imul hx hb dX4_each_17 ?_
    refine top_eq (z := (nI (2 * P))) (by exact pk_mul 2 P) ?_
    refine lv_aload_n hx hb dX4_each_18 rfl (lv_at hl 0 rfl) ?_
    refine va_get (D := D) (ci := 4) (v := .int (nI M)) (C := RX4) (T := TX4) (N := 16) hx hb hts hi_X4_each_X4 hown hT.1 hP 0 rfl rfl 2 (by decide) (hts (.fieldLink RX4 16 "SlotStarModel" "phases" "I") (List.mem_of_getElem? (i := 2) rfl)) (fun _ h9 => h9) rfl dX4_each_19 ?_
    refine lv_imul hx hb dX4_each_22 ?_
    refine top_eq (z := (nI (2 * P * M))) (by exact pk_mul _ _) ?_
    refine lv_istore_n (lv' := [(2, .int (nI (2 * P * M))), (0, .ref aO), (1, .int what)]) hx hb dX4_each_23 rfl hl (by decide) rfl (fun ls hl => ?_)
    refine lv_aload_n hx hb dX4_each_24 rfl (lv_at hl 1 rfl) ?_
    refine va_get (D := D) (ci := 4) (v := .int (nI Q)) (C := RX4) (T := TX4) (N := 16) hx hb hts hi_X4_each_X4 hown hT.1 hP 0 rfl rfl 0 (by decide) (hts (.fieldLink RX4 7 "SlotStarModel" "slots" "I") (List.mem_of_getElem? (i := 3) rfl)) (fun _ h9 => h9) rfl dX4_each_25 ?_
    refine lv_iload_n hx hb dX4_each_28 rfl (lv_at hl 0 rfl) ?_
    refine ro_S (As := [.int (nI Q), .int (nI (2 * P * M))]) (rest := []) ⟨hx, hb, hml, hown, hts⟩ hT hP (k_X4_common l D cI cZ Q (2 * P * M) (by omega) (by omega)) gX4_each_X4_common rfl nd_X4_common [] rfl hl.1 rfl rfl (Nat.le_of_ble_eq_true rfl) ⟨Nat.le_of_ble_eq_true rfl, Nat.le_of_ble_eq_true rfl⟩ ⟨rfl, rfl⟩ ⟨Nat.zero_le _, Nat.zero_le _⟩ dX4_each_29 ?_
    refine lv_istore_n (lv' := [(3, .int (nI (Nat.gcd Q (2 * P * M)))), (2, .int (nI (2 * P * M))), (0, .ref aO), (1, .int what)]) hx hb dX4_each_32 rfl hl (by decide) rfl (fun ls hl => ?_)
    refine lv_iload_n hx hb dX4_each_33 rfl (lv_at hl 3 rfl) ?_
    refine lv_if_ne (tgt := 46) hx hb dX4_each_34 (by decide) (fun c_2 => ?_) (fun c_2 => ?_)
    · skip
      refine lv_iload_n hx hb dX4_each_46 rfl (lv_at hl 1 rfl) ?_
      refine lv_iload_n hx hb dX4_each_47 rfl (lv_at hl 0 rfl) ?_
      refine lv_idiv hx hb dX4_each_48 (nI_ne0 hg0 (by omega)) ?_
      refine top_eq (z := (nI (2 * P * M / Nat.gcd Q (2 * P * M)))) (by exact pk_div (by omega) hg0 (by omega)) ?_
      exact ro_ret hx hb hr hlocks dX4_each_49 (by simp [sEach, c_1, c_2])
    · skip
      refine lv_aload_n hx hb dX4_each_37 rfl (lv_at hl 2 rfl) ?_
      refine va_get (D := D) (ci := 4) (v := .int (nI Q)) (C := RX4) (T := TX4) (N := 16) hx hb hts hi_X4_each_X4 hown hT.1 hP 0 rfl rfl 0 (by decide) (hts (.fieldLink RX4 7 "SlotStarModel" "slots" "I") (List.mem_of_getElem? (i := 3) rfl)) (fun _ h9 => h9) rfl dX4_each_38 ?_
      refine lv_iload_n hx hb dX4_each_41 rfl (lv_at hl 0 rfl) ?_
      refine lv_idiv hx hb dX4_each_42 (nI_ne0 hg0 (by omega)) ?_
      refine top_eq (z := (nI (Q / Nat.gcd Q (2 * P * M)))) (by exact pk_div (by omega) hg0 (by omega)) ?_
      refine lv_goto (tgt := 49) hx hb dX4_each_43 (by decide) ?_
      exact ro_ret hx hb hr hlocks dX4_each_49 (by simp [sEach, c_1, eq_true c_2])
  · skip
    refine lv_bipush (v := (-2)) hx hb dX4_each_9 (by decide) ?_
    exact ro_ret hx hb hr hlocks dX4_each_11 (by simp [sEach, eq_true c_1])

theorem nd_X4_path : okName yX4_path 2 := by decide +kernel
set_option maxHeartbeats 4000000 in
set_option maxRecDepth 100000 in
theorem k_X4_path (l : Launch) (D : va_G) (cI cZ : ClassId) (aO : Nat) (Q : Nat) (P : Nat) (M : Nat) (Wd : Nat) (aOw : Nat) (aDg : Nat) (aWk : Nat) (aSm : Nat) (aFo : Nat) (aBk : Nat) (fo : Nat) (ba : Nat) (le : Nat) (sf : Nat) (aIm : Nat) (aKp : Nat) (k : Int32) (a : Int32) (hv : MV Q P M Wd) : RO l yX4_path wsX4_path ({ frames := 3, cells := 0, slots := 0, locals := 64 } : Room) D cI cZ [(aO, .inr (4, [.int (nI Q), .int (nI P), .int (nI M), .int (nI Wd), .ref aOw, .ref aDg, .ref aWk, .ref aSm, .ref aFo, .ref aBk, .int (nI fo), .int (nI ba), .int (nI le), .int (nI sf), .ref aIm, .ref aKp]))] [.ref aO, .int k, .int a] (sPath Q P k a) := by
  refine ro_start (by decide) rfl (Nat.le_of_ble_eq_true rfl) ?_
  intro p e s m args below meth c hx hb hr hml hlocks hts hown hT hP ls hl
  have hown : s.vm.findClass RX4 = some m.cls := hown
  have hl : lv_has ls 3 [(0, .ref aO), (1, .int k), (2, .int a)] := hl
  have hv' := hv
  unfold MV at hv'
  have ht0 := tT_pos hv
  have ht1 := tT_le hv
  have hn0 := tN_pos hv
  have hn1 := tN_le hv
  refine lv_aload_n hx hb dX4_path_0 rfl (lv_at hl 0 rfl) ?_
  refine lv_iload_n hx hb dX4_path_1 rfl (lv_at hl 1 rfl) ?_
  refine ro_V (As := [.int k]) (rest := []) ⟨hx, hb, hml, hown, hts⟩ hT hP (k_X4_isSlot l D cI cZ aO Q P M Wd aOw aDg aWk aSm aFo aBk fo ba le sf aIm aKp k) gX4_path_X4_isSlot rfl rfl nd_X4_isSlot [0] rfl (ci := 4) rfl rfl (q0 := 0) rfl hl.1 rfl rfl (Nat.le_of_ble_eq_true rfl) ⟨Nat.le_of_ble_eq_true rfl, Nat.le_of_ble_eq_true rfl⟩ ⟨rfl, rfl⟩ ⟨Nat.zero_le _, Nat.zero_le _⟩ dX4_path_2 ?_
  refine lv_if_ne (tgt := 10) hx hb dX4_path_5 (by decide) (fun c_1 => ?_) (fun c_1 => ?_)
  · skip
    obtain ⟨k2, hk2, rfl⟩ := jIn_sl (by omega) c_1
    have hcl : cl (nI k2) = k2 := cl_nI (by omega)
    have hkn : k2 / tN Q P ≤ k2 := Nat.div_le_self _ _
    refine lv_iload_n hx hb dX4_path_10 rfl (lv_at hl 2 rfl) ?_
    refine lv_iconst (v := 1) hx hb dX4_path_11 (by decide) ?_
    refine lv_bipush (v := 10) hx hb dX4_path_12 (by decide) ?_
    refine ro_S (As := [.int a, .int 1, .int 10]) (rest := []) ⟨hx, hb, hml, hown, hts⟩ hT hP (k_X4_in l D cI cZ a 1 10) gX4_path_X4_in rfl nd_X4_in [] rfl hl.1 rfl rfl (Nat.le_of_ble_eq_true rfl) ⟨Nat.le_of_ble_eq_true rfl, Nat.le_of_ble_eq_true rfl⟩ ⟨rfl, rfl⟩ ⟨Nat.zero_le _, Nat.zero_le _⟩ dX4_path_14 ?_
    refine lv_if_ne (tgt := 23) hx hb dX4_path_17 (by decide) (fun c_2 => ?_) (fun c_2 => ?_)
    · skip
      obtain ⟨a2, ha2, rfl⟩ := jIn_nat 1 10 (by decide) c_2
      have hca : cl (nI a2) = a2 := cl_nI (by omega)
      refine lv_aload_n hx hb dX4_path_23 rfl (lv_at hl 0 rfl) ?_
      refine ro_V (As := []) (rest := []) ⟨hx, hb, hml, hown, hts⟩ hT hP (k_X4_copies l D cI cZ aO Q P M Wd aOw aDg aWk aSm aFo aBk fo ba le sf aIm aKp hv) gX4_path_X4_copies rfl rfl nd_X4_copies [0] rfl (ci := 4) rfl rfl (q0 := 0) rfl hl.1 rfl rfl (Nat.le_of_ble_eq_true rfl) ⟨Nat.le_of_ble_eq_true rfl, Nat.le_of_ble_eq_true rfl⟩ ⟨rfl, rfl⟩ ⟨Nat.zero_le _, Nat.zero_le _⟩ dX4_path_24 ?_
      refine lv_iload_n hx hb dX4_path_27 rfl (lv_at hl 2 rfl) ?_
      refine lv_irem hx hb dX4_path_28 (nI_ne0 (by omega) (by omega)) ?_
      refine lv_if_ne (tgt := 43) hx hb dX4_path_29 (by decide) (fun c_3 => ?_) (fun c_3 => ?_)
      · skip
        have hm : ¬ tT Q P % a2 = 0 := fun q => c_3 ((nIm0 (by omega) (by omega) (by omega)).mpr q)
        refine lv_bipush (v := (-5)) hx hb dX4_path_43 (by decide) ?_
        exact ro_ret hx hb hr hlocks dX4_path_45 (by first | simp [sPath, c_1, c_2, c_3, hcl, hca, hm] | simp [sPath, c_1, c_2, c_3, hcl] | simp [sPath, c_1, c_2, c_3])
      · skip
        have hm : tT Q P % a2 = 0 := (nIm0 (by omega) (by omega) (by omega)).mp c_3
        refine lv_iload_n hx hb dX4_path_32 rfl (lv_at hl 1 rfl) ?_
        refine lv_aload_n hx hb dX4_path_33 rfl (lv_at hl 0 rfl) ?_
        refine ro_V (As := []) (rest := [.int (nI k2)]) ⟨hx, hb, hml, hown, hts⟩ hT hP (k_X4_star l D cI cZ aO Q P M Wd aOw aDg aWk aSm aFo aBk fo ba le sf aIm aKp hv) gX4_path_X4_star rfl rfl nd_X4_star [0] rfl (ci := 4) rfl rfl (q0 := 0) rfl hl.1 rfl rfl (Nat.le_of_ble_eq_true rfl) ⟨Nat.le_of_ble_eq_true rfl, Nat.le_of_ble_eq_true rfl⟩ ⟨rfl, rfl⟩ ⟨Nat.zero_le _, Nat.zero_le _⟩ dX4_path_34 ?_
        refine lv_idiv hx hb dX4_path_37 (nI_ne0 hn0 (by omega)) ?_
        refine top_eq (z := (nI (k2 / tN Q P))) (by exact pk_div (by omega) hn0 (by omega)) ?_
        refine lv_iload_n hx hb dX4_path_38 rfl (lv_at hl 2 rfl) ?_
        refine lv_irem hx hb dX4_path_39 (nI_ne0 (by omega) (by omega)) ?_
        refine top_eq (z := (nI (k2 / tN Q P % a2))) (by exact pk_rem (by omega) (by omega) (by omega)) ?_
        refine lv_goto (tgt := 45) hx hb dX4_path_40 (by decide) ?_
        exact ro_ret hx hb hr hlocks dX4_path_45 (by first | simp [sPath, c_1, c_2, eq_true c_3, hcl, hca, hm] | simp [sPath, c_1, c_2, eq_true c_3, hcl] | simp [sPath, c_1, c_2, eq_true c_3])
    · skip
      refine lv_bipush (v := (-2)) hx hb dX4_path_20 (by decide) ?_
      exact ro_ret hx hb hr hlocks dX4_path_22 (by first | simp [sPath, c_1, eq_true c_2, hcl, hca, hm] | simp [sPath, c_1, eq_true c_2, hcl] | simp [sPath, c_1, eq_true c_2])
  · skip
    refine lv_iconst (v := (-1)) hx hb dX4_path_8 (by decide) ?_
    exact ro_ret hx hb hr hlocks dX4_path_9 (by first | simp [sPath, eq_true c_1, hcl, hca, hm] | simp [sPath, eq_true c_1, hcl] | simp [sPath, eq_true c_1])

set_option maxRecDepth 20000 in
theorem hi_X4_told_X4 : ∀ w ∈ wsX40, w ∈ wsX4_told := by
  intro w h
  unfold wsX4_told
  simp only [List.mem_cons, List.mem_append, h, or_true, true_or]
theorem nd_X4_told : okName yX4_told 1 := by decide +kernel
set_option maxHeartbeats 4000000 in
set_option maxRecDepth 100000 in
theorem k_X4_told (l : Launch) (D : va_G) (cI cZ : ClassId) (aO : Nat) (Q : Nat) (P : Nat) (M : Nat) (Wd : Nat) (aOw : Nat) (aDg : Nat) (aWk : Nat) (aSm : Nat) (aFo : Nat) (aBk : Nat) (fo : Nat) (ba : Nat) (le : Nat) (sf : Nat) (aIm : Nat) (aKp : Nat) (what : Int32) (hv : MV Q P M Wd) : RO l yX4_told wsX4_told ({ frames := 4, cells := 0, slots := 0, locals := 84 } : Room) D cI cZ [(aO, .inr (4, [.int (nI Q), .int (nI P), .int (nI M), .int (nI Wd), .ref aOw, .ref aDg, .ref aWk, .ref aSm, .ref aFo, .ref aBk, .int (nI fo), .int (nI ba), .int (nI le), .int (nI sf), .ref aIm, .ref aKp]))] [.ref aO, .int what] (sTold Q P M Wd what) := by
  refine ro_start (by decide) rfl (Nat.le_of_ble_eq_true rfl) ?_
  intro p e s m args below meth c hx hb hr hml hlocks hts hown hT hP ls hl
  have hown : s.vm.findClass RX4 = some m.cls := hown
  have hl : lv_has ls 2 [(0, .ref aO), (1, .int what)] := hl
  refine lv_iload_n hx hb dX4_told_0 rfl (lv_at hl 1 rfl) ?_
  by_cases w_1 : what = 0
  · refine lv_tableIn (off := 43) (tgt := 44) hx hb dX4_told_1 (by rw [w_1]; decide) (by rw [w_1]; decide) (by rw [w_1]; decide) (by decide) ?_
    refine lv_aload_n hx hb dX4_told_44 rfl (lv_at hl 0 rfl) ?_
    refine va_get (D := D) (ci := 4) (v := .int (nI Q)) (C := RX4) (T := TX4) (N := 16) hx hb hts hi_X4_told_X4 hown hT.1 hP 0 rfl rfl 0 (by decide) (hts (.fieldLink RX4 7 "SlotStarModel" "slots" "I") (List.mem_of_getElem? (i := 1) rfl)) (fun _ h9 => h9) rfl dX4_told_45 ?_
    exact ro_ret hx hb hr hlocks dX4_told_48 (by first | simp [sTold, eq_true w_1, hf1] | simp [sTold, eq_true w_1])
  by_cases w_2 : what = 1
  · refine lv_tableIn (off := 48) (tgt := 49) hx hb dX4_told_1 (by rw [w_2]; decide) (by rw [w_2]; decide) (by rw [w_2]; decide) (by decide) ?_
    refine lv_aload_n hx hb dX4_told_49 rfl (lv_at hl 0 rfl) ?_
    refine va_get (D := D) (ci := 4) (v := .int (nI P)) (C := RX4) (T := TX4) (N := 16) hx hb hts hi_X4_told_X4 hown hT.1 hP 0 rfl rfl 1 (by decide) (hts (.fieldLink RX4 13 "SlotStarModel" "poles" "I") (List.mem_of_getElem? (i := 2) rfl)) (fun _ h9 => h9) rfl dX4_told_50 ?_
    exact ro_ret hx hb hr hlocks dX4_told_53 (by first | simp [sTold, w_1, eq_true w_2, hf1] | simp [sTold, w_1, eq_true w_2])
  by_cases w_3 : what = 2
  · refine lv_tableIn (off := 53) (tgt := 54) hx hb dX4_told_1 (by rw [w_3]; decide) (by rw [w_3]; decide) (by rw [w_3]; decide) (by decide) ?_
    refine lv_aload_n hx hb dX4_told_54 rfl (lv_at hl 0 rfl) ?_
    refine va_get (D := D) (ci := 4) (v := .int (nI M)) (C := RX4) (T := TX4) (N := 16) hx hb hts hi_X4_told_X4 hown hT.1 hP 0 rfl rfl 2 (by decide) (hts (.fieldLink RX4 16 "SlotStarModel" "phases" "I") (List.mem_of_getElem? (i := 3) rfl)) (fun _ h9 => h9) rfl dX4_told_55 ?_
    exact ro_ret hx hb hr hlocks dX4_told_58 (by first | simp [sTold, w_1, w_2, eq_true w_3, hf1] | simp [sTold, w_1, w_2, eq_true w_3])
  by_cases w_4 : what = 3
  · refine lv_tableIn (off := 58) (tgt := 59) hx hb dX4_told_1 (by rw [w_4]; decide) (by rw [w_4]; decide) (by rw [w_4]; decide) (by decide) ?_
    refine lv_aload_n hx hb dX4_told_59 rfl (lv_at hl 0 rfl) ?_
    refine va_get (D := D) (ci := 4) (v := .int (nI Wd)) (C := RX4) (T := TX4) (N := 16) hx hb hts hi_X4_told_X4 hown hT.1 hP 0 rfl rfl 3 (by decide) (hts (.fieldLink RX4 19 "SlotStarModel" "reach" "I") (List.mem_of_getElem? (i := 4) rfl)) (fun _ h9 => h9) rfl dX4_told_60 ?_
    exact ro_ret hx hb hr hlocks dX4_told_63 (by first | simp [sTold, w_1, w_2, w_3, eq_true w_4, hf1] | simp [sTold, w_1, w_2, w_3, eq_true w_4])
  by_cases w_5 : what = 4
  · refine lv_tableIn (off := 63) (tgt := 64) hx hb dX4_told_1 (by rw [w_5]; decide) (by rw [w_5]; decide) (by rw [w_5]; decide) (by decide) ?_
    refine lv_aload_n hx hb dX4_told_64 rfl (lv_at hl 0 rfl) ?_
    refine ro_V (As := []) (rest := []) ⟨hx, hb, hml, hown, hts⟩ hT hP (k_X4_copies l D cI cZ aO Q P M Wd aOw aDg aWk aSm aFo aBk fo ba le sf aIm aKp hv) gX4_told_X4_copies rfl rfl nd_X4_copies [0] rfl (ci := 4) rfl rfl (q0 := 0) rfl hl.1 rfl rfl (Nat.le_of_ble_eq_true rfl) ⟨Nat.le_of_ble_eq_true rfl, Nat.le_of_ble_eq_true rfl⟩ ⟨rfl, rfl⟩ ⟨Nat.zero_le _, Nat.zero_le _⟩ dX4_told_65 ?_
    exact ro_ret hx hb hr hlocks dX4_told_68 (by first | simp [sTold, w_1, w_2, w_3, w_4, eq_true w_5, hf1] | simp [sTold, w_1, w_2, w_3, w_4, eq_true w_5])
  by_cases w_6 : what = 5
  · refine lv_tableIn (off := 68) (tgt := 69) hx hb dX4_told_1 (by rw [w_6]; decide) (by rw [w_6]; decide) (by rw [w_6]; decide) (by decide) ?_
    refine lv_aload_n hx hb dX4_told_69 rfl (lv_at hl 0 rfl) ?_
    refine ro_V (As := []) (rest := []) ⟨hx, hb, hml, hown, hts⟩ hT hP (k_X4_star l D cI cZ aO Q P M Wd aOw aDg aWk aSm aFo aBk fo ba le sf aIm aKp hv) gX4_told_X4_star rfl rfl nd_X4_star [0] rfl (ci := 4) rfl rfl (q0 := 0) rfl hl.1 rfl rfl (Nat.le_of_ble_eq_true rfl) ⟨Nat.le_of_ble_eq_true rfl, Nat.le_of_ble_eq_true rfl⟩ ⟨rfl, rfl⟩ ⟨Nat.zero_le _, Nat.zero_le _⟩ dX4_told_70 ?_
    exact ro_ret hx hb hr hlocks dX4_told_73 (by first | simp [sTold, w_1, w_2, w_3, w_4, w_5, eq_true w_6, hf1] | simp [sTold, w_1, w_2, w_3, w_4, w_5, eq_true w_6])
  by_cases w_7 : what = 6
  · refine lv_tableIn (off := 73) (tgt := 74) hx hb dX4_told_1 (by rw [w_7]; decide) (by rw [w_7]; decide) (by rw [w_7]; decide) (by decide) ?_
    refine lv_aload_n hx hb dX4_told_74 rfl (lv_at hl 0 rfl) ?_
    refine ro_V (As := []) (rest := []) ⟨hx, hb, hml, hown, hts⟩ hT hP (k_X4_isBalanced l D cI cZ aO Q P M Wd aOw aDg aWk aSm aFo aBk fo ba le sf aIm aKp hv) gX4_told_X4_isBalanced rfl rfl nd_X4_isBalanced [0] rfl (ci := 4) rfl rfl (q0 := 0) rfl hl.1 rfl rfl (Nat.le_of_ble_eq_true rfl) ⟨Nat.le_of_ble_eq_true rfl, Nat.le_of_ble_eq_true rfl⟩ ⟨rfl, rfl⟩ ⟨Nat.zero_le _, Nat.zero_le _⟩ dX4_told_75 ?_
    refine lv_if_eq (tgt := 85) hx hb dX4_told_78 (by decide) (fun c_8 => ?_) (fun c_8 => ?_)
    · skip
      have hf1 := c_8
      refine lv_iconst (v := 0) hx hb dX4_told_85 (by decide) ?_
      exact ro_ret hx hb hr hlocks dX4_told_86 (by first | simp [sTold, w_1, w_2, w_3, w_4, w_5, w_6, eq_true w_7, eq_true c_8, hf1] | simp [sTold, w_1, w_2, w_3, w_4, w_5, w_6, eq_true w_7, eq_true c_8])
    · skip
      have hf1 : bal Q P M = 1 := (bal01 _ _ _).resolve_left c_8
      refine lv_iconst (v := 1) hx hb dX4_told_81 (by decide) ?_
      refine lv_goto (tgt := 86) hx hb dX4_told_82 (by decide) ?_
      exact ro_ret hx hb hr hlocks dX4_told_86 (by first | simp [sTold, w_1, w_2, w_3, w_4, w_5, w_6, eq_true w_7, c_8, hf1] | simp [sTold, w_1, w_2, w_3, w_4, w_5, w_6, eq_true w_7, c_8])
  refine lv_tableOut (tgt := 87) hx hb dX4_told_1 (sw_out7 w_1 w_2 w_3 w_4 w_5 w_6 w_7) (by decide) ?_
  refine lv_bipush (v := (-2)) hx hb dX4_told_87 (by decide) ?_
  exact ro_ret hx hb hr hlocks dX4_told_89 (by first | simp [sTold, w_1, w_2, w_3, w_4, w_5, w_6, w_7, hf1] | simp [sTold, w_1, w_2, w_3, w_4, w_5, w_6, w_7])

set_option maxRecDepth 20000 in
theorem hi_X4_machine_X4 : ∀ w ∈ wsX40, w ∈ wsX4_machine := by
  intro w h
  unfold wsX4_machine
  simp only [List.mem_cons, List.mem_append, h, or_true, true_or]
theorem nd_X4_machine : okName yX4_machine 3 := by decide +kernel
set_option maxHeartbeats 4000000 in
set_option maxRecDepth 100000 in
theorem k_X4_machine (l : Launch) (D : va_G) (cI cZ : ClassId) (aO : Nat) (Q : Nat) (P : Nat) (M : Nat) (Wd : Nat) (aOw : Nat) (aDg : Nat) (aWk : Nat) (aSm : Nat) (aFo : Nat) (aBk : Nat) (fo : Nat) (ba : Nat) (le : Nat) (sf : Nat) (aIm : Nat) (aKp : Nat) (q : Int32) (r2 : Int32) (m2 : Int32) : MU l yX4_machine wsX4_machine ({ frames := 3, cells := 0, slots := 0, locals := 64 } : Room) D cI cZ [(aO, .inr (4, [.int (nI Q), .int (nI P), .int (nI M), .int (nI Wd), .ref aOw, .ref aDg, .ref aWk, .ref aSm, .ref aFo, .ref aBk, .int (nI fo), .int (nI ba), .int (nI le), .int (nI sf), .ref aIm, .ref aKp]))] [.ref aO, .int q, .int r2, .int m2] (some (.int (sMac q r2 m2))) [(aO, .inr (4, [.int (nI ((mcT q r2 m2 (Q, P, M, Wd)).1)), .int (nI ((mcT q r2 m2 (Q, P, M, Wd)).2.1)), .int (nI ((mcT q r2 m2 (Q, P, M, Wd)).2.2.1)), .int (nI ((mcT q r2 m2 (Q, P, M, Wd)).2.2.2)), .ref aOw, .ref aDg, .ref aWk, .ref aSm, .ref aFo, .ref aBk, .int (nI fo), .int (nI ba), .int (nI le), .int (nI sf), .ref aIm, .ref aKp]))] := by
  refine mu_start (by decide) rfl (Nat.le_of_ble_eq_true rfl) ?_
  intro p e s m args below meth c hx hb hr hml hlocks hts hown hT hP hD hS ls hl
  have hown : s.vm.findClass RX4 = some m.cls := hown
  have hl : lv_has ls 4 [(0, .ref aO), (1, .int q), (2, .int r2), (3, .int m2)] := hl
  refine lv_iload_n hx hb dX4_machine_0 rfl (lv_at hl 1 rfl) ?_
  refine lv_iconst (v := 3) hx hb dX4_machine_1 (by decide) ?_
  refine lv_bipush (v := 48) hx hb dX4_machine_2 (by decide) ?_
  refine ro_S (As := [.int q, .int 3, .int 48]) (rest := []) ⟨hx, hb, hml, hown, hts⟩ hT hP (k_X4_in l D cI cZ q 3 48) gX4_machine_X4_in rfl nd_X4_in [] rfl hl.1 rfl rfl (Nat.le_of_ble_eq_true rfl) ⟨Nat.le_of_ble_eq_true rfl, Nat.le_of_ble_eq_true rfl⟩ ⟨rfl, rfl⟩ ⟨Nat.zero_le _, Nat.zero_le _⟩ dX4_machine_4 ?_
  refine lv_if_eq (tgt := 30) hx hb dX4_machine_7 (by decide) (fun c_1 => ?_) (fun c_1 => ?_)
  · skip
    refine lv_bipush (v := (-2)) hx hb dX4_machine_30 (by decide) ?_
    exact mu_ret hx hb hr hlocks dX4_machine_32 (by first | (rw [mcT_q c_1]; exact hP) | (rw [mcT_p c_2]; exact hP) | (rw [mcT_m c_3 c_4]; exact hP)) hS (by simp [sMac, eq_true c_1])
  · skip
    obtain ⟨q2, hq2, rfl⟩ := jIn_nat 3 48 (by decide) c_1
    have hcq : cl (nI q2) = q2 := cl_nI (by omega)
    refine lv_iload_n hx hb dX4_machine_10 rfl (lv_at hl 2 rfl) ?_
    refine lv_iconst (v := 1) hx hb dX4_machine_11 (by decide) ?_
    refine lv_bipush (v := 10) hx hb dX4_machine_12 (by decide) ?_
    refine ro_S (As := [.int r2, .int 1, .int 10]) (rest := []) ⟨hx, hb, hml, hown, hts⟩ hT hP (k_X4_in l D cI cZ r2 1 10) gX4_machine_X4_in rfl nd_X4_in [] rfl hl.1 rfl rfl (Nat.le_of_ble_eq_true rfl) ⟨Nat.le_of_ble_eq_true rfl, Nat.le_of_ble_eq_true rfl⟩ ⟨rfl, rfl⟩ ⟨Nat.zero_le _, Nat.zero_le _⟩ dX4_machine_14 ?_
    refine lv_if_eq (tgt := 30) hx hb dX4_machine_17 (by decide) (fun c_2 => ?_) (fun c_2 => ?_)
    · skip
      refine lv_bipush (v := (-2)) hx hb dX4_machine_30 (by decide) ?_
      exact mu_ret hx hb hr hlocks dX4_machine_32 (by first | (rw [mcT_q c_1]; exact hP) | (rw [mcT_p c_2]; exact hP) | (rw [mcT_m c_3 c_4]; exact hP)) hS (by simp [sMac, c_1, eq_true c_2])
    · skip
      obtain ⟨p2, hp2, rfl⟩ := jIn_nat 1 10 (by decide) c_2
      have hcp : cl (nI p2) = p2 := cl_nI (by omega)
      have hpw := pw_ok hq2 hp2
      refine lv_iload_n hx hb dX4_machine_20 rfl (lv_at hl 3 rfl) ?_
      refine lv_iconst (v := 3) hx hb dX4_machine_21 (by decide) ?_
      refine lv_icmp_eq (tgt := 33) hx hb dX4_machine_22 (by decide) (fun c_3 => ?_) (fun c_3 => ?_)
      · skip
        subst c_3
        refine lv_aload_n hx hb dX4_machine_33 rfl (lv_at hl 0 rfl) ?_
        refine lv_iload_n hx hb dX4_machine_34 rfl (lv_at hl 1 rfl) ?_
        refine va_put (D := D) (ci := 4) (v := .int (nI q2)) (ty := .int) (C := RX4) (T := TX4) (N := 16) hx hb hts hi_X4_machine_X4 tyX4 tyX4_ok nmX4 hown hT.1 hP hD hS 0 rfl rfl 0 (by decide) (hts (.fieldLink RX4 7 "SlotStarModel" "slots" "I") (List.mem_of_getElem? (i := 1) rfl)) (fun _ h9 => h9) rfl (by decide +kernel) rfl rfl (Nat.le_of_ble_eq_true rfl) dX4_machine_35 (fun H locs hP hD hS => ?_)
        have hP : va_P D cls5 [(aO, .inr (4, [.int (nI q2), .int (nI P), .int (nI M), .int (nI Wd), .ref aOw, .ref aDg, .ref aWk, .ref aSm, .ref aFo, .ref aBk, .int (nI fo), .int (nI ba), .int (nI le), .int (nI sf), .ref aIm, .ref aKp]))] H := hP
        have hD : va_D (va_M [(aO, .inr (4, [.int (nI Q), .int (nI P), .int (nI M), .int (nI Wd), .ref aOw, .ref aDg, .ref aWk, .ref aSm, .ref aFo, .ref aBk, .int (nI fo), .int (nI ba), .int (nI le), .int (nI sf), .ref aIm, .ref aKp]))]) [(aO, .inr (4, [.int (nI q2), .int (nI P), .int (nI M), .int (nI Wd), .ref aOw, .ref aDg, .ref aWk, .ref aSm, .ref aFo, .ref aBk, .int (nI fo), .int (nI ba), .int (nI le), .int (nI sf), .ref aIm, .ref aKp]))] := hD
        refine lv_aload_n hx hb dX4_machine_38 rfl (lv_at hl 0 rfl) ?_
        refine lv_iload_n hx hb dX4_machine_39 rfl (lv_at hl 2 rfl) ?_
        refine va_put (D := D) (ci := 4) (v := .int (nI p2)) (ty := .int) (C := RX4) (T := TX4) (N := 16) hx hb hts hi_X4_machine_X4 tyX4 tyX4_ok nmX4 hown hT.1 hP hD hS 0 rfl rfl 1 (by decide) (hts (.fieldLink RX4 13 "SlotStarModel" "poles" "I") (List.mem_of_getElem? (i := 2) rfl)) (fun _ h9 => h9) rfl (by decide +kernel) rfl rfl (Nat.le_of_ble_eq_true rfl) dX4_machine_40 (fun H locs hP hD hS => ?_)
        have hP : va_P D cls5 [(aO, .inr (4, [.int (nI q2), .int (nI p2), .int (nI M), .int (nI Wd), .ref aOw, .ref aDg, .ref aWk, .ref aSm, .ref aFo, .ref aBk, .int (nI fo), .int (nI ba), .int (nI le), .int (nI sf), .ref aIm, .ref aKp]))] H := hP
        have hD : va_D (va_M [(aO, .inr (4, [.int (nI Q), .int (nI P), .int (nI M), .int (nI Wd), .ref aOw, .ref aDg, .ref aWk, .ref aSm, .ref aFo, .ref aBk, .int (nI fo), .int (nI ba), .int (nI le), .int (nI sf), .ref aIm, .ref aKp]))]) [(aO, .inr (4, [.int (nI q2), .int (nI p2), .int (nI M), .int (nI Wd), .ref aOw, .ref aDg, .ref aWk, .ref aSm, .ref aFo, .ref aBk, .int (nI fo), .int (nI ba), .int (nI le), .int (nI sf), .ref aIm, .ref aKp]))] := hD
        refine lv_aload_n hx hb dX4_machine_43 rfl (lv_at hl 0 rfl) ?_
        refine lv_iload_n hx hb dX4_machine_44 rfl (lv_at hl 3 rfl) ?_
        refine va_put (D := D) (ci := 4) (v := .int 3) (ty := .int) (C := RX4) (T := TX4) (N := 16) hx hb hts hi_X4_machine_X4 tyX4 tyX4_ok nmX4 hown hT.1 hP hD hS 0 rfl rfl 2 (by decide) (hts (.fieldLink RX4 16 "SlotStarModel" "phases" "I") (List.mem_of_getElem? (i := 3) rfl)) (fun _ h9 => h9) rfl (by decide +kernel) rfl rfl (Nat.le_of_ble_eq_true rfl) dX4_machine_45 (fun H locs hP hD hS => ?_)
        have hP : va_P D cls5 [(aO, .inr (4, [.int (nI q2), .int (nI p2), .int 3, .int (nI Wd), .ref aOw, .ref aDg, .ref aWk, .ref aSm, .ref aFo, .ref aBk, .int (nI fo), .int (nI ba), .int (nI le), .int (nI sf), .ref aIm, .ref aKp]))] H := hP
        have hD : va_D (va_M [(aO, .inr (4, [.int (nI Q), .int (nI P), .int (nI M), .int (nI Wd), .ref aOw, .ref aDg, .ref aWk, .ref aSm, .ref aFo, .ref aBk, .int (nI fo), .int (nI ba), .int (nI le), .int (nI sf), .ref aIm, .ref aKp]))]) [(aO, .inr (4, [.int (nI q2), .int (nI p2), .int 3, .int (nI Wd), .ref aOw, .ref aDg, .ref aWk, .ref aSm, .ref aFo, .ref aBk, .int (nI fo), .int (nI ba), .int (nI le), .int (nI sf), .ref aIm, .ref aKp]))] := hD
        refine lv_aload_n hx hb dX4_machine_48 rfl (lv_at hl 0 rfl) ?_
        refine lv_aload_n hx hb dX4_machine_49 rfl (lv_at hl 0 rfl) ?_
        refine ro_V (As := []) (rest := [.ref aO]) ⟨hx, hb, hml, hown, hts⟩ hT hP (k_X4_pitch l D cI cZ aO q2 p2 3 Wd aOw aDg aWk aSm aFo aBk fo ba le sf aIm aKp (by omega) (by omega)) gX4_machine_X4_pitch rfl rfl nd_X4_pitch [0] rfl (ci := 4) rfl rfl (q0 := 0) rfl hl.1 rfl rfl (Nat.le_of_ble_eq_true rfl) ⟨Nat.le_of_ble_eq_true rfl, Nat.le_of_ble_eq_true rfl⟩ ⟨rfl, rfl⟩ ⟨Nat.zero_le _, Nat.zero_le _⟩ dX4_machine_50 ?_
        refine va_put (D := D) (ci := 4) (v := .int (nI (pw q2 p2))) (ty := .int) (C := RX4) (T := TX4) (N := 16) hx hb hts hi_X4_machine_X4 tyX4 tyX4_ok nmX4 hown hT.1 hP hD hS 0 rfl rfl 3 (by decide) (hts (.fieldLink RX4 19 "SlotStarModel" "reach" "I") (List.mem_of_getElem? (i := 4) rfl)) (fun _ h9 => h9) rfl (by decide +kernel) rfl rfl (Nat.le_of_ble_eq_true rfl) dX4_machine_53 (fun H locs hP hD hS => ?_)
        have hP : va_P D cls5 [(aO, .inr (4, [.int (nI q2), .int (nI p2), .int 3, .int (nI (pw q2 p2)), .ref aOw, .ref aDg, .ref aWk, .ref aSm, .ref aFo, .ref aBk, .int (nI fo), .int (nI ba), .int (nI le), .int (nI sf), .ref aIm, .ref aKp]))] H := hP
        have hD : va_D (va_M [(aO, .inr (4, [.int (nI Q), .int (nI P), .int (nI M), .int (nI Wd), .ref aOw, .ref aDg, .ref aWk, .ref aSm, .ref aFo, .ref aBk, .int (nI fo), .int (nI ba), .int (nI le), .int (nI sf), .ref aIm, .ref aKp]))]) [(aO, .inr (4, [.int (nI q2), .int (nI p2), .int 3, .int (nI (pw q2 p2)), .ref aOw, .ref aDg, .ref aWk, .ref aSm, .ref aFo, .ref aBk, .int (nI fo), .int (nI ba), .int (nI le), .int (nI sf), .ref aIm, .ref aKp]))] := hD
        refine lv_aload_n hx hb dX4_machine_56 rfl (lv_at hl 0 rfl) ?_
        refine ro_V (As := []) (rest := []) ⟨hx, hb, hml, hown, hts⟩ hT hP (k_X4_star l D cI cZ aO q2 p2 3 (pw q2 p2) aOw aDg aWk aSm aFo aBk fo ba le sf aIm aKp (by unfold MV; omega)) gX4_machine_X4_star rfl rfl nd_X4_star [0] rfl (ci := 4) rfl rfl (q0 := 0) rfl hl.1 rfl rfl (Nat.le_of_ble_eq_true rfl) ⟨Nat.le_of_ble_eq_true rfl, Nat.le_of_ble_eq_true rfl⟩ ⟨rfl, rfl⟩ ⟨Nat.zero_le _, Nat.zero_le _⟩ dX4_machine_57 ?_
        exact mu_ret hx hb hr hlocks dX4_machine_60 (by first | (rw [mcT_ok (m := 3) hq2 hp2 (Or.inl rfl)]; exact hP) | (rw [mcT_ok (m := 5) hq2 hp2 (Or.inr rfl)]; exact hP)) hS (by simp [sMac, c_1, c_2, hcq, hcp])
      · skip
        refine lv_iload_n hx hb dX4_machine_25 rfl (lv_at hl 3 rfl) ?_
        refine lv_iconst (v := 5) hx hb dX4_machine_26 (by decide) ?_
        refine lv_icmp_eq (tgt := 33) hx hb dX4_machine_27 (by decide) (fun c_4 => ?_) (fun c_4 => ?_)
        · skip
          subst c_4
          refine lv_aload_n hx hb dX4_machine_33 rfl (lv_at hl 0 rfl) ?_
          refine lv_iload_n hx hb dX4_machine_34 rfl (lv_at hl 1 rfl) ?_
          refine va_put (D := D) (ci := 4) (v := .int (nI q2)) (ty := .int) (C := RX4) (T := TX4) (N := 16) hx hb hts hi_X4_machine_X4 tyX4 tyX4_ok nmX4 hown hT.1 hP hD hS 0 rfl rfl 0 (by decide) (hts (.fieldLink RX4 7 "SlotStarModel" "slots" "I") (List.mem_of_getElem? (i := 1) rfl)) (fun _ h9 => h9) rfl (by decide +kernel) rfl rfl (Nat.le_of_ble_eq_true rfl) dX4_machine_35 (fun H locs hP hD hS => ?_)
          have hP : va_P D cls5 [(aO, .inr (4, [.int (nI q2), .int (nI P), .int (nI M), .int (nI Wd), .ref aOw, .ref aDg, .ref aWk, .ref aSm, .ref aFo, .ref aBk, .int (nI fo), .int (nI ba), .int (nI le), .int (nI sf), .ref aIm, .ref aKp]))] H := hP
          have hD : va_D (va_M [(aO, .inr (4, [.int (nI Q), .int (nI P), .int (nI M), .int (nI Wd), .ref aOw, .ref aDg, .ref aWk, .ref aSm, .ref aFo, .ref aBk, .int (nI fo), .int (nI ba), .int (nI le), .int (nI sf), .ref aIm, .ref aKp]))]) [(aO, .inr (4, [.int (nI q2), .int (nI P), .int (nI M), .int (nI Wd), .ref aOw, .ref aDg, .ref aWk, .ref aSm, .ref aFo, .ref aBk, .int (nI fo), .int (nI ba), .int (nI le), .int (nI sf), .ref aIm, .ref aKp]))] := hD
          refine lv_aload_n hx hb dX4_machine_38 rfl (lv_at hl 0 rfl) ?_
          refine lv_iload_n hx hb dX4_machine_39 rfl (lv_at hl 2 rfl) ?_
          refine va_put (D := D) (ci := 4) (v := .int (nI p2)) (ty := .int) (C := RX4) (T := TX4) (N := 16) hx hb hts hi_X4_machine_X4 tyX4 tyX4_ok nmX4 hown hT.1 hP hD hS 0 rfl rfl 1 (by decide) (hts (.fieldLink RX4 13 "SlotStarModel" "poles" "I") (List.mem_of_getElem? (i := 2) rfl)) (fun _ h9 => h9) rfl (by decide +kernel) rfl rfl (Nat.le_of_ble_eq_true rfl) dX4_machine_40 (fun H locs hP hD hS => ?_)
          have hP : va_P D cls5 [(aO, .inr (4, [.int (nI q2), .int (nI p2), .int (nI M), .int (nI Wd), .ref aOw, .ref aDg, .ref aWk, .ref aSm, .ref aFo, .ref aBk, .int (nI fo), .int (nI ba), .int (nI le), .int (nI sf), .ref aIm, .ref aKp]))] H := hP
          have hD : va_D (va_M [(aO, .inr (4, [.int (nI Q), .int (nI P), .int (nI M), .int (nI Wd), .ref aOw, .ref aDg, .ref aWk, .ref aSm, .ref aFo, .ref aBk, .int (nI fo), .int (nI ba), .int (nI le), .int (nI sf), .ref aIm, .ref aKp]))]) [(aO, .inr (4, [.int (nI q2), .int (nI p2), .int (nI M), .int (nI Wd), .ref aOw, .ref aDg, .ref aWk, .ref aSm, .ref aFo, .ref aBk, .int (nI fo), .int (nI ba), .int (nI le), .int (nI sf), .ref aIm, .ref aKp]))] := hD
          refine lv_aload_n hx hb dX4_machine_43 rfl (lv_at hl 0 rfl) ?_
          refine lv_iload_n hx hb dX4_machine_44 rfl (lv_at hl 3 rfl) ?_
          refine va_put (D := D) (ci := 4) (v := .int 5) (ty := .int) (C := RX4) (T := TX4) (N := 16) hx hb hts hi_X4_machine_X4 tyX4 tyX4_ok nmX4 hown hT.1 hP hD hS 0 rfl rfl 2 (by decide) (hts (.fieldLink RX4 16 "SlotStarModel" "phases" "I") (List.mem_of_getElem? (i := 3) rfl)) (fun _ h9 => h9) rfl (by decide +kernel) rfl rfl (Nat.le_of_ble_eq_true rfl) dX4_machine_45 (fun H locs hP hD hS => ?_)
          have hP : va_P D cls5 [(aO, .inr (4, [.int (nI q2), .int (nI p2), .int 5, .int (nI Wd), .ref aOw, .ref aDg, .ref aWk, .ref aSm, .ref aFo, .ref aBk, .int (nI fo), .int (nI ba), .int (nI le), .int (nI sf), .ref aIm, .ref aKp]))] H := hP
          have hD : va_D (va_M [(aO, .inr (4, [.int (nI Q), .int (nI P), .int (nI M), .int (nI Wd), .ref aOw, .ref aDg, .ref aWk, .ref aSm, .ref aFo, .ref aBk, .int (nI fo), .int (nI ba), .int (nI le), .int (nI sf), .ref aIm, .ref aKp]))]) [(aO, .inr (4, [.int (nI q2), .int (nI p2), .int 5, .int (nI Wd), .ref aOw, .ref aDg, .ref aWk, .ref aSm, .ref aFo, .ref aBk, .int (nI fo), .int (nI ba), .int (nI le), .int (nI sf), .ref aIm, .ref aKp]))] := hD
          refine lv_aload_n hx hb dX4_machine_48 rfl (lv_at hl 0 rfl) ?_
          refine lv_aload_n hx hb dX4_machine_49 rfl (lv_at hl 0 rfl) ?_
          refine ro_V (As := []) (rest := [.ref aO]) ⟨hx, hb, hml, hown, hts⟩ hT hP (k_X4_pitch l D cI cZ aO q2 p2 5 Wd aOw aDg aWk aSm aFo aBk fo ba le sf aIm aKp (by omega) (by omega)) gX4_machine_X4_pitch rfl rfl nd_X4_pitch [0] rfl (ci := 4) rfl rfl (q0 := 0) rfl hl.1 rfl rfl (Nat.le_of_ble_eq_true rfl) ⟨Nat.le_of_ble_eq_true rfl, Nat.le_of_ble_eq_true rfl⟩ ⟨rfl, rfl⟩ ⟨Nat.zero_le _, Nat.zero_le _⟩ dX4_machine_50 ?_
          refine va_put (D := D) (ci := 4) (v := .int (nI (pw q2 p2))) (ty := .int) (C := RX4) (T := TX4) (N := 16) hx hb hts hi_X4_machine_X4 tyX4 tyX4_ok nmX4 hown hT.1 hP hD hS 0 rfl rfl 3 (by decide) (hts (.fieldLink RX4 19 "SlotStarModel" "reach" "I") (List.mem_of_getElem? (i := 4) rfl)) (fun _ h9 => h9) rfl (by decide +kernel) rfl rfl (Nat.le_of_ble_eq_true rfl) dX4_machine_53 (fun H locs hP hD hS => ?_)
          have hP : va_P D cls5 [(aO, .inr (4, [.int (nI q2), .int (nI p2), .int 5, .int (nI (pw q2 p2)), .ref aOw, .ref aDg, .ref aWk, .ref aSm, .ref aFo, .ref aBk, .int (nI fo), .int (nI ba), .int (nI le), .int (nI sf), .ref aIm, .ref aKp]))] H := hP
          have hD : va_D (va_M [(aO, .inr (4, [.int (nI Q), .int (nI P), .int (nI M), .int (nI Wd), .ref aOw, .ref aDg, .ref aWk, .ref aSm, .ref aFo, .ref aBk, .int (nI fo), .int (nI ba), .int (nI le), .int (nI sf), .ref aIm, .ref aKp]))]) [(aO, .inr (4, [.int (nI q2), .int (nI p2), .int 5, .int (nI (pw q2 p2)), .ref aOw, .ref aDg, .ref aWk, .ref aSm, .ref aFo, .ref aBk, .int (nI fo), .int (nI ba), .int (nI le), .int (nI sf), .ref aIm, .ref aKp]))] := hD
          refine lv_aload_n hx hb dX4_machine_56 rfl (lv_at hl 0 rfl) ?_
          refine ro_V (As := []) (rest := []) ⟨hx, hb, hml, hown, hts⟩ hT hP (k_X4_star l D cI cZ aO q2 p2 5 (pw q2 p2) aOw aDg aWk aSm aFo aBk fo ba le sf aIm aKp (by unfold MV; omega)) gX4_machine_X4_star rfl rfl nd_X4_star [0] rfl (ci := 4) rfl rfl (q0 := 0) rfl hl.1 rfl rfl (Nat.le_of_ble_eq_true rfl) ⟨Nat.le_of_ble_eq_true rfl, Nat.le_of_ble_eq_true rfl⟩ ⟨rfl, rfl⟩ ⟨Nat.zero_le _, Nat.zero_le _⟩ dX4_machine_57 ?_
          exact mu_ret hx hb hr hlocks dX4_machine_60 (by first | (rw [mcT_ok (m := 3) hq2 hp2 (Or.inl rfl)]; exact hP) | (rw [mcT_ok (m := 5) hq2 hp2 (Or.inr rfl)]; exact hP)) hS (by simp [sMac, c_1, c_2, hcq, hcp])
        · skip
          refine lv_bipush (v := (-2)) hx hb dX4_machine_30 (by decide) ?_
          exact mu_ret hx hb hr hlocks dX4_machine_32 (by first | (rw [mcT_q c_1]; exact hP) | (rw [mcT_p c_2]; exact hP) | (rw [mcT_m c_3 c_4]; exact hP)) hS (by simp [sMac, c_1, c_2, c_3, c_4])

set_option maxRecDepth 20000 in
theorem hi_X4_width_X4 : ∀ w ∈ wsX40, w ∈ wsX4_width := by
  intro w h
  unfold wsX4_width
  simp only [List.mem_cons, List.mem_append, h, or_true, true_or]
theorem nd_X4_width : okName yX4_width 1 := by decide +kernel
set_option maxHeartbeats 4000000 in
set_option maxRecDepth 100000 in
theorem k_X4_width (l : Launch) (D : va_G) (cI cZ : ClassId) (aO : Nat) (Q : Nat) (P : Nat) (M : Nat) (Wd : Nat) (aOw : Nat) (aDg : Nat) (aWk : Nat) (aSm : Nat) (aFo : Nat) (aBk : Nat) (fo : Nat) (ba : Nat) (le : Nat) (sf : Nat) (aIm : Nat) (aKp : Nat) (w : Int32) (hv : MV Q P M Wd) : MU l yX4_width wsX4_width ({ frames := 1, cells := 0, slots := 0, locals := 22 } : Room) D cI cZ [(aO, .inr (4, [.int (nI Q), .int (nI P), .int (nI M), .int (nI Wd), .ref aOw, .ref aDg, .ref aWk, .ref aSm, .ref aFo, .ref aBk, .int (nI fo), .int (nI ba), .int (nI le), .int (nI sf), .ref aIm, .ref aKp]))] [.ref aO, .int w] (some (.int (sWid Q Wd w))) [(aO, .inr (4, [.int (nI Q), .int (nI P), .int (nI M), .int (nI (wdT Q Wd w)), .ref aOw, .ref aDg, .ref aWk, .ref aSm, .ref aFo, .ref aBk, .int (nI fo), .int (nI ba), .int (nI le), .int (nI sf), .ref aIm, .ref aKp]))] := by
  refine mu_start (by decide) rfl (Nat.le_of_ble_eq_true rfl) ?_
  intro p e s m args below meth c hx hb hr hml hlocks hts hown hT hP hD hS ls hl
  have hown : s.vm.findClass RX4 = some m.cls := hown
  have hl : lv_has ls 3 [(0, .ref aO), (1, .int w)] := hl
  have hv' := hv
  unfold MV at hv'
  refine lv_iload_n hx hb dX4_width_0 rfl (lv_at hl 1 rfl) ?_
  refine lv_iconst (v := 1) hx hb dX4_width_1 (by decide) ?_
  refine lv_aload_n hx hb dX4_width_2 rfl (lv_at hl 0 rfl) ?_
  refine va_get (D := D) (ci := 4) (v := .int (nI Q)) (C := RX4) (T := TX4) (N := 16) hx hb hts hi_X4_width_X4 hown hT.1 hP 0 rfl rfl 0 (by decide) (hts (.fieldLink RX4 7 "SlotStarModel" "slots" "I") (List.mem_of_getElem? (i := 1) rfl)) (fun _ h9 => h9) rfl dX4_width_3 ?_
  refine lv_iconst (v := 1) hx hb dX4_width_6 (by decide) ?_
  refine lv_isub hx hb dX4_width_7 ?_
  refine ro_S (As := [.int w, .int 1, .int ((nI Q) - 1)]) (rest := []) ⟨hx, hb, hml, hown, hts⟩ hT hP (k_X4_in l D cI cZ w 1 ((nI Q) - 1)) gX4_width_X4_in rfl nd_X4_in [] rfl hl.1 rfl rfl (Nat.le_of_ble_eq_true rfl) ⟨Nat.le_of_ble_eq_true rfl, Nat.le_of_ble_eq_true rfl⟩ ⟨rfl, rfl⟩ ⟨Nat.zero_le _, Nat.zero_le _⟩ dX4_width_8 ?_
  refine lv_if_ne (tgt := 17) hx hb dX4_width_11 (by decide) (fun c_1 => ?_) (fun c_1 => ?_)
  · skip
    obtain ⟨w2, hw2, rfl⟩ := jIn_w (by omega) c_1
    have hcw : cl (nI w2) = w2 := cl_nI (by omega)
    refine lv_aload_n hx hb dX4_width_17 rfl (lv_at hl 0 rfl) ?_
    refine va_get (D := D) (ci := 4) (v := .int (nI Wd)) (C := RX4) (T := TX4) (N := 16) hx hb hts hi_X4_width_X4 hown hT.1 hP 0 rfl rfl 3 (by decide) (hts (.fieldLink RX4 19 "SlotStarModel" "reach" "I") (List.mem_of_getElem? (i := 2) rfl)) (fun _ h9 => h9) rfl dX4_width_18 ?_
    refine lv_istore_n (lv' := [(2, .int (nI Wd)), (0, .ref aO), (1, .int (nI w2))]) hx hb dX4_width_21 rfl hl (by decide) rfl (fun ls hl => ?_)
    refine lv_aload_n hx hb dX4_width_22 rfl (lv_at hl 1 rfl) ?_
    refine lv_iload_n hx hb dX4_width_23 rfl (lv_at hl 2 rfl) ?_
    refine va_put (D := D) (ci := 4) (v := .int (nI w2)) (ty := .int) (C := RX4) (T := TX4) (N := 16) hx hb hts hi_X4_width_X4 tyX4 tyX4_ok nmX4 hown hT.1 hP hD hS 0 rfl rfl 3 (by decide) (hts (.fieldLink RX4 19 "SlotStarModel" "reach" "I") (List.mem_of_getElem? (i := 2) rfl)) (fun _ h9 => h9) rfl (by decide +kernel) rfl rfl (Nat.le_of_ble_eq_true rfl) dX4_width_24 (fun H locs hP hD hS => ?_)
    have hP : va_P D cls5 [(aO, .inr (4, [.int (nI Q), .int (nI P), .int (nI M), .int (nI w2), .ref aOw, .ref aDg, .ref aWk, .ref aSm, .ref aFo, .ref aBk, .int (nI fo), .int (nI ba), .int (nI le), .int (nI sf), .ref aIm, .ref aKp]))] H := hP
    have hD : va_D (va_M [(aO, .inr (4, [.int (nI Q), .int (nI P), .int (nI M), .int (nI Wd), .ref aOw, .ref aDg, .ref aWk, .ref aSm, .ref aFo, .ref aBk, .int (nI fo), .int (nI ba), .int (nI le), .int (nI sf), .ref aIm, .ref aKp]))]) [(aO, .inr (4, [.int (nI Q), .int (nI P), .int (nI M), .int (nI w2), .ref aOw, .ref aDg, .ref aWk, .ref aSm, .ref aFo, .ref aBk, .int (nI fo), .int (nI ba), .int (nI le), .int (nI sf), .ref aIm, .ref aKp]))] := hD
    refine lv_iload_n hx hb dX4_width_27 rfl (lv_at hl 0 rfl) ?_
    exact mu_ret hx hb hr hlocks dX4_width_28 (by simpa only [wdT, c_1, if_false, hcw] using hP) hS (by simp [sWid, c_1])
  · skip
    refine lv_bipush (v := (-2)) hx hb dX4_width_14 (by decide) ?_
    exact mu_ret hx hb hr hlocks dX4_width_16 (by simpa only [wdT, eq_true c_1, if_true] using hP) hS (by simp [sWid, eq_true c_1])

set_option maxRecDepth 20000 in
theorem hi_X4_image_X4 : ∀ w ∈ wsX40, w ∈ wsX4_image := by
  intro w h
  unfold wsX4_image
  simp only [List.mem_cons, List.mem_append, h, or_true, true_or]
theorem nd_X4_image : okName yX4_image 1 := by decide +kernel
set_option maxHeartbeats 4000000 in
set_option maxRecDepth 100000 in
theorem k_X4_image (l : Launch) (D : va_G) (cI cZ : ClassId) (aO : Nat) (Q : Nat) (P : Nat) (M : Nat) (Wd : Nat) (aOw : Nat) (aDg : Nat) (aWk : Nat) (aSm : Nat) (aFo : Nat) (aBk : Nat) (fo : Nat) (ba : Nat) (le : Nat) (sf : Nat) (aIm : Nat) (aKp : Nat) (fIm : Nat → Int32) (fKp : Nat → Int32) (n : Int32) : MU l yX4_image wsX4_image ({ frames := 1, cells := 0, slots := 0, locals := 22 } : Room) D cI cZ [(aO, .inr (4, [.int (nI Q), .int (nI P), .int (nI M), .int (nI Wd), .ref aOw, .ref aDg, .ref aWk, .ref aSm, .ref aFo, .ref aBk, .int (nI fo), .int (nI ba), .int (nI le), .int (nI sf), .ref aIm, .ref aKp])), (aIm, .inl (cI, 8, .inl fIm)), (aKp, .inl (cZ, 2, .inl fKp))] [.ref aO, .int n] (some (.int (sIma n))) [(aO, .inr (4, [.int (nI Q), .int (nI P), .int (nI M), .int (nI Wd), .ref aOw, .ref aDg, .ref aWk, .ref aSm, .ref aFo, .ref aBk, .int (nI fo), .int (nI ba), .int (nI le), .int (nI sf), .ref aIm, .ref aKp])), (aIm, .inl (cI, 8, .inl (imT n fIm Q P M Wd))), (aKp, .inl (cZ, 2, .inl (kpT n fKp)))] := by
  refine mu_start (by decide) rfl (Nat.le_of_ble_eq_true rfl) ?_
  intro p e s m args below meth c hx hb hr hml hlocks hts hown hT hP hD hS ls hl
  have hown : s.vm.findClass RX4 = some m.cls := hown
  have hl : lv_has ls 2 [(0, .ref aO), (1, .int n)] := hl
  refine lv_iload_n hx hb dX4_image_0 rfl (lv_at hl 1 rfl) ?_
  refine lv_iconst (v := 0) hx hb dX4_image_1 (by decide) ?_
  refine lv_iconst (v := 1) hx hb dX4_image_2 (by decide) ?_
  refine ro_S (As := [.int n, .int 0, .int 1]) (rest := []) ⟨hx, hb, hml, hown, hts⟩ hT hP (k_X4_in l D cI cZ n 0 1) gX4_image_X4_in rfl nd_X4_in [] rfl hl.1 rfl rfl (Nat.le_of_ble_eq_true rfl) ⟨Nat.le_of_ble_eq_true rfl, Nat.le_of_ble_eq_true rfl⟩ ⟨rfl, rfl⟩ ⟨Nat.zero_le _, Nat.zero_le _⟩ dX4_image_3 ?_
  refine lv_if_ne (tgt := 12) hx hb dX4_image_6 (by decide) (fun c_1 => ?_) (fun c_1 => ?_)
  · skip
    obtain ⟨n2, hn2, rfl⟩ := jIn_nat 0 1 (by decide) c_1
    have hcn : cl (nI n2) = n2 := cl_nI (by omega)
    refine lv_aload_n hx hb dX4_image_12 rfl (lv_at hl 0 rfl) ?_
    refine va_get (D := D) (ci := 4) (v := .ref aIm) (C := RX4) (T := TX4) (N := 16) hx hb hts hi_X4_image_X4 hown hT.1 hP 0 rfl rfl 14 (by decide) (hts (.fieldLink RX4 41 "SlotStarModel" "image" "[I") (List.mem_of_getElem? (i := 1) rfl)) (fun _ h9 => h9) rfl dX4_image_13 ?_
    refine lv_iconst (v := 4) hx hb dX4_image_16 (by decide) ?_
    refine lv_iload_n hx hb dX4_image_17 rfl (lv_at hl 1 rfl) ?_
    refine lv_imul hx hb dX4_image_18 ?_
    refine top_eq (z := (nI (n2 * 4))) (by exact nI_4 n2) ?_
    refine lv_aload_n hx hb dX4_image_19 rfl (lv_at hl 0 rfl) ?_
    refine va_get (D := D) (ci := 4) (v := .int (nI Q)) (C := RX4) (T := TX4) (N := 16) hx hb hts hi_X4_image_X4 hown hT.1 hP 0 rfl rfl 0 (by decide) (hts (.fieldLink RX4 7 "SlotStarModel" "slots" "I") (List.mem_of_getElem? (i := 2) rfl)) (fun _ h9 => h9) rfl dX4_image_20 ?_
    refine st_i hx hb hT hP hD hS 1 rfl dX4_image_23 (k := (n2 * 4)) (W1 := [(aO, .inr (4, [.int (nI Q), .int (nI P), .int (nI M), .int (nI Wd), .ref aOw, .ref aDg, .ref aWk, .ref aSm, .ref aFo, .ref aBk, .int (nI fo), .int (nI ba), .int (nI le), .int (nI sf), .ref aIm, .ref aKp])), (aIm, .inl (cI, 8, .inl (upd fIm (n2 * 4) (nI Q)))), (aKp, .inl (cZ, 2, .inl fKp))]) rfl (by omega) (by decide) rfl (fun H locs hP hD hS => ?_)
    refine lv_aload_n hx hb dX4_image_24 rfl (lv_at hl 0 rfl) ?_
    refine va_get (D := D) (ci := 4) (v := .ref aIm) (C := RX4) (T := TX4) (N := 16) hx hb hts hi_X4_image_X4 hown hT.1 hP 0 rfl rfl 14 (by decide) (hts (.fieldLink RX4 41 "SlotStarModel" "image" "[I") (List.mem_of_getElem? (i := 1) rfl)) (fun _ h9 => h9) rfl dX4_image_25 ?_
    refine lv_iconst (v := 4) hx hb dX4_image_28 (by decide) ?_
    refine lv_iload_n hx hb dX4_image_29 rfl (lv_at hl 1 rfl) ?_
    refine lv_imul hx hb dX4_image_30 ?_
    refine top_eq (z := (nI (n2 * 4))) (by exact nI_4 n2) ?_
    refine lv_iconst (v := 1) hx hb dX4_image_31 (by decide) ?_
    refine lv_iadd hx hb dX4_image_32 ?_
    refine top_eq (z := (nI (n2 * 4 + 1))) (by exact nI_4k n2 1) ?_
    refine lv_aload_n hx hb dX4_image_33 rfl (lv_at hl 0 rfl) ?_
    refine va_get (D := D) (ci := 4) (v := .int (nI P)) (C := RX4) (T := TX4) (N := 16) hx hb hts hi_X4_image_X4 hown hT.1 hP 0 rfl rfl 1 (by decide) (hts (.fieldLink RX4 13 "SlotStarModel" "poles" "I") (List.mem_of_getElem? (i := 3) rfl)) (fun _ h9 => h9) rfl dX4_image_34 ?_
    refine st_i hx hb hT hP hD hS 1 rfl dX4_image_37 (k := (n2 * 4 + 1)) (W1 := [(aO, .inr (4, [.int (nI Q), .int (nI P), .int (nI M), .int (nI Wd), .ref aOw, .ref aDg, .ref aWk, .ref aSm, .ref aFo, .ref aBk, .int (nI fo), .int (nI ba), .int (nI le), .int (nI sf), .ref aIm, .ref aKp])), (aIm, .inl (cI, 8, .inl (upd (upd fIm (n2 * 4) (nI Q)) (n2 * 4 + 1) (nI P)))), (aKp, .inl (cZ, 2, .inl fKp))]) rfl (by omega) (by decide) rfl (fun H locs hP hD hS => ?_)
    refine lv_aload_n hx hb dX4_image_38 rfl (lv_at hl 0 rfl) ?_
    refine va_get (D := D) (ci := 4) (v := .ref aIm) (C := RX4) (T := TX4) (N := 16) hx hb hts hi_X4_image_X4 hown hT.1 hP 0 rfl rfl 14 (by decide) (hts (.fieldLink RX4 41 "SlotStarModel" "image" "[I") (List.mem_of_getElem? (i := 1) rfl)) (fun _ h9 => h9) rfl dX4_image_39 ?_
    refine lv_iconst (v := 4) hx hb dX4_image_42 (by decide) ?_
    refine lv_iload_n hx hb dX4_image_43 rfl (lv_at hl 1 rfl) ?_
    refine lv_imul hx hb dX4_image_44 ?_
    refine top_eq (z := (nI (n2 * 4))) (by exact nI_4 n2) ?_
    refine lv_iconst (v := 2) hx hb dX4_image_45 (by decide) ?_
    refine lv_iadd hx hb dX4_image_46 ?_
    refine top_eq (z := (nI (n2 * 4 + 2))) (by exact nI_4k n2 2) ?_
    refine lv_aload_n hx hb dX4_image_47 rfl (lv_at hl 0 rfl) ?_
    refine va_get (D := D) (ci := 4) (v := .int (nI M)) (C := RX4) (T := TX4) (N := 16) hx hb hts hi_X4_image_X4 hown hT.1 hP 0 rfl rfl 2 (by decide) (hts (.fieldLink RX4 16 "SlotStarModel" "phases" "I") (List.mem_of_getElem? (i := 4) rfl)) (fun _ h9 => h9) rfl dX4_image_48 ?_
    refine st_i hx hb hT hP hD hS 1 rfl dX4_image_51 (k := (n2 * 4 + 2)) (W1 := [(aO, .inr (4, [.int (nI Q), .int (nI P), .int (nI M), .int (nI Wd), .ref aOw, .ref aDg, .ref aWk, .ref aSm, .ref aFo, .ref aBk, .int (nI fo), .int (nI ba), .int (nI le), .int (nI sf), .ref aIm, .ref aKp])), (aIm, .inl (cI, 8, .inl (upd (upd (upd fIm (n2 * 4) (nI Q)) (n2 * 4 + 1) (nI P)) (n2 * 4 + 2) (nI M)))), (aKp, .inl (cZ, 2, .inl fKp))]) rfl (by omega) (by decide) rfl (fun H locs hP hD hS => ?_)
    refine lv_aload_n hx hb dX4_image_52 rfl (lv_at hl 0 rfl) ?_
    refine va_get (D := D) (ci := 4) (v := .ref aIm) (C := RX4) (T := TX4) (N := 16) hx hb hts hi_X4_image_X4 hown hT.1 hP 0 rfl rfl 14 (by decide) (hts (.fieldLink RX4 41 "SlotStarModel" "image" "[I") (List.mem_of_getElem? (i := 1) rfl)) (fun _ h9 => h9) rfl dX4_image_53 ?_
    refine lv_iconst (v := 4) hx hb dX4_image_56 (by decide) ?_
    refine lv_iload_n hx hb dX4_image_57 rfl (lv_at hl 1 rfl) ?_
    refine lv_imul hx hb dX4_image_58 ?_
    refine top_eq (z := (nI (n2 * 4))) (by exact nI_4 n2) ?_
    refine lv_iconst (v := 3) hx hb dX4_image_59 (by decide) ?_
    refine lv_iadd hx hb dX4_image_60 ?_
    refine top_eq (z := (nI (n2 * 4 + 3))) (by exact nI_4k n2 3) ?_
    refine lv_aload_n hx hb dX4_image_61 rfl (lv_at hl 0 rfl) ?_
    refine va_get (D := D) (ci := 4) (v := .int (nI Wd)) (C := RX4) (T := TX4) (N := 16) hx hb hts hi_X4_image_X4 hown hT.1 hP 0 rfl rfl 3 (by decide) (hts (.fieldLink RX4 19 "SlotStarModel" "reach" "I") (List.mem_of_getElem? (i := 5) rfl)) (fun _ h9 => h9) rfl dX4_image_62 ?_
    refine st_i hx hb hT hP hD hS 1 rfl dX4_image_65 (k := (n2 * 4 + 3)) (W1 := [(aO, .inr (4, [.int (nI Q), .int (nI P), .int (nI M), .int (nI Wd), .ref aOw, .ref aDg, .ref aWk, .ref aSm, .ref aFo, .ref aBk, .int (nI fo), .int (nI ba), .int (nI le), .int (nI sf), .ref aIm, .ref aKp])), (aIm, .inl (cI, 8, .inl (upd (upd (upd (upd fIm (n2 * 4) (nI Q)) (n2 * 4 + 1) (nI P)) (n2 * 4 + 2) (nI M)) (n2 * 4 + 3) (nI Wd)))), (aKp, .inl (cZ, 2, .inl fKp))]) rfl (by omega) (by decide) rfl (fun H locs hP hD hS => ?_)
    refine lv_aload_n hx hb dX4_image_66 rfl (lv_at hl 0 rfl) ?_
    refine va_get (D := D) (ci := 4) (v := .ref aKp) (C := RX4) (T := TX4) (N := 16) hx hb hts hi_X4_image_X4 hown hT.1 hP 0 rfl rfl 15 (by decide) (hts (.fieldLink RX4 44 "SlotStarModel" "isKept" "[Z") (List.mem_of_getElem? (i := 6) rfl)) (fun _ h9 => h9) rfl dX4_image_67 ?_
    refine lv_iload_n hx hb dX4_image_70 rfl (lv_at hl 1 rfl) ?_
    refine lv_iconst (v := 1) hx hb dX4_image_71 (by decide) ?_
    refine st_z hx hb hT hP hD hS 2 rfl dX4_image_72 (k := n2) (W1 := [(aO, .inr (4, [.int (nI Q), .int (nI P), .int (nI M), .int (nI Wd), .ref aOw, .ref aDg, .ref aWk, .ref aSm, .ref aFo, .ref aBk, .int (nI fo), .int (nI ba), .int (nI le), .int (nI sf), .ref aIm, .ref aKp])), (aIm, .inl (cI, 8, .inl (upd (upd (upd (upd fIm (n2 * 4) (nI Q)) (n2 * 4 + 1) (nI P)) (n2 * 4 + 2) (nI M)) (n2 * 4 + 3) (nI Wd)))), (aKp, .inl (cZ, 2, .inl (upd fKp n2 (vp_nar .boolean 1))))]) rfl (by omega) (by decide) rfl (fun H locs hP hD hS => ?_)
    refine lv_iconst (v := 1) hx hb dX4_image_73 (by decide) ?_
    exact mu_ret hx hb hr hlocks dX4_image_74 (by simpa only [imT, kpT, c_1, if_false, hcn] using hP) hS (by simp [sIma, c_1])
  · skip
    refine lv_bipush (v := (-2)) hx hb dX4_image_9 (by decide) ?_
    exact mu_ret hx hb hr hlocks dX4_image_11 (by simpa only [imT, kpT, eq_true c_1, if_true] using hP) hS (by simp [sIma, eq_true c_1])

set_option maxRecDepth 20000 in
theorem hi_X4_restore_X4 : ∀ w ∈ wsX40, w ∈ wsX4_restore := by
  intro w h
  unfold wsX4_restore
  simp only [List.mem_cons, List.mem_append, h, or_true, true_or]
theorem nd_X4_restore : okName yX4_restore 1 := by decide +kernel
set_option maxHeartbeats 4000000 in
set_option maxRecDepth 100000 in
theorem k_X4_restore (l : Launch) (D : va_G) (cI cZ : ClassId) (aO : Nat) (Q : Nat) (P : Nat) (M : Nat) (Wd : Nat) (aOw : Nat) (aDg : Nat) (aWk : Nat) (aSm : Nat) (aFo : Nat) (aBk : Nat) (fo : Nat) (ba : Nat) (le : Nat) (sf : Nat) (aIm : Nat) (aKp : Nat) (fIm : Nat → Int32) (fKp : Nat → Int32) (n : Int32) (hi : imN fIm fKp) : MU l yX4_restore wsX4_restore ({ frames := 1, cells := 0, slots := 0, locals := 22 } : Room) D cI cZ [(aO, .inr (4, [.int (nI Q), .int (nI P), .int (nI M), .int (nI Wd), .ref aOw, .ref aDg, .ref aWk, .ref aSm, .ref aFo, .ref aBk, .int (nI fo), .int (nI ba), .int (nI le), .int (nI sf), .ref aIm, .ref aKp])), (aIm, .inl (cI, 8, .inl fIm)), (aKp, .inl (cZ, 2, .inl fKp))] [.ref aO, .int n] (some (.int (smRes n fKp))) [(aO, .inr (4, [.int (nI ((mrT n fIm fKp (Q, P, M, Wd)).1)), .int (nI ((mrT n fIm fKp (Q, P, M, Wd)).2.1)), .int (nI ((mrT n fIm fKp (Q, P, M, Wd)).2.2.1)), .int (nI ((mrT n fIm fKp (Q, P, M, Wd)).2.2.2)), .ref aOw, .ref aDg, .ref aWk, .ref aSm, .ref aFo, .ref aBk, .int (nI fo), .int (nI ba), .int (nI le), .int (nI sf), .ref aIm, .ref aKp])), (aIm, .inl (cI, 8, .inl fIm)), (aKp, .inl (cZ, 2, .inl fKp))] := by
  refine mu_start (by decide) rfl (Nat.le_of_ble_eq_true rfl) ?_
  intro p e s m args below meth c hx hb hr hml hlocks hts hown hT hP hD hS ls hl
  have hown : s.vm.findClass RX4 = some m.cls := hown
  have hl : lv_has ls 2 [(0, .ref aO), (1, .int n)] := hl
  refine lv_iload_n hx hb dX4_restore_0 rfl (lv_at hl 1 rfl) ?_
  refine lv_iconst (v := 0) hx hb dX4_restore_1 (by decide) ?_
  refine lv_iconst (v := 1) hx hb dX4_restore_2 (by decide) ?_
  refine ro_S (As := [.int n, .int 0, .int 1]) (rest := []) ⟨hx, hb, hml, hown, hts⟩ hT hP (k_X4_in l D cI cZ n 0 1) gX4_restore_X4_in rfl nd_X4_in [] rfl hl.1 rfl rfl (Nat.le_of_ble_eq_true rfl) ⟨Nat.le_of_ble_eq_true rfl, Nat.le_of_ble_eq_true rfl⟩ ⟨rfl, rfl⟩ ⟨Nat.zero_le _, Nat.zero_le _⟩ dX4_restore_3 ?_
  refine lv_if_ne (tgt := 12) hx hb dX4_restore_6 (by decide) (fun c_1 => ?_) (fun c_1 => ?_)
  · skip
    obtain ⟨n2, hn2, rfl⟩ := jIn_nat 0 1 (by decide) c_1
    have hcn : cl (nI n2) = n2 := cl_nI (by omega)
    refine lv_aload_n hx hb dX4_restore_12 rfl (lv_at hl 0 rfl) ?_
    refine va_get (D := D) (ci := 4) (v := .ref aKp) (C := RX4) (T := TX4) (N := 16) hx hb hts hi_X4_restore_X4 hown hT.1 hP 0 rfl rfl 15 (by decide) (hts (.fieldLink RX4 44 "SlotStarModel" "isKept" "[Z") (List.mem_of_getElem? (i := 1) rfl)) (fun _ h9 => h9) rfl dX4_restore_13 ?_
    refine lv_iload_n hx hb dX4_restore_16 rfl (lv_at hl 1 rfl) ?_
    refine ld_z hx hb hT hP 2 rfl dX4_restore_17 (k := n2) rfl (by omega) (by decide) ?_
    refine lv_if_ne (tgt := 24) hx hb dX4_restore_18 (by decide) (fun c_2 => ?_) (fun c_2 => ?_)
    · skip
      obtain ⟨i0, i1, i2, i3⟩ := hi n2 (by omega) c_2
      refine lv_aload_n hx hb dX4_restore_24 rfl (lv_at hl 0 rfl) ?_
      refine lv_aload_n hx hb dX4_restore_25 rfl (lv_at hl 0 rfl) ?_
      refine va_get (D := D) (ci := 4) (v := .ref aIm) (C := RX4) (T := TX4) (N := 16) hx hb hts hi_X4_restore_X4 hown hT.1 hP 0 rfl rfl 14 (by decide) (hts (.fieldLink RX4 41 "SlotStarModel" "image" "[I") (List.mem_of_getElem? (i := 2) rfl)) (fun _ h9 => h9) rfl dX4_restore_26 ?_
      refine lv_iconst (v := 4) hx hb dX4_restore_29 (by decide) ?_
      refine lv_iload_n hx hb dX4_restore_30 rfl (lv_at hl 1 rfl) ?_
      refine lv_imul hx hb dX4_restore_31 ?_
      refine top_eq (z := (nI (n2 * 4))) (by exact nI_4 n2) ?_
      refine ld_i hx hb hT hP 1 rfl dX4_restore_32 (k := (n2 * 4)) rfl (by omega) (by decide) ?_
      refine top_eq (z := (nI (cl (fIm (n2 * 4))))) (by exact i0) ?_
      refine va_put (D := D) (ci := 4) (v := .int (nI (cl (fIm (n2 * 4))))) (ty := .int) (C := RX4) (T := TX4) (N := 16) hx hb hts hi_X4_restore_X4 tyX4 tyX4_ok nmX4 hown hT.1 hP hD hS 0 rfl rfl 0 (by decide) (hts (.fieldLink RX4 7 "SlotStarModel" "slots" "I") (List.mem_of_getElem? (i := 3) rfl)) (fun _ h9 => h9) rfl (by decide +kernel) rfl rfl (Nat.le_of_ble_eq_true rfl) dX4_restore_33 (fun H locs hP hD hS => ?_)
      have hP : va_P D cls5 [(aO, .inr (4, [.int (nI (cl (fIm (n2 * 4)))), .int (nI P), .int (nI M), .int (nI Wd), .ref aOw, .ref aDg, .ref aWk, .ref aSm, .ref aFo, .ref aBk, .int (nI fo), .int (nI ba), .int (nI le), .int (nI sf), .ref aIm, .ref aKp])), (aIm, .inl (cI, 8, .inl fIm)), (aKp, .inl (cZ, 2, .inl fKp))] H := hP
      have hD : va_D (va_M [(aO, .inr (4, [.int (nI Q), .int (nI P), .int (nI M), .int (nI Wd), .ref aOw, .ref aDg, .ref aWk, .ref aSm, .ref aFo, .ref aBk, .int (nI fo), .int (nI ba), .int (nI le), .int (nI sf), .ref aIm, .ref aKp])), (aIm, .inl (cI, 8, .inl fIm)), (aKp, .inl (cZ, 2, .inl fKp))]) [(aO, .inr (4, [.int (nI (cl (fIm (n2 * 4)))), .int (nI P), .int (nI M), .int (nI Wd), .ref aOw, .ref aDg, .ref aWk, .ref aSm, .ref aFo, .ref aBk, .int (nI fo), .int (nI ba), .int (nI le), .int (nI sf), .ref aIm, .ref aKp])), (aIm, .inl (cI, 8, .inl fIm)), (aKp, .inl (cZ, 2, .inl fKp))] := hD
      refine lv_aload_n hx hb dX4_restore_36 rfl (lv_at hl 0 rfl) ?_
      refine lv_aload_n hx hb dX4_restore_37 rfl (lv_at hl 0 rfl) ?_
      refine va_get (D := D) (ci := 4) (v := .ref aIm) (C := RX4) (T := TX4) (N := 16) hx hb hts hi_X4_restore_X4 hown hT.1 hP 0 rfl rfl 14 (by decide) (hts (.fieldLink RX4 41 "SlotStarModel" "image" "[I") (List.mem_of_getElem? (i := 2) rfl)) (fun _ h9 => h9) rfl dX4_restore_38 ?_
      refine lv_iconst (v := 4) hx hb dX4_restore_41 (by decide) ?_
      refine lv_iload_n hx hb dX4_restore_42 rfl (lv_at hl 1 rfl) ?_
      refine lv_imul hx hb dX4_restore_43 ?_
      refine top_eq (z := (nI (n2 * 4))) (by exact nI_4 n2) ?_
      refine lv_iconst (v := 1) hx hb dX4_restore_44 (by decide) ?_
      refine lv_iadd hx hb dX4_restore_45 ?_
      refine top_eq (z := (nI (n2 * 4 + 1))) (by exact nI_4k n2 1) ?_
      refine ld_i hx hb hT hP 1 rfl dX4_restore_46 (k := (n2 * 4 + 1)) rfl (by omega) (by decide) ?_
      refine top_eq (z := (nI (cl (fIm (n2 * 4 + 1))))) (by exact i1) ?_
      refine va_put (D := D) (ci := 4) (v := .int (nI (cl (fIm (n2 * 4 + 1))))) (ty := .int) (C := RX4) (T := TX4) (N := 16) hx hb hts hi_X4_restore_X4 tyX4 tyX4_ok nmX4 hown hT.1 hP hD hS 0 rfl rfl 1 (by decide) (hts (.fieldLink RX4 13 "SlotStarModel" "poles" "I") (List.mem_of_getElem? (i := 4) rfl)) (fun _ h9 => h9) rfl (by decide +kernel) rfl rfl (Nat.le_of_ble_eq_true rfl) dX4_restore_47 (fun H locs hP hD hS => ?_)
      have hP : va_P D cls5 [(aO, .inr (4, [.int (nI (cl (fIm (n2 * 4)))), .int (nI (cl (fIm (n2 * 4 + 1)))), .int (nI M), .int (nI Wd), .ref aOw, .ref aDg, .ref aWk, .ref aSm, .ref aFo, .ref aBk, .int (nI fo), .int (nI ba), .int (nI le), .int (nI sf), .ref aIm, .ref aKp])), (aIm, .inl (cI, 8, .inl fIm)), (aKp, .inl (cZ, 2, .inl fKp))] H := hP
      have hD : va_D (va_M [(aO, .inr (4, [.int (nI Q), .int (nI P), .int (nI M), .int (nI Wd), .ref aOw, .ref aDg, .ref aWk, .ref aSm, .ref aFo, .ref aBk, .int (nI fo), .int (nI ba), .int (nI le), .int (nI sf), .ref aIm, .ref aKp])), (aIm, .inl (cI, 8, .inl fIm)), (aKp, .inl (cZ, 2, .inl fKp))]) [(aO, .inr (4, [.int (nI (cl (fIm (n2 * 4)))), .int (nI (cl (fIm (n2 * 4 + 1)))), .int (nI M), .int (nI Wd), .ref aOw, .ref aDg, .ref aWk, .ref aSm, .ref aFo, .ref aBk, .int (nI fo), .int (nI ba), .int (nI le), .int (nI sf), .ref aIm, .ref aKp])), (aIm, .inl (cI, 8, .inl fIm)), (aKp, .inl (cZ, 2, .inl fKp))] := hD
      refine lv_aload_n hx hb dX4_restore_50 rfl (lv_at hl 0 rfl) ?_
      refine lv_aload_n hx hb dX4_restore_51 rfl (lv_at hl 0 rfl) ?_
      refine va_get (D := D) (ci := 4) (v := .ref aIm) (C := RX4) (T := TX4) (N := 16) hx hb hts hi_X4_restore_X4 hown hT.1 hP 0 rfl rfl 14 (by decide) (hts (.fieldLink RX4 41 "SlotStarModel" "image" "[I") (List.mem_of_getElem? (i := 2) rfl)) (fun _ h9 => h9) rfl dX4_restore_52 ?_
      refine lv_iconst (v := 4) hx hb dX4_restore_55 (by decide) ?_
      refine lv_iload_n hx hb dX4_restore_56 rfl (lv_at hl 1 rfl) ?_
      refine lv_imul hx hb dX4_restore_57 ?_
      refine top_eq (z := (nI (n2 * 4))) (by exact nI_4 n2) ?_
      refine lv_iconst (v := 2) hx hb dX4_restore_58 (by decide) ?_
      refine lv_iadd hx hb dX4_restore_59 ?_
      refine top_eq (z := (nI (n2 * 4 + 2))) (by exact nI_4k n2 2) ?_
      refine ld_i hx hb hT hP 1 rfl dX4_restore_60 (k := (n2 * 4 + 2)) rfl (by omega) (by decide) ?_
      refine top_eq (z := (nI (cl (fIm (n2 * 4 + 2))))) (by exact i2) ?_
      refine va_put (D := D) (ci := 4) (v := .int (nI (cl (fIm (n2 * 4 + 2))))) (ty := .int) (C := RX4) (T := TX4) (N := 16) hx hb hts hi_X4_restore_X4 tyX4 tyX4_ok nmX4 hown hT.1 hP hD hS 0 rfl rfl 2 (by decide) (hts (.fieldLink RX4 16 "SlotStarModel" "phases" "I") (List.mem_of_getElem? (i := 5) rfl)) (fun _ h9 => h9) rfl (by decide +kernel) rfl rfl (Nat.le_of_ble_eq_true rfl) dX4_restore_61 (fun H locs hP hD hS => ?_)
      have hP : va_P D cls5 [(aO, .inr (4, [.int (nI (cl (fIm (n2 * 4)))), .int (nI (cl (fIm (n2 * 4 + 1)))), .int (nI (cl (fIm (n2 * 4 + 2)))), .int (nI Wd), .ref aOw, .ref aDg, .ref aWk, .ref aSm, .ref aFo, .ref aBk, .int (nI fo), .int (nI ba), .int (nI le), .int (nI sf), .ref aIm, .ref aKp])), (aIm, .inl (cI, 8, .inl fIm)), (aKp, .inl (cZ, 2, .inl fKp))] H := hP
      have hD : va_D (va_M [(aO, .inr (4, [.int (nI Q), .int (nI P), .int (nI M), .int (nI Wd), .ref aOw, .ref aDg, .ref aWk, .ref aSm, .ref aFo, .ref aBk, .int (nI fo), .int (nI ba), .int (nI le), .int (nI sf), .ref aIm, .ref aKp])), (aIm, .inl (cI, 8, .inl fIm)), (aKp, .inl (cZ, 2, .inl fKp))]) [(aO, .inr (4, [.int (nI (cl (fIm (n2 * 4)))), .int (nI (cl (fIm (n2 * 4 + 1)))), .int (nI (cl (fIm (n2 * 4 + 2)))), .int (nI Wd), .ref aOw, .ref aDg, .ref aWk, .ref aSm, .ref aFo, .ref aBk, .int (nI fo), .int (nI ba), .int (nI le), .int (nI sf), .ref aIm, .ref aKp])), (aIm, .inl (cI, 8, .inl fIm)), (aKp, .inl (cZ, 2, .inl fKp))] := hD
      refine lv_aload_n hx hb dX4_restore_64 rfl (lv_at hl 0 rfl) ?_
      refine lv_aload_n hx hb dX4_restore_65 rfl (lv_at hl 0 rfl) ?_
      refine va_get (D := D) (ci := 4) (v := .ref aIm) (C := RX4) (T := TX4) (N := 16) hx hb hts hi_X4_restore_X4 hown hT.1 hP 0 rfl rfl 14 (by decide) (hts (.fieldLink RX4 41 "SlotStarModel" "image" "[I") (List.mem_of_getElem? (i := 2) rfl)) (fun _ h9 => h9) rfl dX4_restore_66 ?_
      refine lv_iconst (v := 4) hx hb dX4_restore_69 (by decide) ?_
      refine lv_iload_n hx hb dX4_restore_70 rfl (lv_at hl 1 rfl) ?_
      refine lv_imul hx hb dX4_restore_71 ?_
      refine top_eq (z := (nI (n2 * 4))) (by exact nI_4 n2) ?_
      refine lv_iconst (v := 3) hx hb dX4_restore_72 (by decide) ?_
      refine lv_iadd hx hb dX4_restore_73 ?_
      refine top_eq (z := (nI (n2 * 4 + 3))) (by exact nI_4k n2 3) ?_
      refine ld_i hx hb hT hP 1 rfl dX4_restore_74 (k := (n2 * 4 + 3)) rfl (by omega) (by decide) ?_
      refine top_eq (z := (nI (cl (fIm (n2 * 4 + 3))))) (by exact i3) ?_
      refine va_put (D := D) (ci := 4) (v := .int (nI (cl (fIm (n2 * 4 + 3))))) (ty := .int) (C := RX4) (T := TX4) (N := 16) hx hb hts hi_X4_restore_X4 tyX4 tyX4_ok nmX4 hown hT.1 hP hD hS 0 rfl rfl 3 (by decide) (hts (.fieldLink RX4 19 "SlotStarModel" "reach" "I") (List.mem_of_getElem? (i := 6) rfl)) (fun _ h9 => h9) rfl (by decide +kernel) rfl rfl (Nat.le_of_ble_eq_true rfl) dX4_restore_75 (fun H locs hP hD hS => ?_)
      have hP : va_P D cls5 [(aO, .inr (4, [.int (nI (cl (fIm (n2 * 4)))), .int (nI (cl (fIm (n2 * 4 + 1)))), .int (nI (cl (fIm (n2 * 4 + 2)))), .int (nI (cl (fIm (n2 * 4 + 3)))), .ref aOw, .ref aDg, .ref aWk, .ref aSm, .ref aFo, .ref aBk, .int (nI fo), .int (nI ba), .int (nI le), .int (nI sf), .ref aIm, .ref aKp])), (aIm, .inl (cI, 8, .inl fIm)), (aKp, .inl (cZ, 2, .inl fKp))] H := hP
      have hD : va_D (va_M [(aO, .inr (4, [.int (nI Q), .int (nI P), .int (nI M), .int (nI Wd), .ref aOw, .ref aDg, .ref aWk, .ref aSm, .ref aFo, .ref aBk, .int (nI fo), .int (nI ba), .int (nI le), .int (nI sf), .ref aIm, .ref aKp])), (aIm, .inl (cI, 8, .inl fIm)), (aKp, .inl (cZ, 2, .inl fKp))]) [(aO, .inr (4, [.int (nI (cl (fIm (n2 * 4)))), .int (nI (cl (fIm (n2 * 4 + 1)))), .int (nI (cl (fIm (n2 * 4 + 2)))), .int (nI (cl (fIm (n2 * 4 + 3)))), .ref aOw, .ref aDg, .ref aWk, .ref aSm, .ref aFo, .ref aBk, .int (nI fo), .int (nI ba), .int (nI le), .int (nI sf), .ref aIm, .ref aKp])), (aIm, .inl (cI, 8, .inl fIm)), (aKp, .inl (cZ, 2, .inl fKp))] := hD
      refine lv_iconst (v := 1) hx hb dX4_restore_78 (by decide) ?_
      exact mu_ret hx hb hr hlocks dX4_restore_79 (by have e9 := mrT_1 (g := fIm) (kp := fKp) (t := (Q, P, M, Wd)) (by omega) c_2; rw [e9]; exact hP) hS (by first | simp [smRes, c_1, c_2, hcn] | simp [smRes, c_1, c_2])
    · skip
      refine lv_bipush (v := (-3)) hx hb dX4_restore_21 (by decide) ?_
      exact mu_ret hx hb hr hlocks dX4_restore_23 (by have e9 := mrT_0 (g := fIm) (kp := fKp) (t := (Q, P, M, Wd)) (by omega) c_2; rw [e9]; exact hP) hS (by first | simp [smRes, c_1, eq_true c_2, hcn] | simp [smRes, c_1, eq_true c_2])
  · skip
    refine lv_bipush (v := (-2)) hx hb dX4_restore_9 (by decide) ?_
    exact mu_ret hx hb hr hlocks dX4_restore_11 (by have e9 := mrT_n (g := fIm) (kp := fKp) (t := (Q, P, M, Wd)) c_1; rw [e9]; exact hP) hS (by first | simp [smRes, eq_true c_1, hcn] | simp [smRes, eq_true c_1])

set_option maxRecDepth 20000 in
theorem hi_X4_wayOf_X4 : ∀ w ∈ wsX40, w ∈ wsX4_wayOf := by
  intro w h
  unfold wsX4_wayOf
  simp only [List.mem_cons, List.mem_append, h, or_true, true_or]
theorem nd_X4_wayOf : okName yX4_wayOf 2 := by decide +kernel
set_option maxHeartbeats 4000000 in
set_option maxRecDepth 100000 in
theorem k_X4_wayOf (l : Launch) (D : va_G) (cI cZ : ClassId) (aO : Nat) (Q : Nat) (P : Nat) (M : Nat) (Wd : Nat) (aOw : Nat) (aDg : Nat) (aWk : Nat) (aSm : Nat) (aFo : Nat) (aBk : Nat) (fo : Nat) (ba : Nat) (le : Nat) (sf : Nat) (aIm : Nat) (aKp : Nat) (a : Nat) (b : Nat) (hQ : Q ≤ 48) (ha : a < Q) (hbb : b < Q) : RO l yX4_wayOf wsX4_wayOf ({ frames := 0, cells := 0, slots := 0, locals := 0 } : Room) D cI cZ [(aO, .inr (4, [.int (nI Q), .int (nI P), .int (nI M), .int (nI Wd), .ref aOw, .ref aDg, .ref aWk, .ref aSm, .ref aFo, .ref aBk, .int (nI fo), .int (nI ba), .int (nI le), .int (nI sf), .ref aIm, .ref aKp]))] [.ref aO, .int (nI a), .int (nI b)] (nI (wB Q a b)) := by
  refine ro_start (by decide) rfl (Nat.le_of_ble_eq_true rfl) ?_
  intro p e s m args below meth c hx hb hr hml hlocks hts hown hT hP ls hl
  have hown : s.vm.findClass RX4 = some m.cls := hown
  have hl : lv_has ls 4 [(0, .ref aO), (1, .int (nI a)), (2, .int (nI b))] := hl
  refine lv_iload_n hx hb dX4_wayOf_0 rfl (lv_at hl 1 rfl) ?_
  refine lv_iload_n hx hb dX4_wayOf_1 rfl (lv_at hl 2 rfl) ?_
  refine lv_icmp_ge (tgt := 11) hx hb dX4_wayOf_2 (by decide) (fun c_1 => ?_) (fun c_1 => ?_)
  · skip
    have hab : ¬ a < b := Nat.not_lt.mpr ((nI_leI (by omega) (by omega)).mp c_1)
    have hd9 : a - b = if a < b then b - a else a - b := (if_neg hab).symm
    refine lv_iload_n hx hb dX4_wayOf_11 rfl (lv_at hl 1 rfl) ?_
    refine lv_iload_n hx hb dX4_wayOf_12 rfl (lv_at hl 2 rfl) ?_
    refine lv_isub hx hb dX4_wayOf_13 ?_
    refine top_eq (z := (nI (a - b))) (by exact pk_sub (by omega)) ?_
    refine lv_istore_n (lv' := [(3, .int (nI (a - b))), (0, .ref aO), (1, .int (nI a)), (2, .int (nI b))]) hx hb dX4_wayOf_14 rfl hl (by decide) rfl (fun ls hl => ?_)
    refine lv_iload_n hx hb dX4_wayOf_15 rfl (lv_at hl 0 rfl) ?_
    refine lv_aload_n hx hb dX4_wayOf_16 rfl (lv_at hl 1 rfl) ?_
    refine va_get (D := D) (ci := 4) (v := .int (nI Q)) (C := RX4) (T := TX4) (N := 16) hx hb hts hi_X4_wayOf_X4 hown hT.1 hP 0 rfl rfl 0 (by decide) (hts (.fieldLink RX4 7 "SlotStarModel" "slots" "I") (List.mem_of_getElem? (i := 1) rfl)) (fun _ h9 => h9) rfl dX4_wayOf_17 ?_
    refine lv_iload_n hx hb dX4_wayOf_20 rfl (lv_at hl 0 rfl) ?_
    refine lv_isub hx hb dX4_wayOf_21 ?_
    refine lv_icmp_ge (tgt := 29) hx hb dX4_wayOf_22 (by decide) (fun c_2 => ?_) (fun c_2 => ?_)
    · skip
      refine lv_aload_n hx hb dX4_wayOf_29 rfl (lv_at hl 1 rfl) ?_
      refine va_get (D := D) (ci := 4) (v := .int (nI Q)) (C := RX4) (T := TX4) (N := 16) hx hb hts hi_X4_wayOf_X4 hown hT.1 hP 0 rfl rfl 0 (by decide) (hts (.fieldLink RX4 7 "SlotStarModel" "slots" "I") (List.mem_of_getElem? (i := 1) rfl)) (fun _ h9 => h9) rfl dX4_wayOf_30 ?_
      refine lv_iload_n hx hb dX4_wayOf_33 rfl (lv_at hl 0 rfl) ?_
      refine lv_isub hx hb dX4_wayOf_34 ?_
      exact ro_ret hx hb hr hlocks dX4_wayOf_35 (by first | exact m_way ha hbb hQ hd9 c_2 | exact m_way2 ha hbb hQ hd9 c_2 | exact m_way ha hbb hQ hd9 c_3 | exact m_way2 ha hbb hQ hd9 c_3)
    · skip
      refine lv_iload_n hx hb dX4_wayOf_25 rfl (lv_at hl 0 rfl) ?_
      refine lv_goto (tgt := 35) hx hb dX4_wayOf_26 (by decide) ?_
      exact ro_ret hx hb hr hlocks dX4_wayOf_35 (by first | exact m_way ha hbb hQ hd9 c_2 | exact m_way2 ha hbb hQ hd9 c_2 | exact m_way ha hbb hQ hd9 c_3 | exact m_way2 ha hbb hQ hd9 c_3)
  · skip
    have hab : a < b := Nat.not_le.mp fun q => c_1 (nI_le q (by omega))
    have hd9 : b - a = if a < b then b - a else a - b := (if_pos hab).symm
    refine lv_iload_n hx hb dX4_wayOf_5 rfl (lv_at hl 2 rfl) ?_
    refine lv_iload_n hx hb dX4_wayOf_6 rfl (lv_at hl 1 rfl) ?_
    refine lv_isub hx hb dX4_wayOf_7 ?_
    refine top_eq (z := (nI (b - a))) (by exact pk_sub (by omega)) ?_
    refine lv_goto (tgt := 14) hx hb dX4_wayOf_8 (by decide) ?_
    refine lv_istore_n (lv' := [(3, .int (nI (b - a))), (0, .ref aO), (1, .int (nI a)), (2, .int (nI b))]) hx hb dX4_wayOf_14 rfl hl (by decide) rfl (fun ls hl => ?_)
    refine lv_iload_n hx hb dX4_wayOf_15 rfl (lv_at hl 0 rfl) ?_
    refine lv_aload_n hx hb dX4_wayOf_16 rfl (lv_at hl 1 rfl) ?_
    refine va_get (D := D) (ci := 4) (v := .int (nI Q)) (C := RX4) (T := TX4) (N := 16) hx hb hts hi_X4_wayOf_X4 hown hT.1 hP 0 rfl rfl 0 (by decide) (hts (.fieldLink RX4 7 "SlotStarModel" "slots" "I") (List.mem_of_getElem? (i := 1) rfl)) (fun _ h9 => h9) rfl dX4_wayOf_17 ?_
    refine lv_iload_n hx hb dX4_wayOf_20 rfl (lv_at hl 0 rfl) ?_
    refine lv_isub hx hb dX4_wayOf_21 ?_
    refine lv_icmp_ge (tgt := 29) hx hb dX4_wayOf_22 (by decide) (fun c_3 => ?_) (fun c_3 => ?_)
    · skip
      refine lv_aload_n hx hb dX4_wayOf_29 rfl (lv_at hl 1 rfl) ?_
      refine va_get (D := D) (ci := 4) (v := .int (nI Q)) (C := RX4) (T := TX4) (N := 16) hx hb hts hi_X4_wayOf_X4 hown hT.1 hP 0 rfl rfl 0 (by decide) (hts (.fieldLink RX4 7 "SlotStarModel" "slots" "I") (List.mem_of_getElem? (i := 1) rfl)) (fun _ h9 => h9) rfl dX4_wayOf_30 ?_
      refine lv_iload_n hx hb dX4_wayOf_33 rfl (lv_at hl 0 rfl) ?_
      refine lv_isub hx hb dX4_wayOf_34 ?_
      exact ro_ret hx hb hr hlocks dX4_wayOf_35 (by first | exact m_way ha hbb hQ hd9 c_2 | exact m_way2 ha hbb hQ hd9 c_2 | exact m_way ha hbb hQ hd9 c_3 | exact m_way2 ha hbb hQ hd9 c_3)
    · skip
      refine lv_iload_n hx hb dX4_wayOf_25 rfl (lv_at hl 0 rfl) ?_
      refine lv_goto (tgt := 35) hx hb dX4_wayOf_26 (by decide) ?_
      exact ro_ret hx hb hr hlocks dX4_wayOf_35 (by first | exact m_way ha hbb hQ hd9 c_2 | exact m_way2 ha hbb hQ hd9 c_2 | exact m_way ha hbb hQ hd9 c_3 | exact m_way2 ha hbb hQ hd9 c_3)
