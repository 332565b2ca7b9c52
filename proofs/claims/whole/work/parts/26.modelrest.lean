set_option maxRecDepth 20000 in
theorem hi_X4_own_X4 : ∀ w ∈ wsX40, w ∈ wsX4_own := by
  intro w h
  unfold wsX4_own
  simp only [List.mem_cons, List.mem_append, h, or_true, true_or]
theorem nd_X4_own : okName yX4_own 1 := by decide +kernel
set_option maxHeartbeats 4000000 in
set_option maxRecDepth 100000 in
theorem k_X4_own (l : Launch) (D : va_G) (cI cZ : ClassId) (aO : Nat) (Q : Nat) (P : Nat) (M : Nat) (Wd : Nat) (aOw : Nat) (aDg : Nat) (aWk : Nat) (aSm : Nat) (aFo : Nat) (aBk : Nat) (fo : Nat) (ba : Nat) (le : Nat) (sf : Nat) (aIm : Nat) (aKp : Nat) (fOw : Nat → Int32) (fDg : Nat → Int32) (fWk : Nat → Int32) (i : Int32) (hv : MV Q P M Wd) : ME l yX4_own wsX4_own ({ frames := 4, cells := 0, slots := 0, locals := 86 } : Room) D cI cZ [(aO, .inr (4, [.int (nI Q), .int (nI P), .int (nI M), .int (nI Wd), .ref aOw, .ref aDg, .ref aWk, .ref aSm, .ref aFo, .ref aBk, .int (nI fo), .int (nI ba), .int (nI le), .int (nI sf), .ref aIm, .ref aKp])), (aOw, .inl (cI, 2401, .inl fOw)), (aDg, .inl (cI, 49, .inl fDg)), (aWk, .inl (cI, 49, .inl fWk))] [.ref aO, .int i] (some (.int (sOwn (tN Q P) i))) (fun z => ∃ (fOw' : Nat → Int32) (fDg' : Nat → Int32) (fWk' : Nat → Int32), z = [(aO, .inr (4, [.int (nI Q), .int (nI P), .int (nI M), .int (nI Wd), .ref aOw, .ref aDg, .ref aWk, .ref aSm, .ref aFo, .ref aBk, .int (nI fo), .int (nI ba), .int (nI le), .int (nI sf), .ref aIm, .ref aKp])), (aOw, .inl (cI, 2401, .inl fOw')), (aDg, .inl (cI, 49, .inl fDg')), (aWk, .inl (cI, 49, .inl fWk'))]) := by
  refine me_start (by decide) rfl (Nat.le_of_ble_eq_true rfl) ?_
  intro p e s m args below meth c hx hb hr hml hlocks hts hown hT hP hD hS ls hl
  have hown : s.vm.findClass RX4 = some m.cls := hown
  have hl : lv_has ls 3 [(0, .ref aO), (1, .int i)] := hl
  have hv' := hv
  unfold MV at hv'
  have hd0 := dg_pos (tN Q P) (tN_pos hv) (tN_le hv)
  have hd1 := dg_le (tN Q P)
  have hn0 := tN_pos hv
  have hn1 := tN_le hv
  refine lv_aload_n hx hb dX4_own_0 rfl (lv_at hl 0 rfl) ?_
  refine mu_V (As := []) (rest := []) (W1 := [(aO, .inr (4, [.int (nI Q), .int (nI P), .int (nI M), .int (nI Wd), .ref aOw, .ref aDg, .ref aWk, .ref aSm, .ref aFo, .ref aBk, .int (nI fo), .int (nI ba), .int (nI le), .int (nI sf), .ref aIm, .ref aKp])), (aOw, .inl (cI, 2401, .inl (lO (tN Q P) fOw))), (aDg, .inl (cI, 49, .inl (lD (tN Q P) fDg))), (aWk, .inl (cI, 49, .inl (lW (tN Q P) fWk)))]) (st1 := []) ⟨hx, hb, hml, hown, hts⟩ hT hP hD hS (k_X4_layOwn l D cI cZ aO Q P M Wd aOw aDg aWk aSm aFo aBk fo ba le sf aIm aKp fOw fDg fWk hv) gX4_own_X4_layOwn rfl rfl nd_X4_layOwn [0, 1, 2, 3] (by decide) rfl rfl rfl rfl (ci := 4) rfl rfl (q0 := 0) rfl hl.1 rfl rfl (Nat.le_of_ble_eq_true rfl) ⟨Nat.le_of_ble_eq_true rfl, Nat.le_of_ble_eq_true rfl⟩ ⟨rfl, rfl⟩ ⟨Nat.zero_le _, Nat.zero_le _⟩ dX4_own_1 (fun H locs hP hD hS => ?_)
  refine lv_aload_n hx hb dX4_own_4 rfl (lv_at hl 0 rfl) ?_
  refine ro_V (As := []) (rest := []) ⟨hx, hb, hml, hown, hts⟩ hT hP (k_X4_star l D cI cZ aO Q P M Wd aOw aDg aWk aSm aFo aBk fo ba le sf aIm aKp hv) gX4_own_X4_star rfl rfl nd_X4_star [0] rfl (ci := 4) rfl rfl (q0 := 0) rfl hl.1 rfl rfl (Nat.le_of_ble_eq_true rfl) ⟨Nat.le_of_ble_eq_true rfl, Nat.le_of_ble_eq_true rfl⟩ ⟨rfl, rfl⟩ ⟨Nat.zero_le _, Nat.zero_le _⟩ dX4_own_5 ?_
  refine lv_istore_n (lv' := [(2, .int (nI (tN Q P))), (0, .ref aO), (1, .int i)]) hx hb dX4_own_8 rfl hl (by decide) rfl (fun ls hl => ?_)
  refine lv_iload_n hx hb dX4_own_9 rfl (lv_at hl 2 rfl) ?_
  refine lv_iconst (v := (-1)) hx hb dX4_own_10 (by decide) ?_
  refine lv_icmp_ne (tgt := 23) hx hb dX4_own_11 (by decide) (fun c_1 => ?_) (fun c_1 => ?_)
  · skip
    refine lv_iload_n hx hb dX4_own_23 rfl (lv_at hl 2 rfl) ?_
    refine lv_iconst (v := 0) hx hb dX4_own_24 (by decide) ?_
    refine lv_aload_n hx hb dX4_own_25 rfl (lv_at hl 1 rfl) ?_
    refine va_get (D := D) (ci := 4) (v := .ref aDg) (C := RX4) (T := TX4) (N := 16) hx hb hts hi_X4_own_X4 hown hT.1 hP 0 rfl rfl 5 (by decide) (hts (.fieldLink RX4 26 "SlotStarModel" "degree" "[I") (List.mem_of_getElem? (i := 1) rfl)) (fun _ h9 => h9) rfl dX4_own_26 ?_
    refine lv_iload_n hx hb dX4_own_29 rfl (lv_at hl 0 rfl) ?_
    refine ld_i hx hb hT hP 2 rfl dX4_own_30 (k := (tN Q P)) rfl (by omega) (by decide) ?_
    refine top_eq (z := (nI (dgN (tN Q P)))) (by exact (rowOk_n hn0 fOw fDg).1) ?_
    refine ro_S (As := [.int i, .int 0, .int (nI (dgN (tN Q P)))]) (rest := []) ⟨hx, hb, hml, hown, hts⟩ hT hP (k_X4_in l D cI cZ i 0 (nI (dgN (tN Q P)))) gX4_own_X4_in rfl nd_X4_in [] rfl hl.1 rfl rfl (Nat.le_of_ble_eq_true rfl) ⟨Nat.le_of_ble_eq_true rfl, Nat.le_of_ble_eq_true rfl⟩ ⟨rfl, rfl⟩ ⟨Nat.zero_le _, Nat.zero_le _⟩ dX4_own_31 ?_
    refine lv_if_eq (tgt := 51) hx hb dX4_own_34 (by decide) (fun c_2 => ?_) (fun c_2 => ?_)
    · skip
      refine lv_bipush (v := (-6)) hx hb dX4_own_51 (by decide) ?_
      exact me_ret hx hb hr hlocks dX4_own_53 (hP) ⟨_, _, _, rfl⟩ hS (by first | simp [sOwn, c_1, eq_true c_2, hcl] | simp [sOwn, c_1, eq_true c_2])
    · skip
      obtain ⟨i2, hi2, rfl⟩ := jIn_nat 0 (dgN (tN Q P)) (by omega) c_2
      have hcl : cl (nI i2) = i2 := cl_nI (by omega)
      refine lv_aload_n hx hb dX4_own_37 rfl (lv_at hl 1 rfl) ?_
      refine va_get (D := D) (ci := 4) (v := .ref aOw) (C := RX4) (T := TX4) (N := 16) hx hb hts hi_X4_own_X4 hown hT.1 hP 0 rfl rfl 4 (by decide) (hts (.fieldLink RX4 22 "SlotStarModel" "own" "[I") (List.mem_of_getElem? (i := 2) rfl)) (fun _ h9 => h9) rfl dX4_own_38 ?_
      refine lv_bipush (v := 49) hx hb dX4_own_41 (by decide) ?_
      refine lv_iload_n hx hb dX4_own_43 rfl (lv_at hl 0 rfl) ?_
      refine lv_imul hx hb dX4_own_44 ?_
      refine top_eq (z := (nI (49 * tN Q P))) (by exact pk_mul 49 _) ?_
      refine lv_iload_n hx hb dX4_own_45 rfl (lv_at hl 2 rfl) ?_
      refine lv_iadd hx hb dX4_own_46 ?_
      refine top_eq (z := (nI (49 * tN Q P + i2))) (by exact nI_add _ _) ?_
      refine ld_i hx hb hT hP 1 rfl dX4_own_47 (k := (49 * tN Q P + i2)) rfl (by omega) (by decide) ?_
      refine top_eq (z := (cyR (tN Q P) i2)) (by exact (rowOk_n hn0 fOw fDg).2 i2 (by omega)) ?_
      refine lv_goto (tgt := 53) hx hb dX4_own_48 (by decide) ?_
      exact me_ret hx hb hr hlocks dX4_own_53 (hP) ⟨_, _, _, rfl⟩ hS (by first | simp [sOwn, c_1, c_2, hcl] | simp [sOwn, c_1, c_2])
  · skip
    refine lv_aload_n hx hb dX4_own_14 rfl (lv_at hl 1 rfl) ?_
    refine va_get (D := D) (ci := 4) (v := .ref aDg) (C := RX4) (T := TX4) (N := 16) hx hb hts hi_X4_own_X4 hown hT.1 hP 0 rfl rfl 5 (by decide) (hts (.fieldLink RX4 26 "SlotStarModel" "degree" "[I") (List.mem_of_getElem? (i := 1) rfl)) (fun _ h9 => h9) rfl dX4_own_15 ?_
    refine lv_iload_n hx hb dX4_own_18 rfl (lv_at hl 0 rfl) ?_
    refine ld_i hx hb hT hP 2 rfl dX4_own_19 (k := (tN Q P)) rfl (by omega) (by decide) ?_
    refine top_eq (z := (nI (dgN (tN Q P)))) (by exact (rowOk_n hn0 fOw fDg).1) ?_
    refine lv_goto (tgt := 53) hx hb dX4_own_20 (by decide) ?_
    exact me_ret hx hb hr hlocks dX4_own_53 (hP) ⟨_, _, _, rfl⟩ hS (by first | simp [sOwn, eq_true c_1, hcl] | simp [sOwn, eq_true c_1])

set_option maxRecDepth 20000 in
theorem hi_X4_isNone_X4 : ∀ w ∈ wsX40, w ∈ wsX4_isNone := by
  intro w h
  unfold wsX4_isNone
  simp only [List.mem_cons, List.mem_append, h, or_true, true_or]
theorem nd_X4_isNone : okName yX4_isNone 2 := by decide +kernel
set_option maxHeartbeats 4000000 in
set_option maxRecDepth 100000 in
theorem k_X4_isNone (l : Launch) (D : va_G) (cI cZ : ClassId) (aO : Nat) (Q : Nat) (P : Nat) (M : Nat) (Wd : Nat) (aOw : Nat) (aDg : Nat) (aWk : Nat) (aSm : Nat) (aFo : Nat) (aBk : Nat) (fo : Nat) (ba : Nat) (le : Nat) (sf : Nat) (aIm : Nat) (aKp : Nat) (fOw : Nat → Int32) (fDg : Nat → Int32) (fWk : Nat → Int32) (sm : Nat → Int32) (h : Nat) (w : Nat) (hv : MV Q P M Wd) (hh : h < 1000) (hw : w < 1000) : MU l yX4_isNone wsX4_isNone ({ frames := 6, cells := 0, slots := 0, locals := 135 } : Room) D cI cZ [(aO, .inr (4, [.int (nI Q), .int (nI P), .int (nI M), .int (nI Wd), .ref aOw, .ref aDg, .ref aWk, .ref aSm, .ref aFo, .ref aBk, .int (nI fo), .int (nI ba), .int (nI le), .int (nI sf), .ref aIm, .ref aKp])), (aOw, .inl (cI, 2401, .inl fOw)), (aDg, .inl (cI, 49, .inl fDg)), (aWk, .inl (cI, 49, .inl fWk)), (aSm, .inl (cI, 98, .inl sm))] [.ref aO, .int (nI h), .int (nI w)] (some (.int (nth Q P M h w))) [(aO, .inr (4, [.int (nI Q), .int (nI P), .int (nI M), .int (nI Wd), .ref aOw, .ref aDg, .ref aWk, .ref aSm, .ref aFo, .ref aBk, .int (nI fo), .int (nI ba), .int (nI le), .int (nI sf), .ref aIm, .ref aKp])), (aOw, .inl (cI, 2401, .inl (lO (tN Q P) fOw))), (aDg, .inl (cI, 49, .inl (lD (tN Q P) fDg))), (aWk, .inl (cI, 49, .inl (lW (tN Q P) fWk))), (aSm, .inl (cI, 98, .inl (rowP 0 (adR Q P M 0 h w) sm)))] := by
  refine mu_start (by decide) rfl (Nat.le_of_ble_eq_true rfl) ?_
  intro p e s m args below meth c hx hb hr hml hlocks hts hown hT hP hD hS ls hl
  have hown : s.vm.findClass RX4 = some m.cls := hown
  have hl : lv_has ls 5 [(0, .ref aO), (1, .int (nI h)), (2, .int (nI w))] := hl
  refine lv_aload_n hx hb dX4_isNone_0 rfl (lv_at hl 0 rfl) ?_
  refine lv_iconst (v := 0) hx hb dX4_isNone_1 (by decide) ?_
  refine lv_iconst (v := 0) hx hb dX4_isNone_2 (by decide) ?_
  refine lv_iload_n hx hb dX4_isNone_3 rfl (lv_at hl 1 rfl) ?_
  refine lv_iload_n hx hb dX4_isNone_4 rfl (lv_at hl 2 rfl) ?_
  refine mu_V (As := [.int 0, .int 0, .int (nI h), .int (nI w)]) (rest := []) (W1 := [(aO, .inr (4, [.int (nI Q), .int (nI P), .int (nI M), .int (nI Wd), .ref aOw, .ref aDg, .ref aWk, .ref aSm, .ref aFo, .ref aBk, .int (nI fo), .int (nI ba), .int (nI le), .int (nI sf), .ref aIm, .ref aKp])), (aOw, .inl (cI, 2401, .inl (lO (tN Q P) fOw))), (aDg, .inl (cI, 49, .inl (lD (tN Q P) fDg))), (aWk, .inl (cI, 49, .inl (lW (tN Q P) fWk))), (aSm, .inl (cI, 98, .inl (rowP 0 (adR Q P M 0 h w) sm)))]) (st1 := []) ⟨hx, hb, hml, hown, hts⟩ hT hP hD hS (k_X4_laySum l D cI cZ aO Q P M Wd aOw aDg aWk aSm aFo aBk fo ba le sf aIm aKp fOw fDg fWk sm 0 0 h w hv (by decide) (by omega) (by omega)) gX4_isNone_X4_laySum rfl rfl nd_X4_laySum [0, 1, 2, 3, 4] (by decide) rfl rfl rfl rfl (ci := 4) rfl rfl (q0 := 0) rfl hl.1 rfl rfl (Nat.le_of_ble_eq_true rfl) ⟨Nat.le_of_ble_eq_true rfl, Nat.le_of_ble_eq_true rfl⟩ ⟨rfl, rfl⟩ ⟨Nat.zero_le _, Nat.zero_le _⟩ dX4_isNone_5 (fun H locs hP hD hS => ?_)
  refine lv_iconst (v := 1) hx hb dX4_isNone_8 (by decide) ?_
  refine lv_istore_n (lv' := [(3, .int 1), (0, .ref aO), (1, .int (nI h)), (2, .int (nI w))]) hx hb dX4_isNone_9 rfl hl (by decide) rfl (fun ls hl => ?_)
  refine lv_iconst (v := 0) hx hb dX4_isNone_10 (by decide) ?_
  refine lv_istore (lv' := [(4, .int 0), (3, .int 1), (0, .ref aO), (1, .int (nI h)), (2, .int (nI w))]) hx hb dX4_isNone_11 hl (by decide) rfl (fun ls hl => ?_)
  have L_13 : ∀ (f : Nat) (i : Nat) (b : Int32), i + f = 49 → nnL (adR Q P M 0 h w) 49 0 1 = nnL (adR Q P M 0 h w) f i b → ∀ (H : Heap) (locs : List Loc), va_P D cls5 [(aO, .inr (4, [.int (nI Q), .int (nI P), .int (nI M), .int (nI Wd), .ref aOw, .ref aDg, .ref aWk, .ref aSm, .ref aFo, .ref aBk, .int (nI fo), .int (nI ba), .int (nI le), .int (nI sf), .ref aIm, .ref aKp])), (aOw, .inl (cI, 2401, .inl (lO (tN Q P) fOw))), (aDg, .inl (cI, 49, .inl (lD (tN Q P) fDg))), (aWk, .inl (cI, 49, .inl (lW (tN Q P) fWk))), (aSm, .inl (cI, 98, .inl (rowP 0 (adR Q P M 0 h w) sm)))] H → va_D (va_M [(aO, .inr (4, [.int (nI Q), .int (nI P), .int (nI M), .int (nI Wd), .ref aOw, .ref aDg, .ref aWk, .ref aSm, .ref aFo, .ref aBk, .int (nI fo), .int (nI ba), .int (nI le), .int (nI sf), .ref aIm, .ref aKp])), (aOw, .inl (cI, 2401, .inl fOw)), (aDg, .inl (cI, 49, .inl fDg)), (aWk, .inl (cI, 49, .inl fWk)), (aSm, .inl (cI, 98, .inl sm))]) [(aO, .inr (4, [.int (nI Q), .int (nI P), .int (nI M), .int (nI Wd), .ref aOw, .ref aDg, .ref aWk, .ref aSm, .ref aFo, .ref aBk, .int (nI fo), .int (nI ba), .int (nI le), .int (nI sf), .ref aIm, .ref aKp])), (aOw, .inl (cI, 2401, .inl (lO (tN Q P) fOw))), (aDg, .inl (cI, 49, .inl (lD (tN Q P) fDg))), (aWk, .inl (cI, 49, .inl (lW (tN Q P) fWk))), (aSm, .inl (cI, 98, .inl (rowP 0 (adR Q P M 0 h w) sm)))] → va_S (va_M [(aO, .inr (4, [.int (nI Q), .int (nI P), .int (nI M), .int (nI Wd), .ref aOw, .ref aDg, .ref aWk, .ref aSm, .ref aFo, .ref aBk, .int (nI fo), .int (nI ba), .int (nI le), .int (nI sf), .ref aIm, .ref aKp])), (aOw, .inl (cI, 2401, .inl fOw)), (aDg, .inl (cI, 49, .inl fDg)), (aWk, .inl (cI, 49, .inl fWk)), (aSm, .inl (cI, 98, .inl sm))]) s.heap H locs → ∀ ls : Array Slot, lv_has ls 5 [(0, .ref aO), (1, .int (nI h)), (2, .int (nI w)), (3, .int b), (4, .int (nI i))] → W p l e (headSpec wsX4_isNone ({ frames := 6, cells := 0, slots := 0, locals := 135 } : Room)).room s m args below meth c H locs 0 0 (MQ below (QcM D [(aO, .inr (4, [.int (nI Q), .int (nI P), .int (nI M), .int (nI Wd), .ref aOw, .ref aDg, .ref aWk, .ref aSm, .ref aFo, .ref aBk, .int (nI fo), .int (nI ba), .int (nI le), .int (nI sf), .ref aIm, .ref aKp])), (aOw, .inl (cI, 2401, .inl fOw)), (aDg, .inl (cI, 49, .inl fDg)), (aWk, .inl (cI, 49, .inl fWk)), (aSm, .inl (cI, 98, .inl sm))] [(aO, .inr (4, [.int (nI Q), .int (nI P), .int (nI M), .int (nI Wd), .ref aOw, .ref aDg, .ref aWk, .ref aSm, .ref aFo, .ref aBk, .int (nI fo), .int (nI ba), .int (nI le), .int (nI sf), .ref aIm, .ref aKp])), (aOw, .inl (cI, 2401, .inl (lO (tN Q P) fOw))), (aDg, .inl (cI, 49, .inl (lD (tN Q P) fDg))), (aWk, .inl (cI, 49, .inl (lW (tN Q P) fWk))), (aSm, .inl (cI, 98, .inl (rowP 0 (adR Q P M 0 h w) sm)))] (some (.int (nth Q P M h w)))) args s 0 0 (va_M [(aO, .inr (4, [.int (nI Q), .int (nI P), .int (nI M), .int (nI Wd), .ref aOw, .ref aDg, .ref aWk, .ref aSm, .ref aFo, .ref aBk, .int (nI fo), .int (nI ba), .int (nI le), .int (nI sf), .ref aIm, .ref aKp])), (aOw, .inl (cI, 2401, .inl fOw)), (aDg, .inl (cI, 49, .inl fDg)), (aWk, .inl (cI, 49, .inl fWk)), (aSm, .inl (cI, 98, .inl sm))])) (F0 m 13 ls []) := by
    intro f
    induction f with
    | zero =>
      intro i b h1 h2 H locs hP hD hS ls hl
      refine lv_iload hx hb dX4_isNone_13 (lv_at hl 4 rfl) ?_
      refine lv_bipush (v := 49) hx hb dX4_isNone_15 (by decide) ?_
      refine lv_icmp_ge (tgt := 46) hx hb dX4_isNone_17 (by decide) (fun c_1 => ?_) (fun c_1 => ?_)
      · skip
        refine lv_iload_n hx hb dX4_isNone_46 rfl (lv_at hl 3 rfl) ?_
        exact mu_retz hx hb hr hlocks dX4_isNone_47 (hP) hS (by rw [← m_none hv h w, h2]; rfl) (by exact nth01 _ _ _ _ _)
      · exfalso; exact c_1 (by rw [show i = 49 by omega]; decide)
    | succ f ih_13 =>
      intro i b h1 h2 H locs hP hD hS ls hl
      refine lv_iload hx hb dX4_isNone_13 (lv_at hl 4 rfl) ?_
      refine lv_bipush (v := 49) hx hb dX4_isNone_15 (by decide) ?_
      refine lv_icmp_ge (tgt := 46) hx hb dX4_isNone_17 (by decide) (fun c_2 => ?_) (fun c_2 => ?_)
      · exfalso; exact nI_ge (b := 49) (show i < 49 by omega) (by decide) c_2
      · skip
        refine lv_iload_n hx hb dX4_isNone_20 rfl (lv_at hl 3 rfl) ?_
        refine lv_if_eq (tgt := 38) hx hb dX4_isNone_21 (by decide) (fun c_3 => ?_) (fun c_3 => ?_)
        · skip
          refine lv_iconst (v := 0) hx hb dX4_isNone_38 (by decide) ?_
          refine lv_istore_n (lv' := [(3, .int 0), (0, .ref aO), (1, .int (nI h)), (2, .int (nI w)), (4, .int (nI i))]) hx hb dX4_isNone_39 rfl hl (by decide) rfl (fun ls hl => ?_)
          refine lv_iinc (v := nI (i + 1)) (lv' := [(4, .int (nI (i + 1))), (3, .int 0), (0, .ref aO), (1, .int (nI h)), (2, .int (nI w))]) hx hb dX4_isNone_40 hl (k := 4) rfl ((nI_succ i).symm) (by decide) rfl (fun ls hl => ?_)
          refine lv_goto (tgt := 13) hx hb dX4_isNone_43 (by decide) ?_
          exact ih_13 (i + 1) 0 (by omega) (by rw [h2]; simp [nnL, c_2, eq_true c_3]) _ _ hP hD hS ls (lv_sub hl [2, 3, 4, 1, 0] rfl)
        · skip
          refine lv_aload_n hx hb dX4_isNone_24 rfl (lv_at hl 0 rfl) ?_
          refine va_get (D := D) (ci := 4) (v := .ref aSm) (C := RX4) (T := TX4) (N := 16) hx hb hts hi_X4_isNone_X4 hown hT.1 hP 0 rfl rfl 7 (by decide) (hts (.fieldLink RX4 32 "SlotStarModel" "sum" "[I") (List.mem_of_getElem? (i := 1) rfl)) (fun _ h9 => h9) rfl dX4_isNone_25 ?_
          refine lv_iload hx hb dX4_isNone_28 (lv_at hl 4 rfl) ?_
          refine ld_i hx hb hT hP 4 rfl dX4_isNone_30 (k := i) rfl (by omega) (by decide) ?_
          refine top_eq (z := (adR Q P M 0 h w i)) (by exact rowP0 (by omega)) ?_
          refine lv_if_ne (tgt := 38) hx hb dX4_isNone_31 (by decide) (fun c_4 => ?_) (fun c_4 => ?_)
          · skip
            refine lv_iconst (v := 0) hx hb dX4_isNone_38 (by decide) ?_
            refine lv_istore_n (lv' := [(3, .int 0), (0, .ref aO), (1, .int (nI h)), (2, .int (nI w)), (4, .int (nI i))]) hx hb dX4_isNone_39 rfl hl (by decide) rfl (fun ls hl => ?_)
            refine lv_iinc (v := nI (i + 1)) (lv' := [(4, .int (nI (i + 1))), (3, .int 0), (0, .ref aO), (1, .int (nI h)), (2, .int (nI w))]) hx hb dX4_isNone_40 hl (k := 4) rfl ((nI_succ i).symm) (by decide) rfl (fun ls hl => ?_)
            refine lv_goto (tgt := 13) hx hb dX4_isNone_43 (by decide) ?_
            exact ih_13 (i + 1) 0 (by omega) (by rw [h2]; simp [nnL, c_2, c_3, c_4]) _ _ hP hD hS ls (lv_sub hl [2, 3, 4, 1, 0] rfl)
          · skip
            refine lv_iconst (v := 1) hx hb dX4_isNone_34 (by decide) ?_
            refine lv_goto (tgt := 39) hx hb dX4_isNone_35 (by decide) ?_
            refine lv_istore_n (lv' := [(3, .int 1), (0, .ref aO), (1, .int (nI h)), (2, .int (nI w)), (4, .int (nI i))]) hx hb dX4_isNone_39 rfl hl (by decide) rfl (fun ls hl => ?_)
            refine lv_iinc (v := nI (i + 1)) (lv' := [(4, .int (nI (i + 1))), (3, .int 1), (0, .ref aO), (1, .int (nI h)), (2, .int (nI w))]) hx hb dX4_isNone_40 hl (k := 4) rfl ((nI_succ i).symm) (by decide) rfl (fun ls hl => ?_)
            refine lv_goto (tgt := 13) hx hb dX4_isNone_43 (by decide) ?_
            exact ih_13 (i + 1) 1 (by omega) (by rw [h2]; simp [nnL, c_2, c_3, eq_true c_4]) _ _ hP hD hS ls (lv_sub hl [2, 3, 4, 1, 0] rfl)
  exact L_13 49 0 1 rfl rfl _ _ hP hD hS ls (lv_sub hl [2, 3, 4, 1, 0] rfl)

set_option maxRecDepth 20000 in
theorem hi_X4_vanishes_X4 : ∀ w ∈ wsX40, w ∈ wsX4_vanishes := by
  intro w h
  unfold wsX4_vanishes
  simp only [List.mem_cons, List.mem_append, h, or_true, true_or]
theorem nd_X4_vanishes : okName yX4_vanishes 1 := by decide +kernel
set_option maxHeartbeats 4000000 in
set_option maxRecDepth 100000 in
theorem k_X4_vanishes (l : Launch) (D : va_G) (cI cZ : ClassId) (aO : Nat) (Q : Nat) (P : Nat) (M : Nat) (Wd : Nat) (aOw : Nat) (aDg : Nat) (aWk : Nat) (aSm : Nat) (aFo : Nat) (aBk : Nat) (fo : Nat) (ba : Nat) (le : Nat) (sf : Nat) (aIm : Nat) (aKp : Nat) (fOw : Nat → Int32) (fDg : Nat → Int32) (fWk : Nat → Int32) (sm : Nat → Int32) (h : Int32) (hv : MV Q P M Wd) : ME l yX4_vanishes wsX4_vanishes ({ frames := 7, cells := 0, slots := 0, locals := 159 } : Room) D cI cZ [(aO, .inr (4, [.int (nI Q), .int (nI P), .int (nI M), .int (nI Wd), .ref aOw, .ref aDg, .ref aWk, .ref aSm, .ref aFo, .ref aBk, .int (nI fo), .int (nI ba), .int (nI le), .int (nI sf), .ref aIm, .ref aKp])), (aOw, .inl (cI, 2401, .inl fOw)), (aDg, .inl (cI, 49, .inl fDg)), (aWk, .inl (cI, 49, .inl fWk)), (aSm, .inl (cI, 98, .inl sm))] [.ref aO, .int h] (some (.int (sVan Q P M Wd h))) (fun z => ∃ (fOw' : Nat → Int32) (fDg' : Nat → Int32) (fWk' : Nat → Int32) (sm' : Nat → Int32), z = [(aO, .inr (4, [.int (nI Q), .int (nI P), .int (nI M), .int (nI Wd), .ref aOw, .ref aDg, .ref aWk, .ref aSm, .ref aFo, .ref aBk, .int (nI fo), .int (nI ba), .int (nI le), .int (nI sf), .ref aIm, .ref aKp])), (aOw, .inl (cI, 2401, .inl fOw')), (aDg, .inl (cI, 49, .inl fDg')), (aWk, .inl (cI, 49, .inl fWk')), (aSm, .inl (cI, 98, .inl sm'))]) := by
  refine me_start (by decide) rfl (Nat.le_of_ble_eq_true rfl) ?_
  intro p e s m args below meth c hx hb hr hml hlocks hts hown hT hP hD hS ls hl
  have hown : s.vm.findClass RX4 = some m.cls := hown
  have hl : lv_has ls 2 [(0, .ref aO), (1, .int h)] := hl
  have hv' := hv
  unfold MV at hv'
  refine lv_iload_n hx hb dX4_vanishes_0 rfl (lv_at hl 1 rfl) ?_
  refine lv_iconst (v := 1) hx hb dX4_vanishes_1 (by decide) ?_
  refine lv_bipush (v := 99) hx hb dX4_vanishes_2 (by decide) ?_
  refine ro_S (As := [.int h, .int 1, .int 99]) (rest := []) ⟨hx, hb, hml, hown, hts⟩ hT hP (k_X4_in l D cI cZ h 1 99) gX4_vanishes_X4_in rfl nd_X4_in [] rfl hl.1 rfl rfl (Nat.le_of_ble_eq_true rfl) ⟨Nat.le_of_ble_eq_true rfl, Nat.le_of_ble_eq_true rfl⟩ ⟨rfl, rfl⟩ ⟨Nat.zero_le _, Nat.zero_le _⟩ dX4_vanishes_4 ?_
  refine lv_if_ne (tgt := 13) hx hb dX4_vanishes_7 (by decide) (fun c_1 => ?_) (fun c_1 => ?_)
  · skip
    obtain ⟨h2, hh2, rfl⟩ := jIn_nat 1 99 (by decide) c_1
    have hch : cl (nI h2) = h2 := cl_nI (by omega)
    refine lv_aload_n hx hb dX4_vanishes_13 rfl (lv_at hl 0 rfl) ?_
    refine ro_V (As := []) (rest := []) ⟨hx, hb, hml, hown, hts⟩ hT hP (k_X4_isBalanced l D cI cZ aO Q P M Wd aOw aDg aWk aSm aFo aBk fo ba le sf aIm aKp hv) gX4_vanishes_X4_isBalanced rfl rfl nd_X4_isBalanced [0] rfl (ci := 4) rfl rfl (q0 := 0) rfl hl.1 rfl rfl (Nat.le_of_ble_eq_true rfl) ⟨Nat.le_of_ble_eq_true rfl, Nat.le_of_ble_eq_true rfl⟩ ⟨rfl, rfl⟩ ⟨Nat.zero_le _, Nat.zero_le _⟩ dX4_vanishes_14 ?_
    refine lv_if_ne (tgt := 25) hx hb dX4_vanishes_17 (by decide) (fun c_2 => ?_) (fun c_2 => ?_)
    · skip
      refine lv_aload_n hx hb dX4_vanishes_25 rfl (lv_at hl 0 rfl) ?_
      refine lv_iload_n hx hb dX4_vanishes_26 rfl (lv_at hl 1 rfl) ?_
      refine lv_aload_n hx hb dX4_vanishes_27 rfl (lv_at hl 0 rfl) ?_
      refine va_get (D := D) (ci := 4) (v := .int (nI Wd)) (C := RX4) (T := TX4) (N := 16) hx hb hts hi_X4_vanishes_X4 hown hT.1 hP 0 rfl rfl 3 (by decide) (hts (.fieldLink RX4 19 "SlotStarModel" "reach" "I") (List.mem_of_getElem? (i := 1) rfl)) (fun _ h9 => h9) rfl dX4_vanishes_28 ?_
      refine mu_V (As := [.int (nI h2), .int (nI Wd)]) (rest := []) (W1 := [(aO, .inr (4, [.int (nI Q), .int (nI P), .int (nI M), .int (nI Wd), .ref aOw, .ref aDg, .ref aWk, .ref aSm, .ref aFo, .ref aBk, .int (nI fo), .int (nI ba), .int (nI le), .int (nI sf), .ref aIm, .ref aKp])), (aOw, .inl (cI, 2401, .inl (lO (tN Q P) fOw))), (aDg, .inl (cI, 49, .inl (lD (tN Q P) fDg))), (aWk, .inl (cI, 49, .inl (lW (tN Q P) fWk))), (aSm, .inl (cI, 98, .inl (rowP 0 (adR Q P M 0 h2 Wd) sm)))]) (st1 := [.int (nth Q P M h2 Wd)]) ⟨hx, hb, hml, hown, hts⟩ hT hP hD hS (k_X4_isNone l D cI cZ aO Q P M Wd aOw aDg aWk aSm aFo aBk fo ba le sf aIm aKp fOw fDg fWk sm h2 Wd hv (by omega) (by omega)) gX4_vanishes_X4_isNone rfl rfl nd_X4_isNone [0, 1, 2, 3, 4] (by decide) rfl rfl rfl rfl (ci := 4) rfl rfl (q0 := 0) rfl hl.1 rfl rfl (Nat.le_of_ble_eq_true rfl) ⟨Nat.le_of_ble_eq_true rfl, Nat.le_of_ble_eq_true rfl⟩ ⟨rfl, rfl⟩ ⟨Nat.zero_le _, Nat.zero_le _⟩ dX4_vanishes_31 (fun H locs hP hD hS => ?_)
      refine lv_if_eq (tgt := 41) hx hb dX4_vanishes_34 (by decide) (fun c_3 => ?_) (fun c_3 => ?_)
      · skip
        have hf1 := c_3
        refine lv_iconst (v := 0) hx hb dX4_vanishes_41 (by decide) ?_
        exact me_ret hx hb hr hlocks dX4_vanishes_42 (hP) ⟨_, _, _, _, rfl⟩ hS (by first | simp [sVan, c_1, c_2, eq_true c_3, hch, hf1] | simp [sVan, c_1, c_2, eq_true c_3, hch] | simp [sVan, c_1, c_2, eq_true c_3])
      · skip
        have hf1 : nth Q P M h2 Wd = 1 := (nth01 _ _ _ _ _).resolve_left c_3
        refine lv_iconst (v := 1) hx hb dX4_vanishes_37 (by decide) ?_
        refine lv_goto (tgt := 42) hx hb dX4_vanishes_38 (by decide) ?_
        exact me_ret hx hb hr hlocks dX4_vanishes_42 (hP) ⟨_, _, _, _, rfl⟩ hS (by first | simp [sVan, c_1, c_2, c_3, hch, hf1] | simp [sVan, c_1, c_2, c_3, hch] | simp [sVan, c_1, c_2, c_3])
    · skip
      refine lv_bipush (v := (-3)) hx hb dX4_vanishes_20 (by decide) ?_
      refine lv_goto (tgt := 42) hx hb dX4_vanishes_22 (by decide) ?_
      exact me_ret hx hb hr hlocks dX4_vanishes_42 (hP) ⟨_, _, _, _, rfl⟩ hS (by first | simp [sVan, c_1, eq_true c_2, hch, hf1] | simp [sVan, c_1, eq_true c_2, hch] | simp [sVan, c_1, eq_true c_2])
  · skip
    refine lv_bipush (v := (-2)) hx hb dX4_vanishes_10 (by decide) ?_
    exact me_ret hx hb hr hlocks dX4_vanishes_12 (hP) ⟨_, _, _, _, rfl⟩ hS (by first | simp [sVan, eq_true c_1, hch, hf1] | simp [sVan, eq_true c_1, hch] | simp [sVan, eq_true c_1])

theorem nd_X4_choose : okName yX4_choose 1 := by decide +kernel
set_option maxHeartbeats 4000000 in
set_option maxRecDepth 100000 in
theorem k_X4_choose (l : Launch) (D : va_G) (cI cZ : ClassId) (aO : Nat) (Q : Nat) (P : Nat) (M : Nat) (Wd : Nat) (aOw : Nat) (aDg : Nat) (aWk : Nat) (aSm : Nat) (aFo : Nat) (aBk : Nat) (fo : Nat) (ba : Nat) (le : Nat) (sf : Nat) (aIm : Nat) (aKp : Nat) (fOw : Nat → Int32) (fDg : Nat → Int32) (fWk : Nat → Int32) (sm : Nat → Int32) (h : Int32) (hv : MV Q P M Wd) : ME l yX4_choose wsX4_choose ({ frames := 7, cells := 0, slots := 0, locals := 159 } : Room) D cI cZ [(aO, .inr (4, [.int (nI Q), .int (nI P), .int (nI M), .int (nI Wd), .ref aOw, .ref aDg, .ref aWk, .ref aSm, .ref aFo, .ref aBk, .int (nI fo), .int (nI ba), .int (nI le), .int (nI sf), .ref aIm, .ref aKp])), (aOw, .inl (cI, 2401, .inl fOw)), (aDg, .inl (cI, 49, .inl fDg)), (aWk, .inl (cI, 49, .inl fWk)), (aSm, .inl (cI, 98, .inl sm))] [.ref aO, .int h] (some (.int (sCho Q P M h))) (fun z => ∃ (fOw' : Nat → Int32) (fDg' : Nat → Int32) (fWk' : Nat → Int32) (sm' : Nat → Int32), z = [(aO, .inr (4, [.int (nI Q), .int (nI P), .int (nI M), .int (nI Wd), .ref aOw, .ref aDg, .ref aWk, .ref aSm, .ref aFo, .ref aBk, .int (nI fo), .int (nI ba), .int (nI le), .int (nI sf), .ref aIm, .ref aKp])), (aOw, .inl (cI, 2401, .inl fOw')), (aDg, .inl (cI, 49, .inl fDg')), (aWk, .inl (cI, 49, .inl fWk')), (aSm, .inl (cI, 98, .inl sm'))]) := by
  refine me_start (by decide) rfl (Nat.le_of_ble_eq_true rfl) ?_
  intro p e s m args below meth c hx hb hr hml hlocks hts hown hT hP hD hS ls hl
  have hown : s.vm.findClass RX4 = some m.cls := hown
  have hl : lv_has ls 3 [(0, .ref aO), (1, .int h)] := hl
  have hv' := hv
  unfold MV at hv'
  have hpw := pw_ok (q := Q) (p := P) (by omega) (by omega)
  refine lv_iload_n hx hb dX4_choose_0 rfl (lv_at hl 1 rfl) ?_
  refine lv_iconst (v := 1) hx hb dX4_choose_1 (by decide) ?_
  refine lv_bipush (v := 99) hx hb dX4_choose_2 (by decide) ?_
  refine ro_S (As := [.int h, .int 1, .int 99]) (rest := []) ⟨hx, hb, hml, hown, hts⟩ hT hP (k_X4_in l D cI cZ h 1 99) gX4_choose_X4_in rfl nd_X4_in [] rfl hl.1 rfl rfl (Nat.le_of_ble_eq_true rfl) ⟨Nat.le_of_ble_eq_true rfl, Nat.le_of_ble_eq_true rfl⟩ ⟨rfl, rfl⟩ ⟨Nat.zero_le _, Nat.zero_le _⟩ dX4_choose_4 ?_
  refine lv_if_ne (tgt := 13) hx hb dX4_choose_7 (by decide) (fun c_1 => ?_) (fun c_1 => ?_)
  · skip
    obtain ⟨h2, hh2, rfl⟩ := jIn_nat 1 99 (by decide) c_1
    have hch : cl (nI h2) = h2 := cl_nI (by omega)
    refine lv_aload_n hx hb dX4_choose_13 rfl (lv_at hl 0 rfl) ?_
    refine ro_V (As := []) (rest := []) ⟨hx, hb, hml, hown, hts⟩ hT hP (k_X4_isBalanced l D cI cZ aO Q P M Wd aOw aDg aWk aSm aFo aBk fo ba le sf aIm aKp hv) gX4_choose_X4_isBalanced rfl rfl nd_X4_isBalanced [0] rfl (ci := 4) rfl rfl (q0 := 0) rfl hl.1 rfl rfl (Nat.le_of_ble_eq_true rfl) ⟨Nat.le_of_ble_eq_true rfl, Nat.le_of_ble_eq_true rfl⟩ ⟨rfl, rfl⟩ ⟨Nat.zero_le _, Nat.zero_le _⟩ dX4_choose_14 ?_
    refine lv_if_ne (tgt := 23) hx hb dX4_choose_17 (by decide) (fun c_2 => ?_) (fun c_2 => ?_)
    · skip
      refine lv_aload_n hx hb dX4_choose_23 rfl (lv_at hl 0 rfl) ?_
      refine ro_V (As := []) (rest := []) ⟨hx, hb, hml, hown, hts⟩ hT hP (k_X4_pitch l D cI cZ aO Q P M Wd aOw aDg aWk aSm aFo aBk fo ba le sf aIm aKp (by omega) (by omega)) gX4_choose_X4_pitch rfl rfl nd_X4_pitch [0] rfl (ci := 4) rfl rfl (q0 := 0) rfl hl.1 rfl rfl (Nat.le_of_ble_eq_true rfl) ⟨Nat.le_of_ble_eq_true rfl, Nat.le_of_ble_eq_true rfl⟩ ⟨rfl, rfl⟩ ⟨Nat.zero_le _, Nat.zero_le _⟩ dX4_choose_24 ?_
      refine lv_istore_n (lv' := [(2, .int (nI (pw Q P))), (0, .ref aO), (1, .int (nI h2))]) hx hb dX4_choose_27 rfl hl (by decide) rfl (fun ls hl => ?_)
      have L_28 : ∀ (w : Nat) (o : Nat → Int32) (g : Nat → Int32) (u : Nat → Int32) (v : Nat → Int32), w ≤ pw Q P → sCho Q P M (nI h2) = chL Q P M h2 w → ∀ (H : Heap) (locs : List Loc), va_P D cls5 [(aO, .inr (4, [.int (nI Q), .int (nI P), .int (nI M), .int (nI Wd), .ref aOw, .ref aDg, .ref aWk, .ref aSm, .ref aFo, .ref aBk, .int (nI fo), .int (nI ba), .int (nI le), .int (nI sf), .ref aIm, .ref aKp])), (aOw, .inl (cI, 2401, .inl o)), (aDg, .inl (cI, 49, .inl g)), (aWk, .inl (cI, 49, .inl u)), (aSm, .inl (cI, 98, .inl v))] H → va_D (va_M [(aO, .inr (4, [.int (nI Q), .int (nI P), .int (nI M), .int (nI Wd), .ref aOw, .ref aDg, .ref aWk, .ref aSm, .ref aFo, .ref aBk, .int (nI fo), .int (nI ba), .int (nI le), .int (nI sf), .ref aIm, .ref aKp])), (aOw, .inl (cI, 2401, .inl fOw)), (aDg, .inl (cI, 49, .inl fDg)), (aWk, .inl (cI, 49, .inl fWk)), (aSm, .inl (cI, 98, .inl sm))]) [(aO, .inr (4, [.int (nI Q), .int (nI P), .int (nI M), .int (nI Wd), .ref aOw, .ref aDg, .ref aWk, .ref aSm, .ref aFo, .ref aBk, .int (nI fo), .int (nI ba), .int (nI le), .int (nI sf), .ref aIm, .ref aKp])), (aOw, .inl (cI, 2401, .inl o)), (aDg, .inl (cI, 49, .inl g)), (aWk, .inl (cI, 49, .inl u)), (aSm, .inl (cI, 98, .inl v))] → va_S (va_M [(aO, .inr (4, [.int (nI Q), .int (nI P), .int (nI M), .int (nI Wd), .ref aOw, .ref aDg, .ref aWk, .ref aSm, .ref aFo, .ref aBk, .int (nI fo), .int (nI ba), .int (nI le), .int (nI sf), .ref aIm, .ref aKp])), (aOw, .inl (cI, 2401, .inl fOw)), (aDg, .inl (cI, 49, .inl fDg)), (aWk, .inl (cI, 49, .inl fWk)), (aSm, .inl (cI, 98, .inl sm))]) s.heap H locs → ∀ ls : Array Slot, lv_has ls 3 [(0, .ref aO), (1, .int (nI h2)), (2, .int (nI w))] → W p l e (headSpec wsX4_choose ({ frames := 7, cells := 0, slots := 0, locals := 159 } : Room)).room s m args below meth c H locs 0 0 (MQ below (QcE D [(aO, .inr (4, [.int (nI Q), .int (nI P), .int (nI M), .int (nI Wd), .ref aOw, .ref aDg, .ref aWk, .ref aSm, .ref aFo, .ref aBk, .int (nI fo), .int (nI ba), .int (nI le), .int (nI sf), .ref aIm, .ref aKp])), (aOw, .inl (cI, 2401, .inl fOw)), (aDg, .inl (cI, 49, .inl fDg)), (aWk, .inl (cI, 49, .inl fWk)), (aSm, .inl (cI, 98, .inl sm))] (some (.int (sCho Q P M (nI h2)))) (fun z => ∃ (fOw' : Nat → Int32) (fDg' : Nat → Int32) (fWk' : Nat → Int32) (sm' : Nat → Int32), z = [(aO, .inr (4, [.int (nI Q), .int (nI P), .int (nI M), .int (nI Wd), .ref aOw, .ref aDg, .ref aWk, .ref aSm, .ref aFo, .ref aBk, .int (nI fo), .int (nI ba), .int (nI le), .int (nI sf), .ref aIm, .ref aKp])), (aOw, .inl (cI, 2401, .inl fOw')), (aDg, .inl (cI, 49, .inl fDg')), (aWk, .inl (cI, 49, .inl fWk')), (aSm, .inl (cI, 98, .inl sm'))])) args s 0 0 (va_M [(aO, .inr (4, [.int (nI Q), .int (nI P), .int (nI M), .int (nI Wd), .ref aOw, .ref aDg, .ref aWk, .ref aSm, .ref aFo, .ref aBk, .int (nI fo), .int (nI ba), .int (nI le), .int (nI sf), .ref aIm, .ref aKp])), (aOw, .inl (cI, 2401, .inl fOw)), (aDg, .inl (cI, 49, .inl fDg)), (aWk, .inl (cI, 49, .inl fWk)), (aSm, .inl (cI, 98, .inl sm))])) (F0 m 28 ls []) := by
        intro w
        induction w with
        | zero =>
          intro o g u v h3 e1 H locs hP hD hS ls hl
          refine lv_iload_n hx hb dX4_choose_28 rfl (lv_at hl 2 rfl) ?_
          refine lv_if_le (tgt := 49) hx hb dX4_choose_29 (by decide) (fun c_3 => ?_) (fun c_3 => ?_)
          · skip
            refine lv_bipush (v := (-6)) hx hb dX4_choose_49 (by decide) ?_
            exact me_ret hx hb hr hlocks dX4_choose_51 (hP) ⟨_, _, _, _, rfl⟩ hS (by rw [e1]; rfl)
          · exfalso; exact c_3 (by decide)
        | succ w ih_28 =>
          intro o g u v h3 e1 H locs hP hD hS ls hl
          refine lv_iload_n hx hb dX4_choose_28 rfl (lv_at hl 2 rfl) ?_
          refine lv_if_le (tgt := 49) hx hb dX4_choose_29 (by decide) (fun c_4 => ?_) (fun c_4 => ?_)
          · exfalso; exact nI_nle (by omega) (by omega) c_4
          · skip
            refine lv_aload_n hx hb dX4_choose_32 rfl (lv_at hl 0 rfl) ?_
            refine lv_iload_n hx hb dX4_choose_33 rfl (lv_at hl 1 rfl) ?_
            refine lv_iload_n hx hb dX4_choose_34 rfl (lv_at hl 2 rfl) ?_
            refine mu_V (As := [.int (nI h2), .int (nI (w + 1))]) (rest := []) (W1 := [(aO, .inr (4, [.int (nI Q), .int (nI P), .int (nI M), .int (nI Wd), .ref aOw, .ref aDg, .ref aWk, .ref aSm, .ref aFo, .ref aBk, .int (nI fo), .int (nI ba), .int (nI le), .int (nI sf), .ref aIm, .ref aKp])), (aOw, .inl (cI, 2401, .inl (lO (tN Q P) o))), (aDg, .inl (cI, 49, .inl (lD (tN Q P) g))), (aWk, .inl (cI, 49, .inl (lW (tN Q P) u))), (aSm, .inl (cI, 98, .inl (rowP 0 (adR Q P M 0 h2 (w + 1)) v)))]) (st1 := [.int (nth Q P M h2 (w + 1))]) ⟨hx, hb, hml, hown, hts⟩ hT hP hD hS (k_X4_isNone l D cI cZ aO Q P M Wd aOw aDg aWk aSm aFo aBk fo ba le sf aIm aKp o g u v h2 (w + 1) hv (by omega) (by omega)) gX4_choose_X4_isNone rfl rfl nd_X4_isNone [0, 1, 2, 3, 4] (by decide) rfl rfl rfl rfl (ci := 4) rfl rfl (q0 := 0) rfl hl.1 rfl rfl (Nat.le_of_ble_eq_true rfl) ⟨Nat.le_of_ble_eq_true rfl, Nat.le_of_ble_eq_true rfl⟩ ⟨rfl, rfl⟩ ⟨Nat.zero_le _, Nat.zero_le _⟩ dX4_choose_35 (fun H locs hP hD hS => ?_)
            refine lv_if_eq (tgt := 43) hx hb dX4_choose_38 (by decide) (fun c_5 => ?_) (fun c_5 => ?_)
            · skip
              refine lv_iinc (v := nI w) (lv' := [(2, .int (nI w)), (0, .ref aO), (1, .int (nI h2))]) hx hb dX4_choose_43 hl (k := 2) rfl (pk_m1 w) (by decide) rfl (fun ls hl => ?_)
              refine lv_goto (tgt := 28) hx hb dX4_choose_46 (by decide) ?_
              exact ih_28 _ _ _ _ (by omega) (by rw [e1]; simp [chL, c_1, c_2, c_4, eq_true c_5]) _ _ hP hD hS ls (lv_sub hl [1, 2, 0] rfl)
            · skip
              refine lv_iload_n hx hb dX4_choose_41 rfl (lv_at hl 2 rfl) ?_
              exact me_ret hx hb hr hlocks dX4_choose_42 (hP) ⟨_, _, _, _, rfl⟩ hS (by rw [e1]; simp [chL, c_1, c_2, c_4, c_5])
      exact L_28 (pw Q P) fOw fDg fWk sm (Nat.le_refl _) (by simp [sCho, c_1, c_2, hch]) _ _ hP hD hS ls (lv_sub hl [1, 2, 0] rfl)
    · skip
      refine lv_bipush (v := (-3)) hx hb dX4_choose_20 (by decide) ?_
      exact me_ret hx hb hr hlocks dX4_choose_22 (hP) ⟨_, _, _, _, rfl⟩ hS (by simp [sCho, c_1, eq_true c_2])
  · skip
    refine lv_bipush (v := (-2)) hx hb dX4_choose_10 (by decide) ?_
    exact me_ret hx hb hr hlocks dX4_choose_12 (hP) ⟨_, _, _, _, rfl⟩ hS (by simp [sCho, eq_true c_1])

set_option maxRecDepth 20000 in
theorem hi_X4_sum_X4 : ∀ w ∈ wsX40, w ∈ wsX4_sum := by
  intro w h
  unfold wsX4_sum
  simp only [List.mem_cons, List.mem_append, h, or_true, true_or]
theorem nd_X4_sum : okName yX4_sum 3 := by decide +kernel
set_option maxHeartbeats 4000000 in
set_option maxRecDepth 100000 in
theorem k_X4_sum (l : Launch) (D : va_G) (cI cZ : ClassId) (aO : Nat) (Q : Nat) (P : Nat) (M : Nat) (Wd : Nat) (aOw : Nat) (aDg : Nat) (aWk : Nat) (aSm : Nat) (aFo : Nat) (aBk : Nat) (fo : Nat) (ba : Nat) (le : Nat) (sf : Nat) (aIm : Nat) (aKp : Nat) (fOw : Nat → Int32) (fDg : Nat → Int32) (fWk : Nat → Int32) (sm : Nat → Int32) (a : Int32) (h : Int32) (i : Int32) (hv : MV Q P M Wd) : ME l yX4_sum wsX4_sum ({ frames := 6, cells := 0, slots := 0, locals := 135 } : Room) D cI cZ [(aO, .inr (4, [.int (nI Q), .int (nI P), .int (nI M), .int (nI Wd), .ref aOw, .ref aDg, .ref aWk, .ref aSm, .ref aFo, .ref aBk, .int (nI fo), .int (nI ba), .int (nI le), .int (nI sf), .ref aIm, .ref aKp])), (aOw, .inl (cI, 2401, .inl fOw)), (aDg, .inl (cI, 49, .inl fDg)), (aWk, .inl (cI, 49, .inl fWk)), (aSm, .inl (cI, 98, .inl sm))] [.ref aO, .int a, .int h, .int i] (some (.int (sSum Q P M Wd a h i))) (fun z => ∃ (fOw' : Nat → Int32) (fDg' : Nat → Int32) (fWk' : Nat → Int32) (sm' : Nat → Int32), z = [(aO, .inr (4, [.int (nI Q), .int (nI P), .int (nI M), .int (nI Wd), .ref aOw, .ref aDg, .ref aWk, .ref aSm, .ref aFo, .ref aBk, .int (nI fo), .int (nI ba), .int (nI le), .int (nI sf), .ref aIm, .ref aKp])), (aOw, .inl (cI, 2401, .inl fOw')), (aDg, .inl (cI, 49, .inl fDg')), (aWk, .inl (cI, 49, .inl fWk')), (aSm, .inl (cI, 98, .inl sm'))]) := by
  refine me_start (by decide) rfl (Nat.le_of_ble_eq_true rfl) ?_
  intro p e s m args below meth c hx hb hr hml hlocks hts hown hT hP hD hS ls hl
  have hown : s.vm.findClass RX4 = some m.cls := hown
  have hl : lv_has ls 4 [(0, .ref aO), (1, .int a), (2, .int h), (3, .int i)] := hl
  have hv' := hv
  unfold MV at hv'
  have hd0 := dg_pos (tN Q P) (tN_pos hv) (tN_le hv)
  have hd1 := dg_le (tN Q P)
  have hn0 := tN_pos hv
  have hn1 := tN_le hv
  refine lv_aload_n hx hb dX4_sum_0 rfl (lv_at hl 0 rfl) ?_
  refine lv_iload_n hx hb dX4_sum_1 rfl (lv_at hl 1 rfl) ?_
  refine ro_V (As := [.int a]) (rest := []) ⟨hx, hb, hml, hown, hts⟩ hT hP (k_X4_isPhase l D cI cZ aO Q P M Wd aOw aDg aWk aSm aFo aBk fo ba le sf aIm aKp a) gX4_sum_X4_isPhase rfl rfl nd_X4_isPhase [0] rfl (ci := 4) rfl rfl (q0 := 0) rfl hl.1 rfl rfl (Nat.le_of_ble_eq_true rfl) ⟨Nat.le_of_ble_eq_true rfl, Nat.le_of_ble_eq_true rfl⟩ ⟨rfl, rfl⟩ ⟨Nat.zero_le _, Nat.zero_le _⟩ dX4_sum_2 ?_
  refine lv_if_ne (tgt := 11) hx hb dX4_sum_5 (by decide) (fun c_1 => ?_) (fun c_1 => ?_)
  · skip
    refine lv_aload_n hx hb dX4_sum_11 rfl (lv_at hl 0 rfl) ?_
    refine mu_V (As := []) (rest := []) (W1 := [(aO, .inr (4, [.int (nI Q), .int (nI P), .int (nI M), .int (nI Wd), .ref aOw, .ref aDg, .ref aWk, .ref aSm, .ref aFo, .ref aBk, .int (nI fo), .int (nI ba), .int (nI le), .int (nI sf), .ref aIm, .ref aKp])), (aOw, .inl (cI, 2401, .inl (lO (tN Q P) fOw))), (aDg, .inl (cI, 49, .inl (lD (tN Q P) fDg))), (aWk, .inl (cI, 49, .inl (lW (tN Q P) fWk))), (aSm, .inl (cI, 98, .inl sm))]) (st1 := []) ⟨hx, hb, hml, hown, hts⟩ hT hP hD hS (k_X4_layOwn l D cI cZ aO Q P M Wd aOw aDg aWk aSm aFo aBk fo ba le sf aIm aKp fOw fDg fWk hv) gX4_sum_X4_layOwn rfl rfl nd_X4_layOwn [0, 1, 2, 3] (by decide) rfl rfl rfl rfl (ci := 4) rfl rfl (q0 := 0) rfl hl.1 rfl rfl (Nat.le_of_ble_eq_true rfl) ⟨Nat.le_of_ble_eq_true rfl, Nat.le_of_ble_eq_true rfl⟩ ⟨rfl, rfl⟩ ⟨Nat.zero_le _, Nat.zero_le _⟩ dX4_sum_12 (fun H locs hP hD hS => ?_)
    refine lv_iload_n hx hb dX4_sum_15 rfl (lv_at hl 2 rfl) ?_
    refine lv_iconst (v := 1) hx hb dX4_sum_16 (by decide) ?_
    refine lv_bipush (v := 99) hx hb dX4_sum_17 (by decide) ?_
    refine ro_S (As := [.int h, .int 1, .int 99]) (rest := []) ⟨hx, hb, hml, hown, hts⟩ hT hP (k_X4_in l D cI cZ h 1 99) gX4_sum_X4_in rfl nd_X4_in [] rfl hl.1 rfl rfl (Nat.le_of_ble_eq_true rfl) ⟨Nat.le_of_ble_eq_true rfl, Nat.le_of_ble_eq_true rfl⟩ ⟨rfl, rfl⟩ ⟨Nat.zero_le _, Nat.zero_le _⟩ dX4_sum_19 ?_
    refine lv_if_eq (tgt := 44) hx hb dX4_sum_22 (by decide) (fun c_2 => ?_) (fun c_2 => ?_)
    · skip
      refine lv_ldc (v := (-100002)) hx hb hown (hts (.constant RX4 110 (-100002)) (List.mem_of_getElem? (i := 3) rfl)) dX4_sum_44 ?_
      exact me_ret hx hb hr hlocks dX4_sum_46 (hP) ⟨_, _, _, _, rfl⟩ hS (by simp [sSum, c_1, eq_true c_2])
    · skip
      obtain ⟨h2, hh2, rfl⟩ := jIn_nat 1 99 (by decide) c_2
      have hch : cl (nI h2) = h2 := cl_nI (by omega)
      refine lv_iload_n hx hb dX4_sum_25 rfl (lv_at hl 3 rfl) ?_
      refine lv_iconst (v := 0) hx hb dX4_sum_26 (by decide) ?_
      refine lv_aload_n hx hb dX4_sum_27 rfl (lv_at hl 0 rfl) ?_
      refine va_get (D := D) (ci := 4) (v := .ref aDg) (C := RX4) (T := TX4) (N := 16) hx hb hts hi_X4_sum_X4 hown hT.1 hP 0 rfl rfl 5 (by decide) (hts (.fieldLink RX4 26 "SlotStarModel" "degree" "[I") (List.mem_of_getElem? (i := 2) rfl)) (fun _ h9 => h9) rfl dX4_sum_28 ?_
      refine lv_aload_n hx hb dX4_sum_31 rfl (lv_at hl 0 rfl) ?_
      refine ro_V (As := []) (rest := [.ref aDg, .int 0, .int i]) ⟨hx, hb, hml, hown, hts⟩ hT hP (k_X4_star l D cI cZ aO Q P M Wd aOw aDg aWk aSm aFo aBk fo ba le sf aIm aKp hv) gX4_sum_X4_star rfl rfl nd_X4_star [0] rfl (ci := 4) rfl rfl (q0 := 0) rfl hl.1 rfl rfl (Nat.le_of_ble_eq_true rfl) ⟨Nat.le_of_ble_eq_true rfl, Nat.le_of_ble_eq_true rfl⟩ ⟨rfl, rfl⟩ ⟨Nat.zero_le _, Nat.zero_le _⟩ dX4_sum_32 ?_
      refine ld_i hx hb hT hP 2 rfl dX4_sum_35 (k := (tN Q P)) rfl (by omega) (by decide) ?_
      refine top_eq (z := (nI (dgN (tN Q P)))) (by exact (rowOk_n hn0 fOw fDg).1) ?_
      refine lv_iconst (v := 1) hx hb dX4_sum_36 (by decide) ?_
      refine lv_isub hx hb dX4_sum_37 ?_
      refine ro_S (As := [.int i, .int 0, .int ((nI (dgN (tN Q P))) - 1)]) (rest := []) ⟨hx, hb, hml, hown, hts⟩ hT hP (k_X4_in l D cI cZ i 0 ((nI (dgN (tN Q P))) - 1)) gX4_sum_X4_in rfl nd_X4_in [] rfl hl.1 rfl rfl (Nat.le_of_ble_eq_true rfl) ⟨Nat.le_of_ble_eq_true rfl, Nat.le_of_ble_eq_true rfl⟩ ⟨rfl, rfl⟩ ⟨Nat.zero_le _, Nat.zero_le _⟩ dX4_sum_38 ?_
      refine lv_if_ne (tgt := 47) hx hb dX4_sum_41 (by decide) (fun c_3 => ?_) (fun c_3 => ?_)
      · skip
        obtain ⟨i2, hi2, rfl⟩ := jIn_sl (by omega) c_3
        have hci : cl (nI i2) = i2 := cl_nI (by omega)
        refine lv_aload_n hx hb dX4_sum_47 rfl (lv_at hl 0 rfl) ?_
        refine ro_V (As := []) (rest := []) ⟨hx, hb, hml, hown, hts⟩ hT hP (k_X4_isBalanced l D cI cZ aO Q P M Wd aOw aDg aWk aSm aFo aBk fo ba le sf aIm aKp hv) gX4_sum_X4_isBalanced rfl rfl nd_X4_isBalanced [0] rfl (ci := 4) rfl rfl (q0 := 0) rfl hl.1 rfl rfl (Nat.le_of_ble_eq_true rfl) ⟨Nat.le_of_ble_eq_true rfl, Nat.le_of_ble_eq_true rfl⟩ ⟨rfl, rfl⟩ ⟨Nat.zero_le _, Nat.zero_le _⟩ dX4_sum_48 ?_
        refine lv_if_ne (tgt := 57) hx hb dX4_sum_51 (by decide) (fun c_4 => ?_) (fun c_4 => ?_)
        · skip
          refine lv_aload_n hx hb dX4_sum_57 rfl (lv_at hl 0 rfl) ?_
          refine lv_iconst (v := 0) hx hb dX4_sum_58 (by decide) ?_
          refine lv_iload_n hx hb dX4_sum_59 rfl (lv_at hl 1 rfl) ?_
          refine lv_iload_n hx hb dX4_sum_60 rfl (lv_at hl 2 rfl) ?_
          refine lv_aload_n hx hb dX4_sum_61 rfl (lv_at hl 0 rfl) ?_
          refine va_get (D := D) (ci := 4) (v := .int (nI Wd)) (C := RX4) (T := TX4) (N := 16) hx hb hts hi_X4_sum_X4 hown hT.1 hP 0 rfl rfl 3 (by decide) (hts (.fieldLink RX4 19 "SlotStarModel" "reach" "I") (List.mem_of_getElem? (i := 5) rfl)) (fun _ h9 => h9) rfl dX4_sum_62 ?_
          refine mu_V (As := [.int 0, .int a, .int (nI h2), .int (nI Wd)]) (rest := []) (W1 := [(aO, .inr (4, [.int (nI Q), .int (nI P), .int (nI M), .int (nI Wd), .ref aOw, .ref aDg, .ref aWk, .ref aSm, .ref aFo, .ref aBk, .int (nI fo), .int (nI ba), .int (nI le), .int (nI sf), .ref aIm, .ref aKp])), (aOw, .inl (cI, 2401, .inl (lO (tN Q P) (lO (tN Q P) fOw)))), (aDg, .inl (cI, 49, .inl (lD (tN Q P) (lD (tN Q P) fDg)))), (aWk, .inl (cI, 49, .inl (lW (tN Q P) (lW (tN Q P) fWk)))), (aSm, .inl (cI, 98, .inl (rowP 0 (adR Q P M a h2 Wd) sm)))]) (st1 := []) ⟨hx, hb, hml, hown, hts⟩ hT hP hD hS (k_X4_laySum l D cI cZ aO Q P M Wd aOw aDg aWk aSm aFo aBk fo ba le sf aIm aKp (lO (tN Q P) fOw) (lD (tN Q P) fDg) (lW (tN Q P) fWk) sm 0 a h2 Wd hv (by decide) (by omega) (by omega)) gX4_sum_X4_laySum rfl rfl nd_X4_laySum [0, 1, 2, 3, 4] (by decide) rfl rfl rfl rfl (ci := 4) rfl rfl (q0 := 0) rfl hl.1 rfl rfl (Nat.le_of_ble_eq_true rfl) ⟨Nat.le_of_ble_eq_true rfl, Nat.le_of_ble_eq_true rfl⟩ ⟨rfl, rfl⟩ ⟨Nat.zero_le _, Nat.zero_le _⟩ dX4_sum_65 (fun H locs hP hD hS => ?_)
          refine lv_aload_n hx hb dX4_sum_68 rfl (lv_at hl 0 rfl) ?_
          refine va_get (D := D) (ci := 4) (v := .ref aSm) (C := RX4) (T := TX4) (N := 16) hx hb hts hi_X4_sum_X4 hown hT.1 hP 0 rfl rfl 7 (by decide) (hts (.fieldLink RX4 32 "SlotStarModel" "sum" "[I") (List.mem_of_getElem? (i := 6) rfl)) (fun _ h9 => h9) rfl dX4_sum_69 ?_
          refine lv_iload_n hx hb dX4_sum_72 rfl (lv_at hl 3 rfl) ?_
          refine ld_i hx hb hT hP 4 rfl dX4_sum_73 (k := i2) rfl (by omega) (by decide) ?_
          refine top_eq (z := (adR Q P M a h2 Wd i2)) (by exact rowP0 (by omega)) ?_
          exact me_ret hx hb hr hlocks dX4_sum_74 (hP) ⟨_, _, _, _, rfl⟩ hS (by simp [sSum, c_1, c_2, c_3, c_4, hch, hci])
        · skip
          refine lv_ldc (v := (-100003)) hx hb hown (hts (.constant RX4 111 (-100003)) (List.mem_of_getElem? (i := 4) rfl)) dX4_sum_54 ?_
          exact me_ret hx hb hr hlocks dX4_sum_56 (hP) ⟨_, _, _, _, rfl⟩ hS (by simp [sSum, c_1, c_2, c_3, eq_true c_4])
      · skip
        refine lv_ldc (v := (-100002)) hx hb hown (hts (.constant RX4 110 (-100002)) (List.mem_of_getElem? (i := 3) rfl)) dX4_sum_44 ?_
        exact me_ret hx hb hr hlocks dX4_sum_46 (hP) ⟨_, _, _, _, rfl⟩ hS (by simp [sSum, c_1, c_2, eq_true c_3])
  · skip
    refine lv_ldc (v := (-100001)) hx hb hown (hts (.constant RX4 109 (-100001)) (List.mem_of_getElem? (i := 1) rfl)) dX4_sum_8 ?_
    exact me_ret hx hb hr hlocks dX4_sum_10 (hP) ⟨_, _, _, _, rfl⟩ hS (by simp [sSum, eq_true c_1])

set_option maxRecDepth 20000 in
theorem hi_X4_turned_X4 : ∀ w ∈ wsX40, w ∈ wsX4_turned := by
  intro w h
  unfold wsX4_turned
  simp only [List.mem_cons, List.mem_append, h, or_true, true_or]
theorem nd_X4_turned : okName yX4_turned 3 := by decide +kernel
set_option maxHeartbeats 4000000 in
set_option maxRecDepth 100000 in
theorem k_X4_turned (l : Launch) (D : va_G) (cI cZ : ClassId) (aO : Nat) (Q : Nat) (P : Nat) (M : Nat) (Wd : Nat) (aOw : Nat) (aDg : Nat) (aWk : Nat) (aSm : Nat) (aFo : Nat) (aBk : Nat) (fo : Nat) (ba : Nat) (le : Nat) (sf : Nat) (aIm : Nat) (aKp : Nat) (fOw : Nat → Int32) (fDg : Nat → Int32) (fWk : Nat → Int32) (sm : Nat → Int32) (a : Int32) (b : Int32) (h : Int32) (hv : MV Q P M Wd) : ME l yX4_turned wsX4_turned ({ frames := 6, cells := 0, slots := 0, locals := 135 } : Room) D cI cZ [(aO, .inr (4, [.int (nI Q), .int (nI P), .int (nI M), .int (nI Wd), .ref aOw, .ref aDg, .ref aWk, .ref aSm, .ref aFo, .ref aBk, .int (nI fo), .int (nI ba), .int (nI le), .int (nI sf), .ref aIm, .ref aKp])), (aOw, .inl (cI, 2401, .inl fOw)), (aDg, .inl (cI, 49, .inl fDg)), (aWk, .inl (cI, 49, .inl fWk)), (aSm, .inl (cI, 98, .inl sm))] [.ref aO, .int a, .int b, .int h] (some (.int (sTur Q P M Wd a b h))) (fun z => ∃ (fOw' : Nat → Int32) (fDg' : Nat → Int32) (fWk' : Nat → Int32) (sm' : Nat → Int32), z = [(aO, .inr (4, [.int (nI Q), .int (nI P), .int (nI M), .int (nI Wd), .ref aOw, .ref aDg, .ref aWk, .ref aSm, .ref aFo, .ref aBk, .int (nI fo), .int (nI ba), .int (nI le), .int (nI sf), .ref aIm, .ref aKp])), (aOw, .inl (cI, 2401, .inl fOw')), (aDg, .inl (cI, 49, .inl fDg')), (aWk, .inl (cI, 49, .inl fWk')), (aSm, .inl (cI, 98, .inl sm'))]) := by
  refine me_start (by decide) rfl (Nat.le_of_ble_eq_true rfl) ?_
  intro p e s m args below meth c hx hb hr hml hlocks hts hown hT hP hD hS ls hl
  have hown : s.vm.findClass RX4 = some m.cls := hown
  have hl : lv_has ls 8 [(0, .ref aO), (1, .int a), (2, .int b), (3, .int h)] := hl
  have hv' := hv
  unfold MV at hv'
  have hd0 := dg_pos (tN Q P) (tN_pos hv) (tN_le hv)
  have hd1 := dg_le (tN Q P)
  have hn0 := tN_pos hv
  have hn1 := tN_le hv
  refine lv_aload_n hx hb dX4_turned_0 rfl (lv_at hl 0 rfl) ?_
  refine lv_iload_n hx hb dX4_turned_1 rfl (lv_at hl 1 rfl) ?_
  refine ro_V (As := [.int a]) (rest := []) ⟨hx, hb, hml, hown, hts⟩ hT hP (k_X4_isPhase l D cI cZ aO Q P M Wd aOw aDg aWk aSm aFo aBk fo ba le sf aIm aKp a) gX4_turned_X4_isPhase rfl rfl nd_X4_isPhase [0] rfl (ci := 4) rfl rfl (q0 := 0) rfl hl.1 rfl rfl (Nat.le_of_ble_eq_true rfl) ⟨Nat.le_of_ble_eq_true rfl, Nat.le_of_ble_eq_true rfl⟩ ⟨rfl, rfl⟩ ⟨Nat.zero_le _, Nat.zero_le _⟩ dX4_turned_2 ?_
  refine lv_if_eq (tgt := 16) hx hb dX4_turned_5 (by decide) (fun c_1 => ?_) (fun c_1 => ?_)
  · skip
    refine lv_iconst (v := (-1)) hx hb dX4_turned_16 (by decide) ?_
    exact me_ret hx hb hr hlocks dX4_turned_17 (hP) ⟨_, _, _, _, rfl⟩ hS (by simp [sTur, eq_true c_1])
  · skip
    refine lv_aload_n hx hb dX4_turned_8 rfl (lv_at hl 0 rfl) ?_
    refine lv_iload_n hx hb dX4_turned_9 rfl (lv_at hl 2 rfl) ?_
    refine ro_V (As := [.int b]) (rest := []) ⟨hx, hb, hml, hown, hts⟩ hT hP (k_X4_isPhase l D cI cZ aO Q P M Wd aOw aDg aWk aSm aFo aBk fo ba le sf aIm aKp b) gX4_turned_X4_isPhase rfl rfl nd_X4_isPhase [0] rfl (ci := 4) rfl rfl (q0 := 0) rfl hl.1 rfl rfl (Nat.le_of_ble_eq_true rfl) ⟨Nat.le_of_ble_eq_true rfl, Nat.le_of_ble_eq_true rfl⟩ ⟨rfl, rfl⟩ ⟨Nat.zero_le _, Nat.zero_le _⟩ dX4_turned_10 ?_
    refine lv_if_ne (tgt := 18) hx hb dX4_turned_13 (by decide) (fun c_2 => ?_) (fun c_2 => ?_)
    · skip
      refine lv_iload_n hx hb dX4_turned_18 rfl (lv_at hl 3 rfl) ?_
      refine lv_iconst (v := 1) hx hb dX4_turned_19 (by decide) ?_
      refine lv_bipush (v := 99) hx hb dX4_turned_20 (by decide) ?_
      refine ro_S (As := [.int h, .int 1, .int 99]) (rest := []) ⟨hx, hb, hml, hown, hts⟩ hT hP (k_X4_in l D cI cZ h 1 99) gX4_turned_X4_in rfl nd_X4_in [] rfl hl.1 rfl rfl (Nat.le_of_ble_eq_true rfl) ⟨Nat.le_of_ble_eq_true rfl, Nat.le_of_ble_eq_true rfl⟩ ⟨rfl, rfl⟩ ⟨Nat.zero_le _, Nat.zero_le _⟩ dX4_turned_22 ?_
      refine lv_if_ne (tgt := 31) hx hb dX4_turned_25 (by decide) (fun c_3 => ?_) (fun c_3 => ?_)
      · skip
        obtain ⟨h2, hh2, rfl⟩ := jIn_nat 1 99 (by decide) c_3
        have hch : cl (nI h2) = h2 := cl_nI (by omega)
        refine lv_aload_n hx hb dX4_turned_31 rfl (lv_at hl 0 rfl) ?_
        refine ro_V (As := []) (rest := []) ⟨hx, hb, hml, hown, hts⟩ hT hP (k_X4_isBalanced l D cI cZ aO Q P M Wd aOw aDg aWk aSm aFo aBk fo ba le sf aIm aKp hv) gX4_turned_X4_isBalanced rfl rfl nd_X4_isBalanced [0] rfl (ci := 4) rfl rfl (q0 := 0) rfl hl.1 rfl rfl (Nat.le_of_ble_eq_true rfl) ⟨Nat.le_of_ble_eq_true rfl, Nat.le_of_ble_eq_true rfl⟩ ⟨rfl, rfl⟩ ⟨Nat.zero_le _, Nat.zero_le _⟩ dX4_turned_32 ?_
        refine lv_if_ne (tgt := 41) hx hb dX4_turned_35 (by decide) (fun c_4 => ?_) (fun c_4 => ?_)
        · skip
          have hn3 := bal_ge hv c_4
          have hdn := dg_lt (tN Q P) (by omega) hn1
          have hzb : hiZ (dgN (tN Q P)) (adR Q P M b h2 Wd) := fun x h8 _ => adR_hi hv b h2 Wd h8
          refine lv_aload_n hx hb dX4_turned_41 rfl (lv_at hl 0 rfl) ?_
          refine lv_iconst (v := 0) hx hb dX4_turned_42 (by decide) ?_
          refine lv_iload_n hx hb dX4_turned_43 rfl (lv_at hl 1 rfl) ?_
          refine lv_iload_n hx hb dX4_turned_44 rfl (lv_at hl 3 rfl) ?_
          refine lv_aload_n hx hb dX4_turned_45 rfl (lv_at hl 0 rfl) ?_
          refine va_get (D := D) (ci := 4) (v := .int (nI Wd)) (C := RX4) (T := TX4) (N := 16) hx hb hts hi_X4_turned_X4 hown hT.1 hP 0 rfl rfl 3 (by decide) (hts (.fieldLink RX4 19 "SlotStarModel" "reach" "I") (List.mem_of_getElem? (i := 1) rfl)) (fun _ h9 => h9) rfl dX4_turned_46 ?_
          refine mu_V (As := [.int 0, .int a, .int (nI h2), .int (nI Wd)]) (rest := []) (W1 := [(aO, .inr (4, [.int (nI Q), .int (nI P), .int (nI M), .int (nI Wd), .ref aOw, .ref aDg, .ref aWk, .ref aSm, .ref aFo, .ref aBk, .int (nI fo), .int (nI ba), .int (nI le), .int (nI sf), .ref aIm, .ref aKp])), (aOw, .inl (cI, 2401, .inl (lO (tN Q P) fOw))), (aDg, .inl (cI, 49, .inl (lD (tN Q P) fDg))), (aWk, .inl (cI, 49, .inl (lW (tN Q P) fWk))), (aSm, .inl (cI, 98, .inl (rowP 0 (adR Q P M a h2 Wd) sm)))]) (st1 := []) ⟨hx, hb, hml, hown, hts⟩ hT hP hD hS (k_X4_laySum l D cI cZ aO Q P M Wd aOw aDg aWk aSm aFo aBk fo ba le sf aIm aKp fOw fDg fWk sm 0 a h2 Wd hv (by decide) (by omega) (by omega)) gX4_turned_X4_laySum rfl rfl nd_X4_laySum [0, 1, 2, 3, 4] (by decide) rfl rfl rfl rfl (ci := 4) rfl rfl (q0 := 0) rfl hl.1 rfl rfl (Nat.le_of_ble_eq_true rfl) ⟨Nat.le_of_ble_eq_true rfl, Nat.le_of_ble_eq_true rfl⟩ ⟨rfl, rfl⟩ ⟨Nat.zero_le _, Nat.zero_le _⟩ dX4_turned_49 (fun H locs hP hD hS => ?_)
          refine lv_aload_n hx hb dX4_turned_52 rfl (lv_at hl 0 rfl) ?_
          refine lv_iconst (v := 1) hx hb dX4_turned_53 (by decide) ?_
          refine lv_iload_n hx hb dX4_turned_54 rfl (lv_at hl 2 rfl) ?_
          refine lv_iload_n hx hb dX4_turned_55 rfl (lv_at hl 3 rfl) ?_
          refine lv_aload_n hx hb dX4_turned_56 rfl (lv_at hl 0 rfl) ?_
          refine va_get (D := D) (ci := 4) (v := .int (nI Wd)) (C := RX4) (T := TX4) (N := 16) hx hb hts hi_X4_turned_X4 hown hT.1 hP 0 rfl rfl 3 (by decide) (hts (.fieldLink RX4 19 "SlotStarModel" "reach" "I") (List.mem_of_getElem? (i := 1) rfl)) (fun _ h9 => h9) rfl dX4_turned_57 ?_
          refine mu_V (As := [.int 1, .int b, .int (nI h2), .int (nI Wd)]) (rest := []) (W1 := [(aO, .inr (4, [.int (nI Q), .int (nI P), .int (nI M), .int (nI Wd), .ref aOw, .ref aDg, .ref aWk, .ref aSm, .ref aFo, .ref aBk, .int (nI fo), .int (nI ba), .int (nI le), .int (nI sf), .ref aIm, .ref aKp])), (aOw, .inl (cI, 2401, .inl (lO (tN Q P) (lO (tN Q P) fOw)))), (aDg, .inl (cI, 49, .inl (lD (tN Q P) (lD (tN Q P) fDg)))), (aWk, .inl (cI, 49, .inl (lW (tN Q P) (lW (tN Q P) fWk)))), (aSm, .inl (cI, 98, .inl (rowP 1 (adR Q P M b h2 Wd) (rowP 0 (adR Q P M a h2 Wd) sm))))]) (st1 := []) ⟨hx, hb, hml, hown, hts⟩ hT hP hD hS (k_X4_laySum l D cI cZ aO Q P M Wd aOw aDg aWk aSm aFo aBk fo ba le sf aIm aKp (lO (tN Q P) fOw) (lD (tN Q P) fDg) (lW (tN Q P) fWk) (rowP 0 (adR Q P M a h2 Wd) sm) 1 b h2 Wd hv (by decide) (by omega) (by omega)) gX4_turned_X4_laySum rfl rfl nd_X4_laySum [0, 1, 2, 3, 4] (by decide) rfl rfl rfl rfl (ci := 4) rfl rfl (q0 := 0) rfl hl.1 rfl rfl (Nat.le_of_ble_eq_true rfl) ⟨Nat.le_of_ble_eq_true rfl, Nat.le_of_ble_eq_true rfl⟩ ⟨rfl, rfl⟩ ⟨Nat.zero_le _, Nat.zero_le _⟩ dX4_turned_60 (fun H locs hP hD hS => ?_)
          have hP : va_P D cls5 [(aO, .inr (4, [.int (nI Q), .int (nI P), .int (nI M), .int (nI Wd), .ref aOw, .ref aDg, .ref aWk, .ref aSm, .ref aFo, .ref aBk, .int (nI fo), .int (nI ba), .int (nI le), .int (nI sf), .ref aIm, .ref aKp])), (aOw, .inl (cI, 2401, .inl (lO (tN Q P) (lO (tN Q P) fOw)))), (aDg, .inl (cI, 49, .inl (lD (tN Q P) (lD (tN Q P) fDg)))), (aWk, .inl (cI, 49, .inl (lW (tN Q P) (lW (tN Q P) fWk)))), (aSm, .inl (cI, 98, .inl (rowP 0 (adR Q P M a h2 Wd) (rowP 1 (adR Q P M b h2 Wd) sm))))] H := by rw [rowP_comm] at hP; exact hP
          have hD : va_D (va_M [(aO, .inr (4, [.int (nI Q), .int (nI P), .int (nI M), .int (nI Wd), .ref aOw, .ref aDg, .ref aWk, .ref aSm, .ref aFo, .ref aBk, .int (nI fo), .int (nI ba), .int (nI le), .int (nI sf), .ref aIm, .ref aKp])), (aOw, .inl (cI, 2401, .inl fOw)), (aDg, .inl (cI, 49, .inl fDg)), (aWk, .inl (cI, 49, .inl fWk)), (aSm, .inl (cI, 98, .inl sm))]) [(aO, .inr (4, [.int (nI Q), .int (nI P), .int (nI M), .int (nI Wd), .ref aOw, .ref aDg, .ref aWk, .ref aSm, .ref aFo, .ref aBk, .int (nI fo), .int (nI ba), .int (nI le), .int (nI sf), .ref aIm, .ref aKp])), (aOw, .inl (cI, 2401, .inl (lO (tN Q P) (lO (tN Q P) fOw)))), (aDg, .inl (cI, 49, .inl (lD (tN Q P) (lD (tN Q P) fDg)))), (aWk, .inl (cI, 49, .inl (lW (tN Q P) (lW (tN Q P) fWk)))), (aSm, .inl (cI, 98, .inl (rowP 0 (adR Q P M a h2 Wd) (rowP 1 (adR Q P M b h2 Wd) sm))))] := by rw [rowP_comm] at hD; exact hD
          refine lv_aload_n hx hb dX4_turned_63 rfl (lv_at hl 0 rfl) ?_
          refine ro_V (As := []) (rest := []) ⟨hx, hb, hml, hown, hts⟩ hT hP (k_X4_star l D cI cZ aO Q P M Wd aOw aDg aWk aSm aFo aBk fo ba le sf aIm aKp hv) gX4_turned_X4_star rfl rfl nd_X4_star [0] rfl (ci := 4) rfl rfl (q0 := 0) rfl hl.1 rfl rfl (Nat.le_of_ble_eq_true rfl) ⟨Nat.le_of_ble_eq_true rfl, Nat.le_of_ble_eq_true rfl⟩ ⟨rfl, rfl⟩ ⟨Nat.zero_le _, Nat.zero_le _⟩ dX4_turned_64 ?_
          refine lv_istore (lv' := [(4, .int (nI (tN Q P))), (0, .ref aO), (1, .int a), (2, .int b), (3, .int (nI h2))]) hx hb dX4_turned_67 hl (by decide) rfl (fun ls hl => ?_)
          refine lv_iconst (v := 0) hx hb dX4_turned_69 (by decide) ?_
          refine lv_istore (lv' := [(5, .int 0), (4, .int (nI (tN Q P))), (0, .ref aO), (1, .int a), (2, .int b), (3, .int (nI h2))]) hx hb dX4_turned_70 hl (by decide) rfl (fun ls hl => ?_)
          have L_72 : ∀ (f : Nat) (ee : Nat) (v : Nat → Int32), ee + f = tN Q P → hiZ (dgN (tN Q P)) v → sTur Q P M Wd a b (nI h2) = tuL (tN Q P) (adR Q P M b h2 Wd) f ee v → ∀ (H : Heap) (locs : List Loc), va_P D cls5 [(aO, .inr (4, [.int (nI Q), .int (nI P), .int (nI M), .int (nI Wd), .ref aOw, .ref aDg, .ref aWk, .ref aSm, .ref aFo, .ref aBk, .int (nI fo), .int (nI ba), .int (nI le), .int (nI sf), .ref aIm, .ref aKp])), (aOw, .inl (cI, 2401, .inl (lO (tN Q P) (lO (tN Q P) fOw)))), (aDg, .inl (cI, 49, .inl (lD (tN Q P) (lD (tN Q P) fDg)))), (aWk, .inl (cI, 49, .inl (lW (tN Q P) (lW (tN Q P) fWk)))), (aSm, .inl (cI, 98, .inl (rowP 0 v (rowP 1 (adR Q P M b h2 Wd) sm))))] H → va_D (va_M [(aO, .inr (4, [.int (nI Q), .int (nI P), .int (nI M), .int (nI Wd), .ref aOw, .ref aDg, .ref aWk, .ref aSm, .ref aFo, .ref aBk, .int (nI fo), .int (nI ba), .int (nI le), .int (nI sf), .ref aIm, .ref aKp])), (aOw, .inl (cI, 2401, .inl fOw)), (aDg, .inl (cI, 49, .inl fDg)), (aWk, .inl (cI, 49, .inl fWk)), (aSm, .inl (cI, 98, .inl sm))]) [(aO, .inr (4, [.int (nI Q), .int (nI P), .int (nI M), .int (nI Wd), .ref aOw, .ref aDg, .ref aWk, .ref aSm, .ref aFo, .ref aBk, .int (nI fo), .int (nI ba), .int (nI le), .int (nI sf), .ref aIm, .ref aKp])), (aOw, .inl (cI, 2401, .inl (lO (tN Q P) (lO (tN Q P) fOw)))), (aDg, .inl (cI, 49, .inl (lD (tN Q P) (lD (tN Q P) fDg)))), (aWk, .inl (cI, 49, .inl (lW (tN Q P) (lW (tN Q P) fWk)))), (aSm, .inl (cI, 98, .inl (rowP 0 v (rowP 1 (adR Q P M b h2 Wd) sm))))] → va_S (va_M [(aO, .inr (4, [.int (nI Q), .int (nI P), .int (nI M), .int (nI Wd), .ref aOw, .ref aDg, .ref aWk, .ref aSm, .ref aFo, .ref aBk, .int (nI fo), .int (nI ba), .int (nI le), .int (nI sf), .ref aIm, .ref aKp])), (aOw, .inl (cI, 2401, .inl fOw)), (aDg, .inl (cI, 49, .inl fDg)), (aWk, .inl (cI, 49, .inl fWk)), (aSm, .inl (cI, 98, .inl sm))]) s.heap H locs → ∀ ls : Array Slot, lv_has ls 8 [(0, .ref aO), (1, .int a), (2, .int b), (3, .int (nI h2)), (4, .int (nI (tN Q P))), (5, .int (nI ee))] → W p l e (headSpec wsX4_turned ({ frames := 6, cells := 0, slots := 0, locals := 135 } : Room)).room s m args below meth c H locs 0 0 (MQ below (QcE D [(aO, .inr (4, [.int (nI Q), .int (nI P), .int (nI M), .int (nI Wd), .ref aOw, .ref aDg, .ref aWk, .ref aSm, .ref aFo, .ref aBk, .int (nI fo), .int (nI ba), .int (nI le), .int (nI sf), .ref aIm, .ref aKp])), (aOw, .inl (cI, 2401, .inl fOw)), (aDg, .inl (cI, 49, .inl fDg)), (aWk, .inl (cI, 49, .inl fWk)), (aSm, .inl (cI, 98, .inl sm))] (some (.int (sTur Q P M Wd a b (nI h2)))) (fun z => ∃ (fOw' : Nat → Int32) (fDg' : Nat → Int32) (fWk' : Nat → Int32) (sm' : Nat → Int32), z = [(aO, .inr (4, [.int (nI Q), .int (nI P), .int (nI M), .int (nI Wd), .ref aOw, .ref aDg, .ref aWk, .ref aSm, .ref aFo, .ref aBk, .int (nI fo), .int (nI ba), .int (nI le), .int (nI sf), .ref aIm, .ref aKp])), (aOw, .inl (cI, 2401, .inl fOw')), (aDg, .inl (cI, 49, .inl fDg')), (aWk, .inl (cI, 49, .inl fWk')), (aSm, .inl (cI, 98, .inl sm'))])) args s 0 0 (va_M [(aO, .inr (4, [.int (nI Q), .int (nI P), .int (nI M), .int (nI Wd), .ref aOw, .ref aDg, .ref aWk, .ref aSm, .ref aFo, .ref aBk, .int (nI fo), .int (nI ba), .int (nI le), .int (nI sf), .ref aIm, .ref aKp])), (aOw, .inl (cI, 2401, .inl fOw)), (aDg, .inl (cI, 49, .inl fDg)), (aWk, .inl (cI, 49, .inl fWk)), (aSm, .inl (cI, 98, .inl sm))])) (F0 m 72 ls []) := by
            intro f
            induction f with
            | zero =>
              intro ee v h1 hz e1 H locs hP hD hS ls hl
              refine lv_iload hx hb dX4_turned_72 (lv_at hl 5 rfl) ?_
              refine lv_iload hx hb dX4_turned_74 (lv_at hl 4 rfl) ?_
              refine lv_icmp_ge (tgt := 201) hx hb dX4_turned_76 (by decide) (fun c_5 => ?_) (fun c_5 => ?_)
              · skip
                refine lv_bipush (v := (-6)) hx hb dX4_turned_201 (by decide) ?_
                exact me_ret hx hb hr hlocks dX4_turned_203 (hP) ⟨_, _, _, _, rfl⟩ hS (by rw [e1]; rfl)
              · exfalso; exact c_5 (nI_le (by omega) (by omega))
            | succ f ih_72 =>
              intro ee v h1 hz e1 H locs hP hD hS ls hl
              refine lv_iload hx hb dX4_turned_72 (lv_at hl 5 rfl) ?_
              refine lv_iload hx hb dX4_turned_74 (lv_at hl 4 rfl) ?_
              refine lv_icmp_ge (tgt := 201) hx hb dX4_turned_76 (by decide) (fun c_6 => ?_) (fun c_6 => ?_)
              · exfalso; exact nI_ge (show ee < tN Q P by omega) (by omega) c_6
              · skip
                refine lv_iconst (v := 1) hx hb dX4_turned_79 (by decide) ?_
                refine lv_istore (lv' := [(6, .int 1), (0, .ref aO), (1, .int a), (2, .int b), (3, .int (nI h2)), (4, .int (nI (tN Q P))), (5, .int (nI ee))]) hx hb dX4_turned_80 hl (by decide) rfl (fun ls hl => ?_)
                refine lv_iconst (v := 0) hx hb dX4_turned_82 (by decide) ?_
                refine lv_istore (lv' := [(7, .int 0), (6, .int 1), (0, .ref aO), (1, .int a), (2, .int b), (3, .int (nI h2)), (4, .int (nI (tN Q P))), (5, .int (nI ee))]) hx hb dX4_turned_83 hl (by decide) rfl (fun ls hl => ?_)
                have L_85 : ∀ (f2 : Nat) (i : Nat) (bb : Int32), i + f2 = 49 → cmL v (adR Q P M b h2 Wd) 49 0 1 = cmL v (adR Q P M b h2 Wd) f2 i bb → ∀ (H : Heap) (locs : List Loc), va_P D cls5 [(aO, .inr (4, [.int (nI Q), .int (nI P), .int (nI M), .int (nI Wd), .ref aOw, .ref aDg, .ref aWk, .ref aSm, .ref aFo, .ref aBk, .int (nI fo), .int (nI ba), .int (nI le), .int (nI sf), .ref aIm, .ref aKp])), (aOw, .inl (cI, 2401, .inl (lO (tN Q P) (lO (tN Q P) fOw)))), (aDg, .inl (cI, 49, .inl (lD (tN Q P) (lD (tN Q P) fDg)))), (aWk, .inl (cI, 49, .inl (lW (tN Q P) (lW (tN Q P) fWk)))), (aSm, .inl (cI, 98, .inl (rowP 0 v (rowP 1 (adR Q P M b h2 Wd) sm))))] H → va_D (va_M [(aO, .inr (4, [.int (nI Q), .int (nI P), .int (nI M), .int (nI Wd), .ref aOw, .ref aDg, .ref aWk, .ref aSm, .ref aFo, .ref aBk, .int (nI fo), .int (nI ba), .int (nI le), .int (nI sf), .ref aIm, .ref aKp])), (aOw, .inl (cI, 2401, .inl fOw)), (aDg, .inl (cI, 49, .inl fDg)), (aWk, .inl (cI, 49, .inl fWk)), (aSm, .inl (cI, 98, .inl sm))]) [(aO, .inr (4, [.int (nI Q), .int (nI P), .int (nI M), .int (nI Wd), .ref aOw, .ref aDg, .ref aWk, .ref aSm, .ref aFo, .ref aBk, .int (nI fo), .int (nI ba), .int (nI le), .int (nI sf), .ref aIm, .ref aKp])), (aOw, .inl (cI, 2401, .inl (lO (tN Q P) (lO (tN Q P) fOw)))), (aDg, .inl (cI, 49, .inl (lD (tN Q P) (lD (tN Q P) fDg)))), (aWk, .inl (cI, 49, .inl (lW (tN Q P) (lW (tN Q P) fWk)))), (aSm, .inl (cI, 98, .inl (rowP 0 v (rowP 1 (adR Q P M b h2 Wd) sm))))] → va_S (va_M [(aO, .inr (4, [.int (nI Q), .int (nI P), .int (nI M), .int (nI Wd), .ref aOw, .ref aDg, .ref aWk, .ref aSm, .ref aFo, .ref aBk, .int (nI fo), .int (nI ba), .int (nI le), .int (nI sf), .ref aIm, .ref aKp])), (aOw, .inl (cI, 2401, .inl fOw)), (aDg, .inl (cI, 49, .inl fDg)), (aWk, .inl (cI, 49, .inl fWk)), (aSm, .inl (cI, 98, .inl sm))]) s.heap H locs → ∀ ls : Array Slot, lv_has ls 8 [(0, .ref aO), (1, .int a), (2, .int b), (3, .int (nI h2)), (4, .int (nI (tN Q P))), (5, .int (nI ee)), (6, .int bb), (7, .int (nI i))] → W p l e (headSpec wsX4_turned ({ frames := 6, cells := 0, slots := 0, locals := 135 } : Room)).room s m args below meth c H locs 0 0 (MQ below (QcE D [(aO, .inr (4, [.int (nI Q), .int (nI P), .int (nI M), .int (nI Wd), .ref aOw, .ref aDg, .ref aWk, .ref aSm, .ref aFo, .ref aBk, .int (nI fo), .int (nI ba), .int (nI le), .int (nI sf), .ref aIm, .ref aKp])), (aOw, .inl (cI, 2401, .inl fOw)), (aDg, .inl (cI, 49, .inl fDg)), (aWk, .inl (cI, 49, .inl fWk)), (aSm, .inl (cI, 98, .inl sm))] (some (.int (sTur Q P M Wd a b (nI h2)))) (fun z => ∃ (fOw' : Nat → Int32) (fDg' : Nat → Int32) (fWk' : Nat → Int32) (sm' : Nat → Int32), z = [(aO, .inr (4, [.int (nI Q), .int (nI P), .int (nI M), .int (nI Wd), .ref aOw, .ref aDg, .ref aWk, .ref aSm, .ref aFo, .ref aBk, .int (nI fo), .int (nI ba), .int (nI le), .int (nI sf), .ref aIm, .ref aKp])), (aOw, .inl (cI, 2401, .inl fOw')), (aDg, .inl (cI, 49, .inl fDg')), (aWk, .inl (cI, 49, .inl fWk')), (aSm, .inl (cI, 98, .inl sm'))])) args s 0 0 (va_M [(aO, .inr (4, [.int (nI Q), .int (nI P), .int (nI M), .int (nI Wd), .ref aOw, .ref aDg, .ref aWk, .ref aSm, .ref aFo, .ref aBk, .int (nI fo), .int (nI ba), .int (nI le), .int (nI sf), .ref aIm, .ref aKp])), (aOw, .inl (cI, 2401, .inl fOw)), (aDg, .inl (cI, 49, .inl fDg)), (aWk, .inl (cI, 49, .inl fWk)), (aSm, .inl (cI, 98, .inl sm))])) (F0 m 85 ls []) := by
                  intro f2
                  induction f2 with
                  | zero =>
                    intro i bb h5 h4 H locs hP hD hS ls hl
                    refine lv_iload hx hb dX4_turned_85 (lv_at hl 7 rfl) ?_
                    refine lv_bipush (v := 49) hx hb dX4_turned_87 (by decide) ?_
                    refine lv_icmp_ge (tgt := 130) hx hb dX4_turned_89 (by decide) (fun c_7 => ?_) (fun c_7 => ?_)
                    · skip
                      refine lv_iload hx hb dX4_turned_130 (lv_at hl 6 rfl) ?_
                      refine lv_if_eq (tgt := 138) hx hb dX4_turned_132 (by decide) (fun c_8 => ?_) (fun c_8 => ?_)
                      · skip
                        have hs : smL v (adR Q P M b h2 Wd) (dgN (tN Q P)) 0 = 0 := by rw [← m_same (by omega) hz hzb, h4]; exact c_8
                        refine lv_iload hx hb dX4_turned_138 (lv_at hl 4 rfl) ?_
                        refine lv_istore (lv' := [(7, .int (nI (tN Q P))), (0, .ref aO), (1, .int a), (2, .int b), (3, .int (nI h2)), (4, .int (nI (tN Q P))), (5, .int (nI ee)), (6, .int bb)]) hx hb dX4_turned_140 hl (by decide) rfl (fun ls hl => ?_)
                        have L_142 : ∀ (i : Nat) (u : Nat → Int32), i ≤ tN Q P → swL (tN Q P) v = swL i u → ∀ (H : Heap) (locs : List Loc), va_P D cls5 [(aO, .inr (4, [.int (nI Q), .int (nI P), .int (nI M), .int (nI Wd), .ref aOw, .ref aDg, .ref aWk, .ref aSm, .ref aFo, .ref aBk, .int (nI fo), .int (nI ba), .int (nI le), .int (nI sf), .ref aIm, .ref aKp])), (aOw, .inl (cI, 2401, .inl (lO (tN Q P) (lO (tN Q P) fOw)))), (aDg, .inl (cI, 49, .inl (lD (tN Q P) (lD (tN Q P) fDg)))), (aWk, .inl (cI, 49, .inl (lW (tN Q P) (lW (tN Q P) fWk)))), (aSm, .inl (cI, 98, .inl (rowP 0 u (rowP 1 (adR Q P M b h2 Wd) sm))))] H → va_D (va_M [(aO, .inr (4, [.int (nI Q), .int (nI P), .int (nI M), .int (nI Wd), .ref aOw, .ref aDg, .ref aWk, .ref aSm, .ref aFo, .ref aBk, .int (nI fo), .int (nI ba), .int (nI le), .int (nI sf), .ref aIm, .ref aKp])), (aOw, .inl (cI, 2401, .inl fOw)), (aDg, .inl (cI, 49, .inl fDg)), (aWk, .inl (cI, 49, .inl fWk)), (aSm, .inl (cI, 98, .inl sm))]) [(aO, .inr (4, [.int (nI Q), .int (nI P), .int (nI M), .int (nI Wd), .ref aOw, .ref aDg, .ref aWk, .ref aSm, .ref aFo, .ref aBk, .int (nI fo), .int (nI ba), .int (nI le), .int (nI sf), .ref aIm, .ref aKp])), (aOw, .inl (cI, 2401, .inl (lO (tN Q P) (lO (tN Q P) fOw)))), (aDg, .inl (cI, 49, .inl (lD (tN Q P) (lD (tN Q P) fDg)))), (aWk, .inl (cI, 49, .inl (lW (tN Q P) (lW (tN Q P) fWk)))), (aSm, .inl (cI, 98, .inl (rowP 0 u (rowP 1 (adR Q P M b h2 Wd) sm))))] → va_S (va_M [(aO, .inr (4, [.int (nI Q), .int (nI P), .int (nI M), .int (nI Wd), .ref aOw, .ref aDg, .ref aWk, .ref aSm, .ref aFo, .ref aBk, .int (nI fo), .int (nI ba), .int (nI le), .int (nI sf), .ref aIm, .ref aKp])), (aOw, .inl (cI, 2401, .inl fOw)), (aDg, .inl (cI, 49, .inl fDg)), (aWk, .inl (cI, 49, .inl fWk)), (aSm, .inl (cI, 98, .inl sm))]) s.heap H locs → ∀ ls : Array Slot, lv_has ls 8 [(0, .ref aO), (1, .int a), (2, .int b), (3, .int (nI h2)), (4, .int (nI (tN Q P))), (5, .int (nI ee)), (6, .int bb), (7, .int (nI i))] → W p l e (headSpec wsX4_turned ({ frames := 6, cells := 0, slots := 0, locals := 135 } : Room)).room s m args below meth c H locs 0 0 (MQ below (QcE D [(aO, .inr (4, [.int (nI Q), .int (nI P), .int (nI M), .int (nI Wd), .ref aOw, .ref aDg, .ref aWk, .ref aSm, .ref aFo, .ref aBk, .int (nI fo), .int (nI ba), .int (nI le), .int (nI sf), .ref aIm, .ref aKp])), (aOw, .inl (cI, 2401, .inl fOw)), (aDg, .inl (cI, 49, .inl fDg)), (aWk, .inl (cI, 49, .inl fWk)), (aSm, .inl (cI, 98, .inl sm))] (some (.int (sTur Q P M Wd a b (nI h2)))) (fun z => ∃ (fOw' : Nat → Int32) (fDg' : Nat → Int32) (fWk' : Nat → Int32) (sm' : Nat → Int32), z = [(aO, .inr (4, [.int (nI Q), .int (nI P), .int (nI M), .int (nI Wd), .ref aOw, .ref aDg, .ref aWk, .ref aSm, .ref aFo, .ref aBk, .int (nI fo), .int (nI ba), .int (nI le), .int (nI sf), .ref aIm, .ref aKp])), (aOw, .inl (cI, 2401, .inl fOw')), (aDg, .inl (cI, 49, .inl fDg')), (aWk, .inl (cI, 49, .inl fWk')), (aSm, .inl (cI, 98, .inl sm'))])) args s 0 0 (va_M [(aO, .inr (4, [.int (nI Q), .int (nI P), .int (nI M), .int (nI Wd), .ref aOw, .ref aDg, .ref aWk, .ref aSm, .ref aFo, .ref aBk, .int (nI fo), .int (nI ba), .int (nI le), .int (nI sf), .ref aIm, .ref aKp])), (aOw, .inl (cI, 2401, .inl fOw)), (aDg, .inl (cI, 49, .inl fDg)), (aWk, .inl (cI, 49, .inl fWk)), (aSm, .inl (cI, 98, .inl sm))])) (F0 m 142 ls []) := by
                          intro i
                          induction i with
                          | zero =>
                            intro u h3 h6 H locs hP hD hS ls hl
                            refine lv_iload hx hb dX4_turned_142 (lv_at hl 7 rfl) ?_
                            refine lv_if_le (tgt := 169) hx hb dX4_turned_144 (by decide) (fun c_9 => ?_) (fun c_9 => ?_)
                            · skip
                              refine lv_aload_n hx hb dX4_turned_169 rfl (lv_at hl 0 rfl) ?_
                              refine va_get (D := D) (ci := 4) (v := .ref aSm) (C := RX4) (T := TX4) (N := 16) hx hb hts hi_X4_turned_X4 hown hT.1 hP 0 rfl rfl 7 (by decide) (hts (.fieldLink RX4 32 "SlotStarModel" "sum" "[I") (List.mem_of_getElem? (i := 2) rfl)) (fun _ h9 => h9) rfl dX4_turned_170 ?_
                              refine lv_iconst (v := 0) hx hb dX4_turned_173 (by decide) ?_
                              refine lv_aload_n hx hb dX4_turned_174 rfl (lv_at hl 0 rfl) ?_
                              refine va_get (D := D) (ci := 4) (v := .ref aSm) (C := RX4) (T := TX4) (N := 16) hx hb hts hi_X4_turned_X4 hown hT.1 hP 0 rfl rfl 7 (by decide) (hts (.fieldLink RX4 32 "SlotStarModel" "sum" "[I") (List.mem_of_getElem? (i := 2) rfl)) (fun _ h9 => h9) rfl dX4_turned_175 ?_
                              refine lv_iload hx hb dX4_turned_178 (lv_at hl 4 rfl) ?_
                              refine ld_i hx hb hT hP 4 rfl dX4_turned_180 (k := (tN Q P)) rfl (by omega) (by decide) ?_
                              refine top_eq (z := (u (tN Q P))) (by exact rowP0 (by omega)) ?_
                              refine st_i hx hb hT hP hD hS 4 rfl dX4_turned_181 (k := 0) (W1 := [(aO, .inr (4, [.int (nI Q), .int (nI P), .int (nI M), .int (nI Wd), .ref aOw, .ref aDg, .ref aWk, .ref aSm, .ref aFo, .ref aBk, .int (nI fo), .int (nI ba), .int (nI le), .int (nI sf), .ref aIm, .ref aKp])), (aOw, .inl (cI, 2401, .inl (lO (tN Q P) (lO (tN Q P) fOw)))), (aDg, .inl (cI, 49, .inl (lD (tN Q P) (lD (tN Q P) fDg)))), (aWk, .inl (cI, 49, .inl (lW (tN Q P) (lW (tN Q P) fWk)))), (aSm, .inl (cI, 98, .inl (upd (rowP 0 u (rowP 1 (adR Q P M b h2 Wd) sm)) 0 (u (tN Q P)))))]) rfl (by decide) (by decide) rfl (fun H locs hP hD hS => ?_)
                              have hP : va_P D cls5 [(aO, .inr (4, [.int (nI Q), .int (nI P), .int (nI M), .int (nI Wd), .ref aOw, .ref aDg, .ref aWk, .ref aSm, .ref aFo, .ref aBk, .int (nI fo), .int (nI ba), .int (nI le), .int (nI sf), .ref aIm, .ref aKp])), (aOw, .inl (cI, 2401, .inl (lO (tN Q P) (lO (tN Q P) fOw)))), (aDg, .inl (cI, 49, .inl (lD (tN Q P) (lD (tN Q P) fDg)))), (aWk, .inl (cI, 49, .inl (lW (tN Q P) (lW (tN Q P) fWk)))), (aSm, .inl (cI, 98, .inl (rowP 0 (upd u 0 (u (tN Q P))) (rowP 1 (adR Q P M b h2 Wd) sm))))] H := by rw [rowP0_upd (by omega)] at hP; exact hP
                              have hD : va_D (va_M [(aO, .inr (4, [.int (nI Q), .int (nI P), .int (nI M), .int (nI Wd), .ref aOw, .ref aDg, .ref aWk, .ref aSm, .ref aFo, .ref aBk, .int (nI fo), .int (nI ba), .int (nI le), .int (nI sf), .ref aIm, .ref aKp])), (aOw, .inl (cI, 2401, .inl fOw)), (aDg, .inl (cI, 49, .inl fDg)), (aWk, .inl (cI, 49, .inl fWk)), (aSm, .inl (cI, 98, .inl sm))]) [(aO, .inr (4, [.int (nI Q), .int (nI P), .int (nI M), .int (nI Wd), .ref aOw, .ref aDg, .ref aWk, .ref aSm, .ref aFo, .ref aBk, .int (nI fo), .int (nI ba), .int (nI le), .int (nI sf), .ref aIm, .ref aKp])), (aOw, .inl (cI, 2401, .inl (lO (tN Q P) (lO (tN Q P) fOw)))), (aDg, .inl (cI, 49, .inl (lD (tN Q P) (lD (tN Q P) fDg)))), (aWk, .inl (cI, 49, .inl (lW (tN Q P) (lW (tN Q P) fWk)))), (aSm, .inl (cI, 98, .inl (rowP 0 (upd u 0 (u (tN Q P))) (rowP 1 (adR Q P M b h2 Wd) sm))))] := by rw [rowP0_upd (by omega)] at hD; exact hD
                              refine lv_aload_n hx hb dX4_turned_182 rfl (lv_at hl 0 rfl) ?_
                              refine va_get (D := D) (ci := 4) (v := .ref aSm) (C := RX4) (T := TX4) (N := 16) hx hb hts hi_X4_turned_X4 hown hT.1 hP 0 rfl rfl 7 (by decide) (hts (.fieldLink RX4 32 "SlotStarModel" "sum" "[I") (List.mem_of_getElem? (i := 2) rfl)) (fun _ h9 => h9) rfl dX4_turned_183 ?_
                              refine lv_iload hx hb dX4_turned_186 (lv_at hl 4 rfl) ?_
                              refine lv_iconst (v := 0) hx hb dX4_turned_188 (by decide) ?_
                              refine st_i hx hb hT hP hD hS 4 rfl dX4_turned_189 (k := (tN Q P)) (W1 := [(aO, .inr (4, [.int (nI Q), .int (nI P), .int (nI M), .int (nI Wd), .ref aOw, .ref aDg, .ref aWk, .ref aSm, .ref aFo, .ref aBk, .int (nI fo), .int (nI ba), .int (nI le), .int (nI sf), .ref aIm, .ref aKp])), (aOw, .inl (cI, 2401, .inl (lO (tN Q P) (lO (tN Q P) fOw)))), (aDg, .inl (cI, 49, .inl (lD (tN Q P) (lD (tN Q P) fDg)))), (aWk, .inl (cI, 49, .inl (lW (tN Q P) (lW (tN Q P) fWk)))), (aSm, .inl (cI, 98, .inl (upd (rowP 0 (upd u 0 (u (tN Q P))) (rowP 1 (adR Q P M b h2 Wd) sm)) (tN Q P) 0)))]) rfl (by omega) (by decide) rfl (fun H locs hP hD hS => ?_)
                              have hP : va_P D cls5 [(aO, .inr (4, [.int (nI Q), .int (nI P), .int (nI M), .int (nI Wd), .ref aOw, .ref aDg, .ref aWk, .ref aSm, .ref aFo, .ref aBk, .int (nI fo), .int (nI ba), .int (nI le), .int (nI sf), .ref aIm, .ref aKp])), (aOw, .inl (cI, 2401, .inl (lO (tN Q P) (lO (tN Q P) fOw)))), (aDg, .inl (cI, 49, .inl (lD (tN Q P) (lD (tN Q P) fDg)))), (aWk, .inl (cI, 49, .inl (lW (tN Q P) (lW (tN Q P) fWk)))), (aSm, .inl (cI, 98, .inl (rowP 0 (upd (upd u 0 (u (tN Q P))) (tN Q P) 0) (rowP 1 (adR Q P M b h2 Wd) sm))))] H := by rw [rowP0_upd (by omega)] at hP; exact hP
                              have hD : va_D (va_M [(aO, .inr (4, [.int (nI Q), .int (nI P), .int (nI M), .int (nI Wd), .ref aOw, .ref aDg, .ref aWk, .ref aSm, .ref aFo, .ref aBk, .int (nI fo), .int (nI ba), .int (nI le), .int (nI sf), .ref aIm, .ref aKp])), (aOw, .inl (cI, 2401, .inl fOw)), (aDg, .inl (cI, 49, .inl fDg)), (aWk, .inl (cI, 49, .inl fWk)), (aSm, .inl (cI, 98, .inl sm))]) [(aO, .inr (4, [.int (nI Q), .int (nI P), .int (nI M), .int (nI Wd), .ref aOw, .ref aDg, .ref aWk, .ref aSm, .ref aFo, .ref aBk, .int (nI fo), .int (nI ba), .int (nI le), .int (nI sf), .ref aIm, .ref aKp])), (aOw, .inl (cI, 2401, .inl (lO (tN Q P) (lO (tN Q P) fOw)))), (aDg, .inl (cI, 49, .inl (lD (tN Q P) (lD (tN Q P) fDg)))), (aWk, .inl (cI, 49, .inl (lW (tN Q P) (lW (tN Q P) fWk)))), (aSm, .inl (cI, 98, .inl (rowP 0 (upd (upd u 0 (u (tN Q P))) (tN Q P) 0) (rowP 1 (adR Q P M b h2 Wd) sm))))] := by rw [rowP0_upd (by omega)] at hD; exact hD
                              refine lv_aload_n hx hb dX4_turned_190 rfl (lv_at hl 0 rfl) ?_
                              refine lv_iconst (v := 0) hx hb dX4_turned_191 (by decide) ?_
                              refine mu_V (As := [.int 0]) (rest := []) (W1 := [(aO, .inr (4, [.int (nI Q), .int (nI P), .int (nI M), .int (nI Wd), .ref aOw, .ref aDg, .ref aWk, .ref aSm, .ref aFo, .ref aBk, .int (nI fo), .int (nI ba), .int (nI le), .int (nI sf), .ref aIm, .ref aKp])), (aOw, .inl (cI, 2401, .inl (lO (tN Q P) (lO (tN Q P) fOw)))), (aDg, .inl (cI, 49, .inl (lD (tN Q P) (lD (tN Q P) fDg)))), (aWk, .inl (cI, 49, .inl (lW (tN Q P) (lW (tN Q P) fWk)))), (aSm, .inl (cI, 98, .inl (rowP 0 (rdO (cyR (tN Q P)) (dgN (tN Q P)) (tN Q P - dgN (tN Q P)) (tN Q P - 1) (upd (upd u 0 (u (tN Q P))) (tN Q P) 0)) (rowP 1 (adR Q P M b h2 Wd) sm))))]) (st1 := []) ⟨hx, hb, hml, hown, hts⟩ hT hP hD hS (k_X4_leaveOver l D cI cZ aO Q P M Wd aOw aDg aWk aSm aFo aBk fo ba le sf aIm aKp (lO (tN Q P) (lO (tN Q P) fOw)) (lD (tN Q P) (lD (tN Q P) fDg)) 0 (upd (upd u 0 (u (tN Q P))) (tN Q P) 0) (rowP 1 (adR Q P M b h2 Wd) sm) hv (by decide) (rowOk_n hn0 _ _)) gX4_turned_X4_leaveOver rfl rfl nd_X4_leaveOver [0, 1, 2, 4] (by decide) rfl rfl rfl rfl (ci := 4) rfl rfl (q0 := 0) rfl hl.1 rfl rfl (Nat.le_of_ble_eq_true rfl) ⟨Nat.le_of_ble_eq_true rfl, Nat.le_of_ble_eq_true rfl⟩ ⟨rfl, rfl⟩ ⟨Nat.zero_le _, Nat.zero_le _⟩ dX4_turned_192 (fun H locs hP hD hS => ?_)
                              have hP : va_P D cls5 [(aO, .inr (4, [.int (nI Q), .int (nI P), .int (nI M), .int (nI Wd), .ref aOw, .ref aDg, .ref aWk, .ref aSm, .ref aFo, .ref aBk, .int (nI fo), .int (nI ba), .int (nI le), .int (nI sf), .ref aIm, .ref aKp])), (aOw, .inl (cI, 2401, .inl (lO (tN Q P) (lO (tN Q P) fOw)))), (aDg, .inl (cI, 49, .inl (lD (tN Q P) (lD (tN Q P) fDg)))), (aWk, .inl (cI, 49, .inl (lW (tN Q P) (lW (tN Q P) fWk)))), (aSm, .inl (cI, 98, .inl (rowP 0 (rmx (cyR (tN Q P)) (dgN (tN Q P)) v) (rowP 1 (adR Q P M b h2 Wd) sm))))] _ := arr_eq hP 4 rfl (fun j hj => rowP_congr (fun x hx9 => by have hu : u = swL (tN Q P) v := h6.symm; rw [hu]; exact m_turn (cyc_top _ hn0 hn1) hd0 hdn hn1 hz x hx9) j) rfl
                              have hD : va_D (va_M [(aO, .inr (4, [.int (nI Q), .int (nI P), .int (nI M), .int (nI Wd), .ref aOw, .ref aDg, .ref aWk, .ref aSm, .ref aFo, .ref aBk, .int (nI fo), .int (nI ba), .int (nI le), .int (nI sf), .ref aIm, .ref aKp])), (aOw, .inl (cI, 2401, .inl fOw)), (aDg, .inl (cI, 49, .inl fDg)), (aWk, .inl (cI, 49, .inl fWk)), (aSm, .inl (cI, 98, .inl sm))]) [(aO, .inr (4, [.int (nI Q), .int (nI P), .int (nI M), .int (nI Wd), .ref aOw, .ref aDg, .ref aWk, .ref aSm, .ref aFo, .ref aBk, .int (nI fo), .int (nI ba), .int (nI le), .int (nI sf), .ref aIm, .ref aKp])), (aOw, .inl (cI, 2401, .inl (lO (tN Q P) (lO (tN Q P) fOw)))), (aDg, .inl (cI, 49, .inl (lD (tN Q P) (lD (tN Q P) fDg)))), (aWk, .inl (cI, 49, .inl (lW (tN Q P) (lW (tN Q P) fWk)))), (aSm, .inl (cI, 98, .inl (rowP 0 (rmx (cyR (tN Q P)) (dgN (tN Q P)) v) (rowP 1 (adR Q P M b h2 Wd) sm))))] := hD.set (p := 4) rfl
                              refine lv_iinc (v := nI (ee + 1)) (lv' := [(5, .int (nI (ee + 1))), (0, .ref aO), (1, .int a), (2, .int b), (3, .int (nI h2)), (4, .int (nI (tN Q P))), (6, .int bb), (7, .int (nI 0))]) hx hb dX4_turned_195 hl (k := 5) rfl ((nI_succ ee).symm) (by decide) rfl (fun ls hl => ?_)
                              refine lv_goto (tgt := 72) hx hb dX4_turned_198 (by decide) ?_
                              exact ih_72 (ee + 1) _ (by omega) (rmx_hi hd0 hz) (by rw [e1]; simp [tuL, hs]) _ _ hP hD hS ls (lv_sub hl [1, 2, 3, 4, 5, 0] rfl)
                            · exfalso; exact c_9 (by decide)
                          | succ i ih_142 =>
                            intro u h3 h6 H locs hP hD hS ls hl
                            refine lv_iload hx hb dX4_turned_142 (lv_at hl 7 rfl) ?_
                            refine lv_if_le (tgt := 169) hx hb dX4_turned_144 (by decide) (fun c_10 => ?_) (fun c_10 => ?_)
                            · exfalso; exact nI_nle (by omega) (by omega) c_10
                            · skip
                              refine lv_aload_n hx hb dX4_turned_147 rfl (lv_at hl 0 rfl) ?_
                              refine va_get (D := D) (ci := 4) (v := .ref aSm) (C := RX4) (T := TX4) (N := 16) hx hb hts hi_X4_turned_X4 hown hT.1 hP 0 rfl rfl 7 (by decide) (hts (.fieldLink RX4 32 "SlotStarModel" "sum" "[I") (List.mem_of_getElem? (i := 2) rfl)) (fun _ h9 => h9) rfl dX4_turned_148 ?_
                              refine lv_iload hx hb dX4_turned_151 (lv_at hl 7 rfl) ?_
                              refine lv_aload_n hx hb dX4_turned_153 rfl (lv_at hl 0 rfl) ?_
                              refine va_get (D := D) (ci := 4) (v := .ref aSm) (C := RX4) (T := TX4) (N := 16) hx hb hts hi_X4_turned_X4 hown hT.1 hP 0 rfl rfl 7 (by decide) (hts (.fieldLink RX4 32 "SlotStarModel" "sum" "[I") (List.mem_of_getElem? (i := 2) rfl)) (fun _ h9 => h9) rfl dX4_turned_154 ?_
                              refine lv_iload hx hb dX4_turned_157 (lv_at hl 7 rfl) ?_
                              refine lv_iconst (v := 1) hx hb dX4_turned_159 (by decide) ?_
                              refine lv_isub hx hb dX4_turned_160 ?_
                              refine top_eq (z := (nI i)) (by exact nI_pred i) ?_
                              refine ld_i hx hb hT hP 4 rfl dX4_turned_161 (k := i) rfl (by omega) (by decide) ?_
                              refine top_eq (z := (u i)) (by exact rowP0 (by omega)) ?_
                              refine st_i hx hb hT hP hD hS 4 rfl dX4_turned_162 (k := (i + 1)) (W1 := [(aO, .inr (4, [.int (nI Q), .int (nI P), .int (nI M), .int (nI Wd), .ref aOw, .ref aDg, .ref aWk, .ref aSm, .ref aFo, .ref aBk, .int (nI fo), .int (nI ba), .int (nI le), .int (nI sf), .ref aIm, .ref aKp])), (aOw, .inl (cI, 2401, .inl (lO (tN Q P) (lO (tN Q P) fOw)))), (aDg, .inl (cI, 49, .inl (lD (tN Q P) (lD (tN Q P) fDg)))), (aWk, .inl (cI, 49, .inl (lW (tN Q P) (lW (tN Q P) fWk)))), (aSm, .inl (cI, 98, .inl (upd (rowP 0 u (rowP 1 (adR Q P M b h2 Wd) sm)) (i + 1) (u i))))]) rfl (by omega) (by decide) rfl (fun H locs hP hD hS => ?_)
                              have hP : va_P D cls5 [(aO, .inr (4, [.int (nI Q), .int (nI P), .int (nI M), .int (nI Wd), .ref aOw, .ref aDg, .ref aWk, .ref aSm, .ref aFo, .ref aBk, .int (nI fo), .int (nI ba), .int (nI le), .int (nI sf), .ref aIm, .ref aKp])), (aOw, .inl (cI, 2401, .inl (lO (tN Q P) (lO (tN Q P) fOw)))), (aDg, .inl (cI, 49, .inl (lD (tN Q P) (lD (tN Q P) fDg)))), (aWk, .inl (cI, 49, .inl (lW (tN Q P) (lW (tN Q P) fWk)))), (aSm, .inl (cI, 98, .inl (rowP 0 (upd u (i + 1) (u i)) (rowP 1 (adR Q P M b h2 Wd) sm))))] H := by rw [rowP0_upd (by omega)] at hP; exact hP
                              have hD : va_D (va_M [(aO, .inr (4, [.int (nI Q), .int (nI P), .int (nI M), .int (nI Wd), .ref aOw, .ref aDg, .ref aWk, .ref aSm, .ref aFo, .ref aBk, .int (nI fo), .int (nI ba), .int (nI le), .int (nI sf), .ref aIm, .ref aKp])), (aOw, .inl (cI, 2401, .inl fOw)), (aDg, .inl (cI, 49, .inl fDg)), (aWk, .inl (cI, 49, .inl fWk)), (aSm, .inl (cI, 98, .inl sm))]) [(aO, .inr (4, [.int (nI Q), .int (nI P), .int (nI M), .int (nI Wd), .ref aOw, .ref aDg, .ref aWk, .ref aSm, .ref aFo, .ref aBk, .int (nI fo), .int (nI ba), .int (nI le), .int (nI sf), .ref aIm, .ref aKp])), (aOw, .inl (cI, 2401, .inl (lO (tN Q P) (lO (tN Q P) fOw)))), (aDg, .inl (cI, 49, .inl (lD (tN Q P) (lD (tN Q P) fDg)))), (aWk, .inl (cI, 49, .inl (lW (tN Q P) (lW (tN Q P) fWk)))), (aSm, .inl (cI, 98, .inl (rowP 0 (upd u (i + 1) (u i)) (rowP 1 (adR Q P M b h2 Wd) sm))))] := by rw [rowP0_upd (by omega)] at hD; exact hD
                              refine lv_iinc (v := nI i) (lv' := [(7, .int (nI i)), (0, .ref aO), (1, .int a), (2, .int b), (3, .int (nI h2)), (4, .int (nI (tN Q P))), (5, .int (nI ee)), (6, .int bb)]) hx hb dX4_turned_163 hl (k := 7) rfl (pk_m1 i) (by decide) rfl (fun ls hl => ?_)
                              refine lv_goto (tgt := 142) hx hb dX4_turned_166 (by decide) ?_
                              exact ih_142 _ (by omega) (by rw [h6]; rfl) _ _ hP hD hS ls (lv_sub hl [1, 2, 3, 4, 5, 6, 7, 0] rfl)
                        exact L_142 (tN Q P) v (Nat.le_refl _) rfl _ _ hP hD hS ls (lv_sub hl [1, 2, 3, 4, 5, 6, 7, 0] rfl)
                      · skip
                        have hs : ¬ smL v (adR Q P M b h2 Wd) (dgN (tN Q P)) 0 = 0 := by rw [← m_same (by omega) hz hzb, h4]; exact c_8
                        refine lv_iload hx hb dX4_turned_135 (lv_at hl 5 rfl) ?_
                        exact me_ret hx hb hr hlocks dX4_turned_137 (hP) ⟨_, _, _, _, rfl⟩ hS (by rw [e1]; simp [tuL, hs])
                    · exfalso; exact c_7 (by rw [show i = 49 by omega]; decide)
                  | succ f2 ih_85 =>
                    intro i bb h5 h4 H locs hP hD hS ls hl
                    refine lv_iload hx hb dX4_turned_85 (lv_at hl 7 rfl) ?_
                    refine lv_bipush (v := 49) hx hb dX4_turned_87 (by decide) ?_
                    refine lv_icmp_ge (tgt := 130) hx hb dX4_turned_89 (by decide) (fun c_11 => ?_) (fun c_11 => ?_)
                    · exfalso; exact nI_ge (b := 49) (show i < 49 by omega) (by decide) c_11
                    · skip
                      refine lv_iload hx hb dX4_turned_92 (lv_at hl 6 rfl) ?_
                      refine lv_if_eq (tgt := 121) hx hb dX4_turned_94 (by decide) (fun c_12 => ?_) (fun c_12 => ?_)
                      · skip
                        refine lv_iconst (v := 0) hx hb dX4_turned_121 (by decide) ?_
                        refine lv_istore (lv' := [(6, .int 0), (0, .ref aO), (1, .int a), (2, .int b), (3, .int (nI h2)), (4, .int (nI (tN Q P))), (5, .int (nI ee)), (7, .int (nI i))]) hx hb dX4_turned_122 hl (by decide) rfl (fun ls hl => ?_)
                        refine lv_iinc (v := nI (i + 1)) (lv' := [(7, .int (nI (i + 1))), (6, .int 0), (0, .ref aO), (1, .int a), (2, .int b), (3, .int (nI h2)), (4, .int (nI (tN Q P))), (5, .int (nI ee))]) hx hb dX4_turned_124 hl (k := 7) rfl ((nI_succ i).symm) (by decide) rfl (fun ls hl => ?_)
                        refine lv_goto (tgt := 85) hx hb dX4_turned_127 (by decide) ?_
                        exact ih_85 (i + 1) 0 (by omega) (by rw [h4]; simp [cmL, c_1, c_2, c_3, c_4, c_6, c_11, eq_true c_12]) _ _ hP hD hS ls (lv_sub hl [2, 3, 4, 5, 6, 7, 1, 0] rfl)
                      · skip
                        refine lv_aload_n hx hb dX4_turned_97 rfl (lv_at hl 0 rfl) ?_
                        refine va_get (D := D) (ci := 4) (v := .ref aSm) (C := RX4) (T := TX4) (N := 16) hx hb hts hi_X4_turned_X4 hown hT.1 hP 0 rfl rfl 7 (by decide) (hts (.fieldLink RX4 32 "SlotStarModel" "sum" "[I") (List.mem_of_getElem? (i := 2) rfl)) (fun _ h9 => h9) rfl dX4_turned_98 ?_
                        refine lv_iload hx hb dX4_turned_101 (lv_at hl 7 rfl) ?_
                        refine ld_i hx hb hT hP 4 rfl dX4_turned_103 (k := i) rfl (by omega) (by decide) ?_
                        refine top_eq (z := (v i)) (by exact rowP0 (by omega)) ?_
                        refine lv_aload_n hx hb dX4_turned_104 rfl (lv_at hl 0 rfl) ?_
                        refine va_get (D := D) (ci := 4) (v := .ref aSm) (C := RX4) (T := TX4) (N := 16) hx hb hts hi_X4_turned_X4 hown hT.1 hP 0 rfl rfl 7 (by decide) (hts (.fieldLink RX4 32 "SlotStarModel" "sum" "[I") (List.mem_of_getElem? (i := 2) rfl)) (fun _ h9 => h9) rfl dX4_turned_105 ?_
                        refine lv_bipush (v := 49) hx hb dX4_turned_108 (by decide) ?_
                        refine lv_iload hx hb dX4_turned_110 (lv_at hl 7 rfl) ?_
                        refine lv_iadd hx hb dX4_turned_112 ?_
                        refine top_eq (z := (nI (49 * 1 + i))) (by exact nI_add 49 i) ?_
                        refine ld_i hx hb hT hP 4 rfl dX4_turned_113 (k := (49 * 1 + i)) rfl (by omega) (by decide) ?_
                        refine top_eq (z := ((adR Q P M b h2 Wd) i)) (by exact rowP01 (by omega)) ?_
                        refine lv_icmp_ne (tgt := 121) hx hb dX4_turned_114 (by decide) (fun c_13 => ?_) (fun c_13 => ?_)
                        · skip
                          refine lv_iconst (v := 0) hx hb dX4_turned_121 (by decide) ?_
                          refine lv_istore (lv' := [(6, .int 0), (0, .ref aO), (1, .int a), (2, .int b), (3, .int (nI h2)), (4, .int (nI (tN Q P))), (5, .int (nI ee)), (7, .int (nI i))]) hx hb dX4_turned_122 hl (by decide) rfl (fun ls hl => ?_)
                          refine lv_iinc (v := nI (i + 1)) (lv' := [(7, .int (nI (i + 1))), (6, .int 0), (0, .ref aO), (1, .int a), (2, .int b), (3, .int (nI h2)), (4, .int (nI (tN Q P))), (5, .int (nI ee))]) hx hb dX4_turned_124 hl (k := 7) rfl ((nI_succ i).symm) (by decide) rfl (fun ls hl => ?_)
                          refine lv_goto (tgt := 85) hx hb dX4_turned_127 (by decide) ?_
                          exact ih_85 (i + 1) 0 (by omega) (by rw [h4]; simp [cmL, c_1, c_2, c_3, c_4, c_6, c_11, c_12, c_13]) _ _ hP hD hS ls (lv_sub hl [2, 3, 4, 5, 6, 7, 1, 0] rfl)
                        · skip
                          refine lv_iconst (v := 1) hx hb dX4_turned_117 (by decide) ?_
                          refine lv_goto (tgt := 122) hx hb dX4_turned_118 (by decide) ?_
                          refine lv_istore (lv' := [(6, .int 1), (0, .ref aO), (1, .int a), (2, .int b), (3, .int (nI h2)), (4, .int (nI (tN Q P))), (5, .int (nI ee)), (7, .int (nI i))]) hx hb dX4_turned_122 hl (by decide) rfl (fun ls hl => ?_)
                          refine lv_iinc (v := nI (i + 1)) (lv' := [(7, .int (nI (i + 1))), (6, .int 1), (0, .ref aO), (1, .int a), (2, .int b), (3, .int (nI h2)), (4, .int (nI (tN Q P))), (5, .int (nI ee))]) hx hb dX4_turned_124 hl (k := 7) rfl ((nI_succ i).symm) (by decide) rfl (fun ls hl => ?_)
                          refine lv_goto (tgt := 85) hx hb dX4_turned_127 (by decide) ?_
                          exact ih_85 (i + 1) 1 (by omega) (by rw [h4]; simp [cmL, c_1, c_2, c_3, c_4, c_6, c_11, c_12, eq_true c_13]) _ _ hP hD hS ls (lv_sub hl [2, 3, 4, 5, 6, 7, 1, 0] rfl)
                exact L_85 49 0 1 rfl rfl _ _ hP hD hS ls (lv_sub hl [2, 3, 4, 5, 6, 7, 1, 0] rfl)
          exact L_72 (tN Q P) 0 _ (by omega) (fun x h8 _ => adR_hi hv a h2 Wd h8) (by simp [sTur, c_1, c_2, c_3, c_4, hch]) _ _ hP hD hS ls (lv_sub hl [2, 3, 4, 5, 1, 0] rfl)
        · skip
          refine lv_bipush (v := (-3)) hx hb dX4_turned_38 (by decide) ?_
          exact me_ret hx hb hr hlocks dX4_turned_40 (hP) ⟨_, _, _, _, rfl⟩ hS (by simp [sTur, c_1, c_2, c_3, eq_true c_4])
      · skip
        refine lv_bipush (v := (-2)) hx hb dX4_turned_28 (by decide) ?_
        exact me_ret hx hb hr hlocks dX4_turned_30 (hP) ⟨_, _, _, _, rfl⟩ hS (by simp [sTur, c_1, c_2, eq_true c_3])
    · skip
      refine lv_iconst (v := (-1)) hx hb dX4_turned_16 (by decide) ?_
      exact me_ret hx hb hr hlocks dX4_turned_17 (hP) ⟨_, _, _, _, rfl⟩ hS (by simp [sTur, c_1, eq_true c_2])
