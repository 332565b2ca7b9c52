set_option maxRecDepth 20000 in
theorem hi_X4_own_X4 : ∀ w ∈ wsX40, w ∈ wsX4_own := by
  intro w h
  unfold wsX4_own
  simp only [List.mem_cons, List.mem_append, h, or_true, true_or]
theorem nd_X4_own : okName yX4_own 1 := by decide +kernel
set_option maxHeartbeats 4000000 in
set_option maxRecDepth 100000 in
theorem k_X4_own (l : Launch) (D : va_G) (cI cZ : ClassId) (aO : Nat) (Q : Nat) (P : Nat) (M : Nat) (Wd : Nat) (aOw : Nat) (aDg : Nat) (aWk : Nat) (aSm : Nat) (aFo : Nat) (aBk : Nat) (fo : Nat) (ba : Nat) (le : Nat) (sf : Nat) (aIm : Nat) (aKp : Nat) (fOw : Nat → Int32) (fDg : Nat → Int32) (fWk : Nat → Int32) (i : Int32) (hv : MV Q P M Wd) : ME l yX4_own wsX4_own ({ frames := 4, cells := 0, slots := 0, locals := 86 } : Room) D cI cZ [(aO, .inr (4, [.int (nI Q), .int (nI P), .int (nI M), .int (nI Wd), .ref aOw, .ref aDg, .ref aWk, .ref aSm, .ref aFo, .ref aBk, .int (nI fo), .int (nI ba), .int (nI le), .int (nI sf), .ref aIm, .ref aKp])), (aOw, .inl (cI, 2401, .inl fOw)), (aDg, .inl (cI, 49, .inl fDg)), (aWk, .inl (cI, 49, .inl fWk))] [.ref aO, .int i] (some (.int (sOwn (tN Q P) i))) (fun z => ∃ (fOw' : Nat → Int32) (fDg' : Nat → Int32) (fWk' : Nat → Int32), z = [(aO, .inr (4, [.int (nI Q), .int (nI P), .int (nI M), .int (nI Wd), .ref aOw, .ref aDg, .ref aWk, .ref aSm, .ref aFo, .ref aBk, .int (nI fo), .int (nI ba), .int (nI le), .int (nI sf), .ref aIm, .ref aKp])), (aOw, .inl (cI, 2401, .inl fOw')), (aDg, .inl (cI, 49, .inl fDg')), (aWk, .inl (cI, 49, .inl fWk'))]) := by
  refine me_start (by decide) rfl (Nat.le_of_ble_eq_true rfl) ?_
  intro p e s m args below meth c hx hb hr hml hlocks hts hown hT hP hD hS ls hl
  have hown : s.vm.findClass RX4 = some m.cls := hown
  have hl : lv_has ls 3 [(0, .ref aO), (1, .int i)] := hl
  have hv' := hv
  unfold MV at hv'
  have hd0 := dg_pos (tN Q P) (tN_pos hv) (tN_le hv)
  have hd1 := dg_le (tN Q P)
  have hn0 := tN_pos hv
  have hn1 := tN_le hv
  refine lv_aload_n hx hb dX4_own_0 rfl (lv_at hl 0 rfl) ?_
  refine mu_V (As := []) (rest := []) (W1 := [(aO, .inr (4, [.int (nI Q), .int (nI P), .int (nI M), .int (nI Wd), .ref aOw, .ref aDg, .ref aWk, .ref aSm, .ref aFo, .ref aBk, .int (nI fo), .int (nI ba), .int (nI le), .int (nI sf), .ref aIm, .ref aKp])), (aOw, .inl (cI, 2401, .inl (lO (tN Q P) fOw))), (aDg, .inl (cI, 49, .inl (lD (tN Q P) fDg))), (aWk, .inl (cI, 49, .inl (lW (tN Q P) fWk)))]) (st1 := []) ⟨hx, hb, hml, hown, hts⟩ hT hP hD hS (k_X4_layOwn l D cI cZ aO Q P M Wd aOw aDg aWk aSm aFo aBk fo ba le sf aIm aKp fOw fDg fWk hv) gX4_own_X4_layOwn rfl rfl nd_X4_layOwn [0, 1, 2, 3] (by decide) rfl rfl rfl rfl (ci := 4) rfl rfl (q0 := 0) rfl hl.1 rfl rfl (Nat.le_of_ble_eq_true rfl) ⟨Nat.le_of_ble_eq_true rfl, Nat.le_of_ble_eq_true rfl⟩ ⟨rfl, rfl⟩ ⟨Nat.zero_le _, Nat.zero_le _⟩ dX4_own_1 (fun H locs hP hD hS => ?_)
  refine lv_aload_n hx hb dX4_own_4 rfl (lv_at hl 0 rfl) ?_
  refine ro_V (As := []) (rest := []) ⟨hx, hb, hml, hown, hts⟩ hT hP (k_X4_star l D cI cZ aO Q P M Wd aOw aDg aWk aSm aFo aBk fo ba le sf aIm aKp hv) gX4_own_X4_star rfl rfl nd_X4_star [0] rfl (ci := 4) rfl rfl (q0 := 0) rfl hl.1 rfl rfl (Nat.le_of_ble_eq_true rfl) ⟨Nat.le_of_ble_eq_true rfl, Nat.le_of_ble_eq_true rfl⟩ ⟨rfl, rfl⟩ ⟨Nat.zero_le _, Nat.zero_le _⟩ dX4_own_5 ?_
  refine lv_istore_n (lv' := [(2, .int (nI (tN Q P))), (0, .ref aO), (1, .int i)]) hx hb dX4_own_8 rfl hl (by decide) rfl (fun ls hl => ?_)
  refine lv_iload_n hx hb dX4_own_9 rfl (lv_at hl 2 rfl) ?_
  refine lv_iconst (v := (-1)) hx hb dX4_own_10 (by decide) ?_
  refine lv_icmp_ne (tgt := 23) hx hb dX4_own_11 (by decide) (fun c_1 => ?_) (fun c_1 => ?_)
  · skip
    refine lv_iload_n hx hb dX4_own_23 rfl (lv_at hl 2 rfl) ?_
    refine lv_iconst (v := 0) hx hb dX4_own_24 (by decide) ?_
    refine lv_aload_n hx hb dX4_own_25 rfl (lv_at hl 1 rfl) ?_
    refine va_get (D := D) (ci := 4) (v := .ref aDg) (C := RX4) (T := TX4) (N := 16) hx hb hts hi_X4_own_X4 hown hT.1 hP 0 rfl rfl 5 (by decide) (hts (.fieldLink RX4 26 "SlotStarModel" "degree" "[I") (List.mem_of_getElem? (i := 1) rfl)) (fun _ h9 => h9) rfl dX4_own_26 ?_
    refine lv_iload_n hx hb dX4_own_29 rfl (lv_at hl 0 rfl) ?_
    refine ld_i hx hb hT hP 2 rfl dX4_own_30 (k := (tN Q P)) rfl (by omega) (by decide) ?_
    refine top_eq (z := (nI (dgN (tN Q P)))) (by exact (rowOk_n hn0 fOw fDg).1) ?_
    refine ro_S (As := [.int i, .int 0, .int (nI (dgN (tN Q P)))]) (rest := []) ⟨hx, hb, hml, hown, hts⟩ hT hP (k_X4_in l D cI cZ i 0 (nI (dgN (tN Q P)))) gX4_own_X4_in rfl nd_X4_in [] rfl hl.1 rfl rfl (Nat.le_of_ble_eq_true rfl) ⟨Nat.le_of_ble_eq_true rfl, Nat.le_of_ble_eq_true rfl⟩ ⟨rfl, rfl⟩ ⟨Nat.zero_le _, Nat.zero_le _⟩ dX4_own_31 ?_
    refine lv_if_eq (tgt := 51) hx hb dX4_own_34 (by decide) (fun c_2 => ?_) (fun c_2 => ?_)
    · skip
      refine lv_bipush (v := (-6)) hx hb dX4_own_51 (by decide) ?_
      exact me_ret hx hb hr hlocks dX4_own_53 (hP) ⟨_, _, _, rfl⟩ hS (by first | simp [sOwn, c_1, eq_true c_2, hcl] | simp [sOwn, c_1, eq_true c_2])
    · skip
      obtain ⟨i2, hi2, rfl⟩ := jIn_nat 0 (dgN (tN Q P)) (by omega) c_2
      have hcl : cl (nI i2) = i2 := cl_nI (by omega)
      refine lv_aload_n hx hb dX4_own_37 rfl (lv_at hl 1 rfl) ?_
      refine va_get (D := D) (ci := 4) (v := .ref aOw) (C := RX4) (T := TX4) (N := 16) hx hb hts hi_X4_own_X4 hown hT.1 hP 0 rfl rfl 4 (by decide) (hts (.fieldLink RX4 22 "SlotStarModel" "own" "[I") (List.mem_of_getElem? (i := 2) rfl)) (fun _ h9 => h9) rfl dX4_own_38 ?_
      refine lv_bipush (v := 49) hx hb dX4_own_41 (by decide) ?_
      refine lv_iload_n hx hb dX4_own_43 rfl (lv_at hl 0 rfl) ?_
      refine lv_imul hx hb dX4_own_44 ?_
      refine top_eq (z := (nI (49 * tN Q P))) (by exact pk_mul 49 _) ?_
      refine lv_iload_n hx hb dX4_own_45 rfl (lv_at hl 2 rfl) ?_
      refine lv_iadd hx hb dX4_own_46 ?_
      refine top_eq (z := (nI (49 * tN Q P + i2))) (by exact nI_add _ _) ?_
      refine ld_i hx hb hT hP 1 rfl dX4_own_47 (k := (49 * tN Q P + i2)) rfl (by omega) (by decide) ?_
      refine top_eq (z := (cyR (tN Q P) i2)) (by exact (rowOk_n hn0 fOw fDg).2 i2 (by omega)) ?_
      refine lv_goto (tgt := 53) hx hb dX4_own_48 (by decide) ?_
      exact me_ret hx hb hr hlocks dX4_own_53 (hP) ⟨_, _, _, rfl⟩ hS (by first | simp [sOwn, c_1, c_2, hcl] | simp [sOwn, c_1, c_2])
  · skip
    refine lv_aload_n hx hb dX4_own_14 rfl (lv_at hl 1 rfl) ?_
    refine va_get (D := D) (ci := 4) (v := .ref aDg) (C := RX4) (T := TX4) (N := 16) hx hb hts hi_X4_own_X4 hown hT.1 hP 0 rfl rfl 5 (by decide) (hts (.fieldLink RX4 26 "SlotStarModel" "degree" "[I") (List.mem_of_getElem? (i := 1) rfl)) (fun _ h9 => h9) rfl dX4_own_15 ?_
    refine lv_iload_n hx hb dX4_own_18 rfl (lv_at hl 0 rfl) ?_
    refine ld_i hx hb hT hP 2 rfl dX4_own_19 (k := (tN Q P)) rfl (by omega) (by decide) ?_
    refine top_eq (z := (nI (dgN (tN Q P)))) (by exact (rowOk_n hn0 fOw fDg).1) ?_
    refine lv_goto (tgt := 53) hx hb dX4_own_20 (by decide) ?_
    exact me_ret hx hb hr hlocks dX4_own_53 (hP) ⟨_, _, _, rfl⟩ hS (by first | simp [sOwn, eq_true c_1, hcl] | simp [sOwn, eq_true c_1])

set_option maxRecDepth 20000 in
theorem hi_X4_isNone_X4 : ∀ w ∈ wsX40, w ∈ wsX4_isNone := by
  intro w h
  unfold wsX4_isNone
  simp only [List.mem_cons, List.mem_append, h, or_true, true_or]
theorem nd_X4_isNone : okName yX4_isNone 2 := by decide +kernel
set_option maxHeartbeats 4000000 in
set_option maxRecDepth 100000 in
theorem k_X4_isNone (l : Launch) (D : va_G) (cI cZ : ClassId) (aO : Nat) (Q : Nat) (P : Nat) (M : Nat) (Wd : Nat) (aOw : Nat) (aDg : Nat) (aWk : Nat) (aSm : Nat) (aFo : Nat) (aBk : Nat) (fo : Nat) (ba : Nat) (le : Nat) (sf : Nat) (aIm : Nat) (aKp : Nat) (fOw : Nat → Int32) (fDg : Nat → Int32) (fWk : Nat → Int32) (sm : Nat → Int32) (h : Nat) (w : Nat) (hv : MV Q P M Wd) (hh : h < 1000) (hw : w < 1000) : MU l yX4_isNone wsX4_isNone ({ frames := 6, cells := 0, slots := 0, locals := 135 } : Room) D cI cZ [(aO, .inr (4, [.int (nI Q), .int (nI P), .int (nI M), .int (nI Wd), .ref aOw, .ref aDg, .ref aWk, .ref aSm, .ref aFo, .ref aBk, .int (nI fo), .int (nI ba), .int (nI le), .int (nI sf), .ref aIm, .ref aKp])), (aOw, .inl (cI, 2401, .inl fOw)), (aDg, .inl (cI, 49, .inl fDg)), (aWk, .inl (cI, 49, .inl fWk)), (aSm, .inl (cI, 98, .inl sm))] [.ref aO, .int (nI h), .int (nI w)] (some (.int (nth Q P M h w))) [(aO, .inr (4, [.int (nI Q), .int (nI P), .int (nI M), .int (nI Wd), .ref aOw, .ref aDg, .ref aWk, .ref aSm, .ref aFo, .ref aBk, .int (nI fo), .int (nI ba), .int (nI le), .int (nI sf), .ref aIm, .ref aKp])), (aOw, .inl (cI, 2401, .inl (lO (tN Q P) fOw))), (aDg, .inl (cI, 49, .inl (lD (tN Q P) fDg))), (aWk, .inl (cI, 49, .inl (lW (tN Q P) fWk))), (aSm, .inl (cI, 98, .inl (rowP 0 (adR Q P M 0 h w) sm)))] := by
  refine mu_start (by decide) rfl (Nat.le_of_ble_eq_true rfl) ?_
  intro p e s m args below meth c hx hb hr hml hlocks hts hown hT hP hD hS ls hl
  have hown : s.vm.findClass RX4 = some m.cls := hown
  have hl : lv_has ls 5 [(0, .ref aO), (1, .int (nI h)), (2, .int (nI w))] := hl
  refine lv_aload_n hx hb dX4_isNone_0 rfl (lv_at hl 0 rfl) ?_
  refine lv_iconst (v := 0) hx hb dX4_isNone_1 (by decide) ?_
  refine lv_iconst (v := 0) hx hb dX4_isNone_2 (by decide) ?_
  refine lv_iload_n hx hb dX4_isNone_3 rfl (lv_at hl 1 rfl) ?_
  refine lv_iload_n hx hb dX4_isNone_4 rfl (lv_at hl 2 rfl) ?_
  refine mu_V (As := [.int 0, .int 0, .int (nI h), .int (nI w)]) (rest := []) (W1 := [(aO, .inr (4, [.int (nI Q), .int (nI P), .int (nI M), .int (nI Wd), .ref aOw, .ref aDg, .ref aWk, .ref aSm, .ref aFo, .ref aBk, .int (nI fo), .int (nI ba), .int (nI le), .int (nI sf), .ref aIm, .ref aKp])), (aOw, .inl (cI, 2401, .inl (lO (tN Q P) fOw))), (aDg, .inl (cI, 49, .inl (lD (tN Q P) fDg))), (aWk, .inl (cI, 49, .inl (lW (tN Q P) fWk))), (aSm, .inl (cI, 98, .inl (rowP 0 (adR Q P M 0 h w) sm)))]) (st1 := []) ⟨hx, hb, hml, hown, hts⟩ hT hP hD hS (k_X4_laySum l D cI cZ aO Q P M Wd aOw aDg aWk aSm aFo aBk fo ba le sf aIm aKp fOw fDg fWk sm 0 0 h w hv (by decide) (by omega) (by omega)) gX4_isNone_X4_laySum rfl rfl nd_X4_laySum [0, 1, 2, 3, 4] (by decide) rfl rfl rfl rfl (ci := 4) rfl rfl (q0 := 0) rfl hl.1 rfl rfl (Nat.le_of_ble_eq_true rfl) ⟨Nat.le_of_ble_eq_true rfl, Nat.le_of_ble_eq_true rfl⟩ ⟨rfl, rfl⟩ ⟨Nat.zero_le _, Nat.zero_le _⟩ dX4_isNone_5 (fun H locs hP hD hS => ?_)
  refine lv_iconst (v := 1) hx hb dX4_isNone_8 (by decide) ?_
  refine lv_istore_n (lv' := [(3, .int 1), (0, .ref aO), (1, .int (nI h)), (2, .int (nI w))]) hx hb dX4_isNone_9 rfl hl (by decide) rfl (fun ls hl => ?_)
  refine lv_iconst (v := 0) hx hb dX4_isNone_10 (by decide) ?_
  refine lv_istore (lv' := [(4, .int 0), (3, .int 1), (0, .ref aO), (1, .int (nI h)), (2, .int (nI w))]) hx hb dX4_isNone_11 hl (by decide) rfl (fun ls hl => ?_)
  have L_13 : ∀ (f : Nat) (i : Nat) (b : Int32), i + f = 49 → nnL (adR Q P M 0 h w) 49 0 1 = nnL (adR Q P M 0 h w) f i b → ∀ (H : Heap) (locs : List Loc), va_P D cls5 [(aO, .inr (4, [.int (nI Q), .int (nI P), .int (nI M), .int (nI Wd), .ref aOw, .ref aDg, .ref aWk, .ref aSm, .ref aFo, .ref aBk, .int (nI fo), .int (nI ba), .int (nI le), .int (nI sf), .ref aIm, .ref aKp])), (aOw, .inl (cI, 2401, .inl (lO (tN Q P) fOw))), (aDg, .inl (cI, 49, .inl (lD (tN Q P) fDg))), (aWk, .inl (cI, 49, .inl (lW (tN Q P) fWk))), (aSm, .inl (cI, 98, .inl (rowP 0 (adR Q P M 0 h w) sm)))] H → va_D (va_M [(aO, .inr (4, [.int (nI Q), .int (nI P), .int (nI M), .int (nI Wd), .ref aOw, .ref aDg, .ref aWk, .ref aSm, .ref aFo, .ref aBk, .int (nI fo), .int (nI ba), .int (nI le), .int (nI sf), .ref aIm, .ref aKp])), (aOw, .inl (cI, 2401, .inl fOw)), (aDg, .inl (cI, 49, .inl fDg)), (aWk, .inl (cI, 49, .inl fWk)), (aSm, .inl (cI, 98, .inl sm))]) [(aO, .inr (4, [.int (nI Q), .int (nI P), .int (nI M), .int (nI Wd), .ref aOw, .ref aDg, .ref aWk, .ref aSm, .ref aFo, .ref aBk, .int (nI fo), .int (nI ba), .int (nI le), .int (nI sf), .ref aIm, .ref aKp])), (aOw, .inl (cI, 2401, .inl (lO (tN Q P) fOw))), (aDg, .inl (cI, 49, .inl (lD (tN Q P) fDg))), (aWk, .inl (cI, 49, .inl (lW (tN Q P) fWk))), (aSm, .inl (cI, 98, .inl (rowP 0 (adR Q P M 0 h w) sm)))] → va_S (va_M [(aO, .inr (4, [.int (nI Q), .int (nI P), .int (nI M), .int (nI Wd), .ref aOw, .ref aDg, .ref aWk, .ref aSm, .ref aFo, .ref aBk, .int (nI fo), .int (nI ba), .int (nI le), .int (nI sf), .ref aIm, .ref aKp])), (aOw, .inl (cI, 2401, .inl fOw)), (aDg, .inl (cI, 49, .inl fDg)), (aWk, .inl (cI, 49, .inl fWk)), (aSm, .inl (cI, 98, .inl sm))]) s.heap H locs → ∀ ls : Array Slot, lv_has ls 5 [(0, .ref aO), (1, .int (nI h)), (2, .int (nI w)), (3, .int b), (4, .int (nI i))] → W p l e (headSpec wsX4_isNone ({ frames := 6, cells := 0, slots := 0, locals := 135 } : Room)).room s m args below meth c H locs 0 0 (MQ below (QcM D [(aO, .inr (4, [.int (nI Q), .int (nI P), .int (nI M), .int (nI Wd), .ref aOw, .ref aDg, .ref aWk, .ref aSm, .ref aFo, .ref aBk, .int (nI fo), .int (nI ba), .int (nI le), .int (nI sf), .ref aIm, .ref aKp])), (aOw, .inl (cI, 2401, .inl fOw)), (aDg, .inl (cI, 49, .inl fDg)), (aWk, .inl (cI, 49, .inl fWk)), (aSm, .inl (cI, 98, .inl sm))] [(aO, .inr (4, [.int (nI Q), .int (nI P), .int (nI M), .int (nI Wd), .ref aOw, .ref aDg, .ref aWk, .ref aSm, .ref aFo, .ref aBk, .int (nI fo), .int (nI ba), .int (nI le), .int (nI sf), .ref aIm, .ref aKp])), (aOw, .inl (cI, 2401, .inl (lO (tN Q P) fOw))), (aDg, .inl (cI, 49, .inl (lD (tN Q P) fDg))), (aWk, .inl (cI, 49, .inl (lW (tN Q P) fWk))), (aSm, .inl (cI, 98, .inl (rowP 0 (adR Q P M 0 h w) sm)))] (some (.int (nth Q P M h w)))) args s 0 0 (va_M [(aO, .inr (4, [.int (nI Q), .int (nI P), .int (nI M), .int (nI Wd), .ref aOw, .ref aDg, .ref aWk, .ref aSm, .ref aFo, .ref aBk, .int (nI fo), .int (nI ba), .int (nI le), .int (nI sf), .ref aIm, .ref aKp])), (aOw, .inl (cI, 2401, .inl fOw)), (aDg, .inl (cI, 49, .inl fDg)), (aWk, .inl (cI, 49, .inl fWk)), (aSm, .inl (cI, 98, .inl sm))])) (F0 m 13 ls []) := by
    intro f
    induction f with
    | zero =>
      intro i b h1 h2 H locs hP hD hS ls hl
      refine lv_iload hx hb dX4_isNone_13 (lv_at hl 4 rfl) ?_
      refine lv_bipush (v := 49) hx hb dX4_isNone_15 (by decide) ?_
      refine lv_icmp_ge (tgt := 46) hx hb dX4_isNone_17 (by decide) (fun c_1 => ?_) (fun c_1 => ?_)
      · skip
        refine lv_iload_n hx hb dX4_isNone_46 rfl (lv_at hl 3 rfl) ?_
        exact mu_retz hx hb hr hlocks dX4_isNone_47 (hP) hS (by rw [← m_none hv h w, h2]; rfl) (by exact nth01 _ _ _ _ _)
      · exfalso; exact c_1 (by rw [show i = 49 by omega]; decide)
    | succ f ih_13 =>
      intro i b h1 h2 H locs hP hD hS ls hl
      refine lv_iload hx hb dX4_isNone_13 (lv_at hl 4 rfl) ?_
      refine lv_bipush (v := 49) hx hb dX4_isNone_15 (by decide) ?_
      refine lv_icmp_ge (tgt := 46) hx hb dX4_isNone_17 (by decide) (fun c_2 => ?_) (fun c_2 => ?_)
      · exfalso; exact nI_ge (b := 49) (show i < 49 by omega) (by decide) c_2
      · skip
        refine lv_iload_n hx hb dX4_isNone_20 rfl (lv_at hl 3 rfl) ?_
        refine lv_if_eq (tgt := 38) hx hb dX4_isNone_21 (by decide) (fun c_3 => ?_) (fun c_3 => ?_)
        · skip
          refine lv_iconst (v := 0) hx hb dX4_isNone_38 (by decide) ?_
          refine lv_istore_n (lv' := [(3, .int 0), (0, .ref aO), (1, .int (nI h)), (2, .int (nI w)), (4, .int (nI i))]) hx hb dX4_isNone_39 rfl hl (by decide) rfl (fun ls hl => ?_)
          refine lv_iinc (v := nI (i + 1)) (lv' := [(4, .int (nI (i + 1))), (3, .int 0), (0, .ref aO), (1, .int (nI h)), (2, .int (nI w))]) hx hb dX4_isNone_40 hl (k := 4) rfl ((nI_succ i).symm) (by decide) rfl (fun ls hl => ?_)
          refine lv_goto (tgt := 13) hx hb dX4_isNone_43 (by decide) ?_
          exact ih_13 (i + 1) 0 (by omega) (by rw [h2]; simp [nnL, c_2, eq_true c_3]) _ _ hP hD hS ls (lv_sub hl [2, 3, 4, 1, 0] rfl)
        · skip
          refine lv_aload_n hx hb dX4_isNone_24 rfl (lv_at hl 0 rfl) ?_
          refine va_get (D := D) (ci := 4) (v := .ref aSm) (C := RX4) (T := TX4) (N := 16) hx hb hts hi_X4_isNone_X4 hown hT.1 hP 0 rfl rfl 7 (by decide) (hts (.fieldLink RX4 32 "SlotStarModel" "sum" "[I") (List.mem_of_getElem? (i := 1) rfl)) (fun _ h9 => h9) rfl dX4_isNone_25 ?_
          refine lv_iload hx hb dX4_isNone_28 (lv_at hl 4 rfl) ?_
          refine ld_i hx hb hT hP 4 rfl dX4_isNone_30 (k := i) rfl (by omega) (by decide) ?_
          refine top_eq (z := (adR Q P M 0 h w i)) (by exact rowP0 (by omega)) ?_
          refine lv_if_ne (tgt := 38) hx hb dX4_isNone_31 (by decide) (fun c_4 => ?_) (fun c_4 => ?_)
          · skip
            refine lv_iconst (v := 0) hx hb dX4_isNone_38 (by decide) ?_
            refine lv_istore_n (lv' := [(3, .int 0), (0, .ref aO), (1, .int (nI h)), (2, .int (nI w)), (4, .int (nI i))]) hx hb dX4_isNone_39 rfl hl (by decide) rfl (fun ls hl => ?_)
            refine lv_iinc (v := nI (i + 1)) (lv' := [(4, .int (nI (i + 1))), (3, .int 0), (0, .ref aO), (1, .int (nI h)), (2, .int (nI w))]) hx hb dX4_isNone_40 hl (k := 4) rfl ((nI_succ i).symm) (by decide) rfl (fun ls hl => ?_)
            refine lv_goto (tgt := 13) hx hb dX4_isNone_43 (by decide) ?_
            exact ih_13 (i + 1) 0 (by omega) (by rw [h2]; simp [nnL, c_2, c_3, c_4]) _ _ hP hD hS ls (lv_sub hl [2, 3, 4, 1, 0] rfl)
          · skip
            refine lv_iconst (v := 1) hx hb dX4_isNone_34 (by decide) ?_
            refine lv_goto (tgt := 39) hx hb dX4_isNone_35 (by decide) ?_
            refine lv_istore_n (lv' := [(3, .int 1), (0, .ref aO), (1, .int (nI h)), (2, .int (nI w)), (4, .int (nI i))]) hx hb dX4_isNone_39 rfl hl (by decide) rfl (fun ls hl => ?_)
            refine lv_iinc (v := nI (i + 1)) (lv' := [(4, .int (nI (i + 1))), (3, .int 1), (0, .ref aO), (1, .int (nI h)), (2, .int (nI w))]) hx hb dX4_isNone_40 hl (k := 4) rfl ((nI_succ i).symm) (by decide) rfl (fun ls hl => ?_)
            refine lv_goto (tgt := 13) hx hb dX4_isNone_43 (by decide) ?_
            exact ih_13 (i + 1) 1 (by omega) (by rw [h2]; simp [nnL, c_2, c_3, eq_true c_4]) _ _ hP hD hS ls (lv_sub hl [2, 3, 4, 1, 0] rfl)
  exact L_13 49 0 1 rfl rfl _ _ hP hD hS ls (lv_sub hl [2, 3, 4, 1, 0] rfl)

set_option maxRecDepth 20000 in
theorem hi_X4_vanishes_X4 : ∀ w ∈ wsX40, w ∈ wsX4_vanishes := by
  intro w h
  unfold wsX4_vanishes
  simp only [List.mem_cons, List.mem_append, h, or_true, true_or]
theorem nd_X4_vanishes : okName yX4_vanishes 1 := by decide +kernel
set_option maxHeartbeats 4000000 in
set_option maxRecDepth 100000 in
theorem k_X4_vanishes (l : Launch) (D : va_G) (cI cZ : ClassId) (aO : Nat) (Q : Nat) (P : Nat) (M : Nat) (Wd : Nat) (aOw : Nat) (aDg : Nat) (aWk : Nat) (aSm : Nat) (aFo : Nat) (aBk : Nat) (fo : Nat) (ba : Nat) (le : Nat) (sf : Nat) (aIm : Nat) (aKp : Nat) (fOw : Nat → Int32) (fDg : Nat → Int32) (fWk : Nat → Int32) (sm : Nat → Int32) (h : Int32) (hv : MV Q P M Wd) : ME l yX4_vanishes wsX4_vanishes ({ frames := 7, cells := 0, slots := 0, locals := 159 } : Room) D cI cZ [(aO, .inr (4, [.int (nI Q), .int (nI P), .int (nI M), .int (nI Wd), .ref aOw, .ref aDg, .ref aWk, .ref aSm, .ref aFo, .ref aBk, .int (nI fo), .int (nI ba), .int (nI le), .int (nI sf), .ref aIm, .ref aKp])), (aOw, .inl (cI, 2401, .inl fOw)), (aDg, .inl (cI, 49, .inl fDg)), (aWk, .inl (cI, 49, .inl fWk)), (aSm, .inl (cI, 98, .inl sm))] [.ref aO, .int h] (some (.int (sVan Q P M Wd h))) (fun z => ∃ (fOw' : Nat → Int32) (fDg' : Nat → Int32) (fWk' : Nat → Int32) (sm' : Nat → Int32), z = [(aO, .inr (4, [.int (nI Q), .int (nI P), .int (nI M), .int (nI Wd), .ref aOw, .ref aDg, .ref aWk, .ref aSm, .ref aFo, .ref aBk, .int (nI fo), .int (nI ba), .int (nI le), .int (nI sf), .ref aIm, .ref aKp])), (aOw, .inl (cI, 2401, .inl fOw')), (aDg, .inl (cI, 49, .inl fDg')), (aWk, .inl (cI, 49, .inl fWk')), (aSm, .inl (cI, 98, .inl sm'))]) := by
  refine me_start (by decide) rfl (Nat.le_of_ble_eq_true rfl) ?_
  intro p e s m args below meth c hx hb hr hml hlocks hts hown hT hP hD hS ls hl
  have hown : s.vm.findClass RX4 = some m.cls := hown
  have hl : lv_has ls 2 [(0, .ref aO), (1, .int h)] := hl
  have hv' := hv
  unfold MV at hv'
  refine lv_iload_n hx hb dX4_vanishes_0 rfl (lv_at hl 1 rfl) ?_
  refine lv_iconst (v := 1) hx hb dX4_vanishes_1 (by decide) ?_
  refine lv_bipush (v := 99) hx hb dX4_vanishes_2 (by decide) ?_
  refine ro_S (As := [.int h, .int 1, .int 99]) (rest := []) ⟨hx, hb, hml, hown, hts⟩ hT hP (k_X4_in l D cI cZ h 1 99) gX4_vanishes_X4_in rfl nd_X4_in [] rfl hl.1 rfl rfl (Nat.le_of_ble_eq_true rfl) ⟨Nat.le_of_ble_eq_true rfl, Nat.le_of_ble_eq_true rfl⟩ ⟨rfl, rfl⟩ ⟨Nat.zero_le _, Nat.zero_le _⟩ dX4_vanishes_4 ?_
  refine lv_if_ne (tgt := 13) hx hb dX4_vanishes_7 (by decide) (fun c_1 => ?_) (fun c_1 => ?_)
  · skip
    obtain ⟨h2, hh2, rfl⟩ := jIn_nat 1 99 (by decide) c_1
    have hch : cl (nI h2) = h2 := cl_nI (by omega)
    refine lv_aload_n hx hb dX4_vanishes_13 rfl (lv_at hl 0 rfl) ?_
    refine ro_V (As := []) (rest := []) ⟨hx, hb, hml, hown, hts⟩ hT hP (k_X4_isBalanced l D cI cZ aO Q P M Wd aOw aDg aWk aSm aFo aBk fo ba le sf aIm aKp hv) gX4_vanishes_X4_isBalanced rfl rfl nd_X4_isBalanced [0] rfl (ci := 4) rfl rfl (q0 := 0) rfl hl.1 rfl rfl (Nat.le_of_ble_eq_true rfl) ⟨Nat.le_of_ble_eq_true rfl, Nat.le_of_ble_eq_true rfl⟩ ⟨rfl, rfl⟩ ⟨Nat.zero_le _, Nat.zero_le _⟩ dX4_vanishes_14 ?_
    refine lv_if_ne (tgt := 25) hx hb dX4_vanishes_17 (by decide) (fun c_2 => ?_) (fun c_2 => ?_)
    · skip
      refine lv_aload_n hx hb dX4_vanishes_25 rfl (lv_at hl 0 rfl) ?_
      refine lv_iload_n hx hb dX4_vanishes_26 rfl (lv_at hl 1 rfl) ?_
      refine lv_aload_n hx hb dX4_vanishes_27 rfl (lv_at hl 0 rfl) ?_
      refine va_get (D := D) (ci := 4) (v := .int (nI Wd)) (C := RX4) (T := TX4) (N := 16) hx hb hts hi_X4_vanishes_X4 hown hT.1 hP 0 rfl rfl 3 (by decide) (hts (.fieldLink RX4 19 "SlotStarModel" "reach" "I") (List.mem_of_getElem? (i := 1) rfl)) (fun _ h9 => h9) rfl dX4_vanishes_28 ?_
      refine mu_V (As := [.int (nI h2), .int (nI Wd)]) (rest := []) (W1 := [(aO, .inr (4, [.int (nI Q), .int (nI P), .int (nI M), .int (nI Wd), .ref aOw, .ref aDg, .ref aWk, .ref aSm, .ref aFo, .ref aBk, .int (nI fo), .int (nI ba), .int (nI le), .int (nI sf), .ref aIm, .ref aKp])), (aOw, .inl (cI, 2401, .inl (lO (tN Q P) fOw))), (aDg, .inl (cI, 49, .inl (lD (tN Q P) fDg))), (aWk, .inl (cI, 49, .inl (lW (tN Q P) fWk))), (aSm, .inl (cI, 98, .inl (rowP 0 (adR Q P M 0 h2 Wd) sm)))]) (st1 := [.int (nth Q P M h2 Wd)]) ⟨hx, hb, hml, hown, hts⟩ hT hP hD hS (k_X4_isNone l D cI cZ aO Q P M Wd aOw aDg aWk aSm aFo aBk fo ba le sf aIm aKp fOw fDg fWk sm h2 Wd hv (by omega) (by omega)) gX4_vanishes_X4_isNone rfl rfl nd_X4_isNone [0, 1, 2, 3, 4] (by decide) rfl rfl rfl rfl (ci := 4) rfl rfl (q0 := 0) rfl hl.1 rfl rfl (Nat.le_of_ble_eq_true rfl) ⟨Nat.le_of_ble_eq_true rfl, Nat.le_of_ble_eq_true rfl⟩ ⟨rfl, rfl⟩ ⟨Nat.zero_le _, Nat.zero_le _⟩ dX4_vanishes_31 (fun H locs hP hD hS => ?_)
      refine lv_if_eq (tgt := 41) hx hb dX4_vanishes_34 (by decide) (fun c_3 => ?_) (fun c_3 => ?_)
      · skip
        have hf1 := c_3
        refine lv_iconst (v := 0) hx hb dX4_vanishes_41 (by decide) ?_
        exact me_ret hx hb hr hlocks dX4_vanishes_42 (hP) ⟨_, _, _, _, rfl⟩ hS (by first | simp [sVan, c_1, c_2, eq_true c_3, hch, hf1] | simp [sVan, c_1, c_2, eq_true c_3, hch] | simp [sVan, c_1, c_2, eq_true c_3])
      · skip
        have hf1 : nth Q P M h2 Wd = 1 := (nth01 _ _ _ _ _).resolve_left c_3
        refine lv_iconst (v := 1) hx hb dX4_vanishes_37 (by decide) ?_
        refine lv_goto (tgt := 42) hx hb dX4_vanishes_38 (by decide) ?_
        exact me_ret hx hb hr hlocks dX4_vanishes_42 (hP) ⟨_, _, _, _, rfl⟩ hS (by first | simp [sVan, c_1, c_2, c_3, hch, hf1] | simp [sVan, c_1, c_2, c_3, hch] | simp [sVan, c_1, c_2, c_3])
    · skip
      refine lv_bipush (v := (-3)) hx hb dX4_vanishes_20 (by decide) ?_
      refine lv_goto (tgt := 42) hx hb dX4_vanishes_22 (by decide) ?_
      exact me_ret hx hb hr hlocks dX4_vanishes_42 (hP) ⟨_, _, _, _, rfl⟩ hS (by first | simp [sVan, c_1, eq_true c_2, hch, hf1] | simp [sVan, c_1, eq_true c_2, hch] | simp [sVan, c_1, eq_true c_2])
  · skip
    refine lv_bipush (v := (-2)) hx hb dX4_vanishes_10 (by decide) ?_
    exact me_ret hx hb hr hlocks dX4_vanishes_12 (hP) ⟨_, _, _, _, rfl⟩ hS (by first | simp [sVan, eq_true c_1, hch, hf1] | simp [sVan, eq_true c_1, hch] | simp [sVan, eq_true c_1])

theorem nd_X4_choose : okName yX4_choose 1 := by decide +kernel
set_option maxHeartbeats 4000000 in
set_option maxRecDepth 100000 in
theorem k_X4_choose (l : Launch) (D : va_G) (cI cZ : ClassId) (aO : Nat) (Q : Nat) (P : Nat) (M : Nat) (Wd : Nat) (aOw : Nat) (aDg : Nat) (aWk : Nat) (aSm : Nat) (aFo : Nat) (aBk : Nat) (fo : Nat) (ba : Nat) (le : Nat) (sf : Nat) (aIm : Nat) (aKp : Nat) (fOw : Nat → Int32) (fDg : Nat → Int32) (fWk : Nat → Int32) (sm : Nat → Int32) (h : Int32) (hv : MV Q P M Wd) : ME l yX4_choose wsX4_choose ({ frames := 7, cells := 0, slots := 0, locals := 159 } : Room) D cI cZ [(aO, .inr (4, [.int (nI Q), .int (nI P), .int (nI M), .int (nI Wd), .ref aOw, .ref aDg, .ref aWk, .ref aSm, .ref aFo, .ref aBk, .int (nI fo), .int (nI ba), .int (nI le), .int (nI sf), .ref aIm, .ref aKp])), (aOw, .inl (cI, 2401, .inl fOw)), (aDg, .inl (cI, 49, .inl fDg)), (aWk, .inl (cI, 49, .inl fWk)), (aSm, .inl (cI, 98, .inl sm))] [.ref aO, .int h] (some (.int (sCho Q P M h))) (fun z => ∃ (fOw' : Nat → Int32) (fDg' : Nat → Int32) (fWk' : Nat → Int32) (sm' : Nat → Int32), z = [(aO, .inr (4, [.int (nI Q), .int (nI P), .int (nI M), .int (nI Wd), .ref aOw, .ref aDg, .ref aWk, .ref aSm, .ref aFo, .ref aBk, .int (nI fo), .int (nI ba), .int (nI le), .int (nI sf), .ref aIm, .ref aKp])), (aOw, .inl (cI, 2401, .inl fOw')), (aDg, .inl (cI, 49, .inl fDg')), (aWk, .inl (cI, 49, .inl fWk')), (aSm, .inl (cI, 98, .inl sm'))]) := by
  refine me_start (by decide) rfl (Nat.le_of_ble_eq_true rfl) ?_
  intro p e s m args below meth c hx hb hr hml hlocks hts hown hT hP hD hS ls hl
  have hown : s.vm.findClass RX4 = some m.cls := hown
  have hl : lv_has ls 3 [(0, .ref aO), (1, .int h)] := hl
  have hv' := hv
  unfold MV at hv'
  have hpw := pw_ok (q := Q) (p := P) (by omega) (by omega)
  refine lv_iload_n hx hb dX4_choose_0 rfl (lv_at hl 1 rfl) ?_
  refine lv_iconst (v := 1) hx hb dX4_choose_1 (by decide) ?_
  refine lv_bipush (v := 99) hx hb dX4_choose_2 (by decide) ?_
  refine ro_S (As := [.int h, .int 1, .int 99]) (rest := []) ⟨hx, hb, hml, hown, hts⟩ hT hP (k_X4_in l D cI cZ h 1 99) gX4_choose_X4_in rfl nd_X4_in [] rfl hl.1 rfl rfl (Nat.le_of_ble_eq_true rfl) ⟨Nat.le_of_ble_eq_true rfl, Nat.le_of_ble_eq_true rfl⟩ ⟨rfl, rfl⟩ ⟨Nat.zero_le _, Nat.zero_le _⟩ dX4_choose_4 ?_
  refine lv_if_ne (tgt := 13) hx hb dX4_choose_7 (by decide) (fun c_1 => ?_) (fun c_1 => ?_)
  · skip
    obtain ⟨h2, hh2, rfl⟩ := jIn_nat 1 99 (by decide) c_1
    have hch : cl (nI h2) = h2 := cl_nI (by omega)
    refine lv_aload_n hx hb dX4_choose_13 rfl (lv_at hl 0 rfl) ?_
    refine ro_V (As := []) (rest := []) ⟨hx, hb, hml, hown, hts⟩ hT hP (k_X4_isBalanced l D cI cZ aO Q P M Wd aOw aDg aWk aSm aFo aBk fo ba le sf aIm aKp hv) gX4_choose_X4_isBalanced rfl rfl nd_X4_isBalanced [0] rfl (ci := 4) rfl rfl (q0 := 0) rfl hl.1 rfl rfl (Nat.le_of_ble_eq_true rfl) ⟨Nat.le_of_ble_eq_true rfl, Nat.le_of_ble_eq_true rfl⟩ ⟨rfl, rfl⟩ ⟨Nat.zero_le _, Nat.zero_le _⟩ dX4_choose_14 ?_
    refine lv_if_ne (tgt := 23) hx hb dX4_choose_17 (by decide) (fun c_2 => ?_) (fun c_2 => ?_)
    · skip
      refine lv_aload_n hx hb dX4_choose_23 rfl (lv_at hl 0 rfl) ?_
      refine ro_V (As := []) (rest := []) ⟨hx, hb, hml, hown, hts⟩ hT hP (k_X4_pitch l D cI cZ aO Q P M Wd aOw aDg aWk aSm aFo aBk fo ba le sf aIm aKp (by omega) (by omega)) gX4_choose_X4_pitch rfl rfl nd_X4_pitch [0] rfl (ci := 4) rfl rfl (q0 := 0) rfl hl.1 rfl rfl (Nat.le_of_ble_eq_true rfl) ⟨Nat.le_of_ble_eq_true rfl, Nat.le_of_ble_eq_true rfl⟩ ⟨rfl, rfl⟩ ⟨Nat.zero_le _, Nat.zero_le _⟩ dX4_choose_24 ?_
      refine lv_istore_n (lv' := [(2, .int (nI (pw Q P))), (0, .ref aO), (1, .int (nI h2))]) hx hb dX4_choose_27 rfl hl (by decide) rfl (fun ls hl => ?_)
      have L_28 : ∀ (w : Nat) (o : Nat → Int32) (g : Nat → Int32) (u : Nat → Int32) (v : Nat → Int32), w ≤ pw Q P → sCho Q P M (nI h2) = chL Q P M h2 w → ∀ (H : Heap) (locs : List Loc), va_P D cls5 [(aO, .inr (4, [.int (nI Q), .int (nI P), .int (nI M), .int (nI Wd), .ref aOw, .ref aDg, .ref aWk, .ref aSm, .ref aFo, .ref aBk, .int (nI fo), .int (nI ba), .int (nI le), .int (nI sf), .ref aIm, .ref aKp])), (aOw, .inl (cI, 2401, .inl o)), (aDg, .inl (cI, 49, .inl g)), (aWk, .inl (cI, 49, .inl u)), (aSm, .inl (cI, 98, .inl v))] H → va_D (va_M [(aO, .inr (4, [.int (nI Q), .int (nI P), .int (nI M), .int (nI Wd), .ref aOw, .ref aDg, .ref aWk, .ref aSm, .ref aFo, .ref aBk, .int (nI fo), .int (nI ba), .int (nI le), .int (nI sf), .ref aIm, .ref aKp])), (aOw, .inl (cI, 2401, .inl fOw)), (aDg, .inl (cI, 49, .inl fDg)), (aWk, .inl (cI, 49, .inl fWk)), (aSm, .inl (cI, 98, .inl sm))]) [(aO, .inr (4, [.int (nI Q), .int (nI P), .int (nI M), .int (nI Wd), .ref aOw, .ref aDg, .ref aWk, .ref aSm, .ref aFo, .ref aBk, .int (nI fo), .int (nI ba), .int (nI le), .int (nI sf), .ref aIm, .ref aKp])), (aOw, .inl (cI, 2401, .inl o)), (aDg, .inl (cI, 49, .inl g)), (aWk, .inl (cI, 49, .inl u)), (aSm, .inl (cI, 98, .inl v))] → va_S (va_M [(aO, .inr (4, [.int (nI Q), .int (nI P), .int (nI M), .int (nI Wd), .ref aOw, .ref aDg, .ref aWk, .ref aSm, .ref aFo, .ref aBk, .int (nI fo), .int (nI ba), .int (nI le), .int (nI sf), .ref aIm, .ref aKp])), (aOw, .inl (cI, 2401, .inl fOw)), (aDg, .inl (cI, 49, .inl fDg)), (aWk, .inl (cI, 49, .inl fWk)), (aSm, .inl (cI, 98, .inl sm))]) s.heap H locs → ∀ ls : Array Slot, lv_has ls 3 [(0, .ref aO), (1, .int (nI h2)), (2, .int (nI w))] → W p l e (headSpec wsX4_choose ({ frames := 7, cells := 0, slots := 0, locals := 159 } : Room)).room s m args below meth c H locs 0 0 (MQ below (QcE D [(aO, .inr (4, [.int (nI Q), .int (nI P), .int (nI M), .int (nI Wd), .ref aOw, .ref aDg, .ref aWk, .ref aSm, .ref aFo, .ref aBk, .int (nI fo), .int (nI ba), .int (nI le), .int (nI sf), .ref aIm, .ref aKp])), (aOw, .inl (cI, 2401, .inl fOw)), (aDg, .inl (cI, 49, .inl fDg)), (aWk, .inl (cI, 49, .inl fWk)), (aSm, .inl (cI, 98, .inl sm))] (some (.int (sCho Q P M (nI h2)))) (fun z => ∃ (fOw' : Nat → Int32) (fDg' : Nat → Int32) (fWk' : Nat → Int32) (sm' : Nat → Int32), z = [(aO, .inr (4, [.int (nI Q), .int (nI P), .int (nI M), .int (nI Wd), .ref aOw, .ref aDg, .ref aWk, .ref aSm, .ref aFo, .ref aBk, .int (nI fo), .int (nI ba), .int (nI le), .int (nI sf), .ref aIm, .ref aKp])), (aOw, .inl (cI, 2401, .inl fOw')), (aDg, .inl (cI, 49, .inl fDg')), (aWk, .inl (cI, 49, .inl fWk')), (aSm, .inl (cI, 98, .inl sm'))])) args s 0 0 (va_M [(aO, .inr (4, [.int (nI Q), .int (nI P), .int (nI M), .int (nI Wd), .ref aOw, .ref aDg, .ref aWk, .ref aSm, .ref aFo, .ref aBk, .int (nI fo), .int (nI ba), .int (nI le), .int (nI sf), .ref aIm, .ref aKp])), (aOw, .inl (cI, 2401, .inl fOw)), (aDg, .inl (cI, 49, .inl fDg)), (aWk, .inl (cI, 49, .inl fWk)), (aSm, .inl (cI, 98, .inl sm))])) (F0 m 28 ls []) := by
        intro w
        induction w with
        | zero =>
          intro o g u v h3 e1 H locs hP hD hS ls hl
          refine lv_iload_n hx hb dX4_choose_28 rfl (lv_at hl 2 rfl) ?_
          refine lv_if_le (tgt := 49) hx hb dX4_choose_29 (by decide) (fun c_3 => ?_) (fun c_3 => ?_)
          · skip
            refine lv_bipush (v := (-6)) hx hb dX4_choose_49 (by decide) ?_
            exact me_ret hx hb hr hlocks dX4_choose_51 (hP) ⟨_, _, _, _, rfl⟩ hS (by rw [e1]; rfl)
          · exfalso; exact c_3 (by decide)
        | succ w ih_28 =>
          intro o g u v h3 e1 H locs hP hD hS ls hl
          refine lv_iload_n hx hb dX4_choose_28 rfl (lv_at hl 2 rfl) ?_
          refine lv_if_le (tgt := 49) hx hb dX4_choose_29 (by decide) (fun c_4 => ?_) (fun c_4 => ?_)
          · exfalso; exact nI_nle (by omega) (by omega) c_4
          · skip
            refine lv_aload_n hx hb dX4_choose_32 rfl (lv_at hl 0 rfl) ?_
            refine lv_iload_n hx hb dX4_choose_33 rfl (lv_at hl 1 rfl) ?_
            refine lv_iload_n hx hb dX4_choose_34 rfl (lv_at hl 2 rfl) ?_
            refine mu_V (As := [.int (nI h2), .int (nI (w + 1))]) (rest := []) (W1 := [(aO, .inr (4, [.int (nI Q), .int (nI P), .int (nI M), .int (nI Wd), .ref aOw, .ref aDg, .ref aWk, .ref aSm, .ref aFo, .ref aBk, .int (nI fo), .int (nI ba), .int (nI le), .int (nI sf), .ref aIm, .ref aKp])), (aOw, .inl (cI, 2401, .inl (lO (tN Q P) o))), (aDg, .inl (cI, 49, .inl (lD (tN Q P) g))), (aWk, .inl (cI, 49, .inl (lW (tN Q P) u))), (aSm, .inl (cI, 98, .inl (rowP 0 (adR Q P M 0 h2 (w + 1)) v)))]) (st1 := [.int (nth Q P M h2 (w + 1))]) ⟨hx, hb, hml, hown, hts⟩ hT hP hD hS (k_X4_isNone l D cI cZ aO Q P M Wd aOw aDg aWk aSm aFo aBk fo ba le sf aIm aKp o g u v h2 (w + 1) hv (by omega) (by omega)) gX4_choose_X4_isNone rfl rfl nd_X4_isNone [0, 1, 2, 3, 4] (by decide) rfl rfl rfl rfl (ci := 4) rfl rfl (q0 := 0) rfl hl.1 rfl rfl (Nat.le_of_ble_eq_true rfl) ⟨Nat.le_of_ble_eq_true rfl, Nat.le_of_ble_eq_true rfl⟩ ⟨rfl, rfl⟩ ⟨Nat.zero_le _, Nat.zero_le _⟩ dX4_choose_35 (fun H locs hP hD hS => ?_)
            refine lv_if_eq (tgt := 43) hx hb dX4_choose_38 (by decide) (fun c_5 => ?_) (fun c_5 => ?_)
            · skip
              refine lv_iinc (v := nI w) (lv' := [(2, .int (nI w)), (0, .ref aO), (1, .int (nI h2))]) hx hb dX4_choose_43 hl (k := 2) rfl (pk_m1 w) (by decide) rfl (fun ls hl => ?_)
              refine lv_goto (tgt := 28) hx hb dX4_choose_46 (by decide) ?_
              exact ih_28 _ _ _ _ (by omega) (by rw [e1]; simp [chL, c_1, c_2, c_4, eq_true c_5]) _ _ hP hD hS ls (lv_sub hl [1, 2, 0] rfl)
            · skip
              refine lv_iload_n hx hb dX4_choose_41 rfl (lv_at hl 2 rfl) ?_
              exact me_ret hx hb hr hlocks dX4_choose_42 (hP) ⟨_, _, _, _, rfl⟩ hS (by rw [e1]; simp [chL, c_1, c_2, c_4, c_5])
      exact L_28 (pw Q P) fOw fDg fWk sm (Nat.le_refl _) (by simp [sCho, c_1, c_2, hch]) _ _ hP hD hS ls (lv_sub hl [1, 2, 0] rfl)
    · skip
      refine lv_bipush (v := (-3)) hx hb dX4_choose_20 (by decide) ?_
      exact me_ret hx hb hr hlocks dX4_choose_22 (hP) ⟨_, _, _, _, rfl⟩ hS (by simp [sCho, c_1, eq_true c_2])
  · skip
    refine lv_bipush (v := (-2)) hx hb dX4_choose_10 (by decide) ?_
    exact me_ret hx hb hr hlocks dX4_choose_12 (hP) ⟨_, _, _, _, rfl⟩ hS (by simp [sCho, eq_true c_1])

set_option maxRecDepth 20000 in
theorem hi_X4_sum_X4 : ∀ w ∈ wsX40, w ∈ wsX4_sum := by
  intro w h
  unfold wsX4_sum
  simp only [List.mem_cons, List.mem_append, h, or_true, true_or]
theorem nd_X4_sum : okName yX4_sum 3 := by decide +kernel
set_option maxHeartbeats 4000000 in
set_option maxRecDepth 100000 in
theorem k_X4_sum (l : Launch) (D : va_G) (cI cZ : ClassId) (aO : Nat) (Q : Nat) (P : Nat) (M : Nat) (Wd : Nat) (aOw : Nat) (aDg : Nat) (aWk : Nat) (aSm : Nat) (aFo : Nat) (aBk : Nat) (fo : Nat) (ba : Nat) (le : Nat) (sf : Nat) (aIm : Nat) (aKp : Nat) (fOw : Nat → Int32) (fDg : Nat → Int32) (fWk : Nat → Int32) (sm : Nat → Int32) (a : Int32) (h : Int32) (i : Int32) (hv : MV Q P M Wd) : ME l yX4_sum wsX4_sum ({ frames := 6, cells := 0, slots := 0, locals := 135 } : Room) D cI cZ [(aO, .inr (4, [.int (nI Q), .int (nI P), .int (nI M), .int (nI Wd), .ref aOw, .ref aDg, .ref aWk, .ref aSm, .ref aFo, .ref aBk, .int (nI fo), .int (nI ba), .int (nI le), .int (nI sf), .ref aIm, .ref aKp])), (aOw, .inl (cI, 2401, .inl fOw)), (aDg, .inl (cI, 49, .inl fDg)), (aWk, .inl (cI, 49, .inl fWk)), (aSm, .inl (cI, 98, .inl sm))] [.ref aO, .int a, .int h, .int i] (some (.int (sSum Q P M Wd a h i))) (fun z => ∃ (fOw' : Nat → Int32) (fDg' : Nat → Int32) (fWk' : Nat → Int32) (sm' : Nat → Int32), z = [(aO, .inr (4, [.int (nI Q), .int (nI P), .int (nI M), .int (nI Wd), .ref aOw, .ref aDg, .ref aWk, .ref aSm, .ref aFo, .ref aBk, .int (nI fo), .int (nI ba), .int (nI le), .int (nI sf), .ref aIm, .ref aKp])), (aOw, .inl (cI, 2401, .inl fOw')), (aDg, .inl (cI, 49, .inl fDg')), (aWk, .inl (cI, 49, .inl fWk')), (aSm, .inl (cI, 98, .inl sm'))]) := by
  refine me_start (by decide) rfl (Nat.le_of_ble_eq_true rfl) ?_
  intro p e s m args below meth c hx hb hr hml hlocks hts hown hT hP hD hS ls hl
  have hown : s.vm.findClass RX4 = some m.cls := hown
  have hl : lv_has ls 4 [(0, .ref aO), (1, .int a), (2, .int h), (3, .int i)] := hl
  have hv' := hv
  unfold MV at hv'
  have hd0 := dg_pos (tN Q P) (tN_pos hv) (tN_le hv)
  have hd1 := dg_le (tN Q P)
  have hn0 := tN_pos hv
  have hn1 := tN_le hv
  refine lv_aload_n hx hb dX4_sum_0 rfl (lv_at hl 0 rfl) ?_
  refine lv_iload_n hx hb dX4_sum_1 rfl (lv_at hl 1 rfl) ?_
  refine ro_V (As := [.int a]) (rest := []) ⟨hx, hb, hml, hown, hts⟩ hT hP (k_X4_isPhase l D cI cZ aO Q P M Wd aOw aDg aWk aSm aFo aBk fo ba le sf aIm aKp a) gX4_sum_X4_isPhase rfl rfl nd_X4_isPhase [0] rfl (ci := 4) rfl rfl (q0 := 0) rfl hl.1 rfl rfl (Nat.le_of_ble_eq_true rfl) ⟨Nat.le_of_ble_eq_true rfl, Nat.le_of_ble_eq_true rfl⟩ ⟨rfl, rfl⟩ ⟨Nat.zero_le _, Nat.zero_le _⟩ dX4_sum_2 ?_
  refine lv_if_ne (tgt := 11) hx hb dX4_sum_5 (by decide) (fun c_1 => ?_) (fun c_1 => ?_)
  · skip
    refine lv_aload_n hx hb dX4_sum_11 rfl (lv_at hl 0 rfl) ?_
    refine mu_V (As := []) (rest := []) (W1 := [(aO, .inr (4, [.int (nI Q), .int (nI P), .int (nI M), .int (nI Wd), .ref aOw, .ref aDg, .ref aWk, .ref aSm, .ref aFo, .ref aBk, .int (nI fo), .int (nI ba), .int (nI le), .int (nI sf), .ref aIm, .ref aKp])), (aOw, .inl (cI, 2401, .inl (lO (tN Q P) fOw))), (aDg, .inl (cI, 49, .inl (lD (tN Q P) fDg))), (aWk, .inl (cI, 49, .inl (lW (tN Q P) fWk))), (aSm, .inl (cI, 98, .inl sm))]) (st1 := []) ⟨hx, hb, hml, hown, hts⟩ hT hP hD hS (k_X4_layOwn l D cI cZ aO Q P M Wd aOw aDg aWk aSm aFo aBk fo ba le sf aIm aKp fOw fDg fWk hv) gX4_sum_X4_layOwn rfl rfl nd_X4_layOwn [0, 1, 2, 3] (by decide) rfl rfl rfl rfl (ci := 4) rfl rfl (q0 := 0) rfl hl.1 rfl rfl (Nat.le_of_ble_eq_true rfl) ⟨Nat.le_of_ble_eq_true rfl, Nat.le_of_ble_eq_true rfl⟩ ⟨rfl, rfl⟩ ⟨Nat.zero_le _, Nat.zero_le _⟩ dX4_sum_12 (fun H locs hP hD hS => ?_)
    refine lv_iload_n hx hb dX4_sum_15 rfl (lv_at hl 2 rfl) ?_
    refine lv_iconst (v := 1) hx hb dX4_sum_16 (by decide) ?_
    refine lv_bipush (v := 99) hx hb dX4_sum_17 (by decide) ?_
    refine ro_S (As := [.int h, .int 1, .int 99]) (rest := []) ⟨hx, hb, hml, hown, hts⟩ hT hP (k_X4_in l D cI cZ h 1 99) gX4_sum_X4_in rfl nd_X4_in [] rfl hl.1 rfl rfl (Nat.le_of_ble_eq_true rfl) ⟨Nat.le_of_ble_eq_true rfl, Nat.le_of_ble_eq_true rfl⟩ ⟨rfl, rfl⟩ ⟨Nat.zero_le _, Nat.zero_le _⟩ dX4_sum_19 ?_
    refine lv_if_eq (tgt := 44) hx hb dX4_sum_22 (by decide) (fun c_2 => ?_) (fun c_2 => ?_)
    · skip
      refine lv_ldc (v := (-100002)) hx hb hown (hts (.constant RX4 110 (-100002)) (List.mem_of_getElem? (i := 3) rfl)) dX4_sum_44 ?_
      exact me_ret hx hb hr hlocks dX4_sum_46 (hP) ⟨_, _, _, _, rfl⟩ hS (by simp [sSum, c_1, eq_true c_2])
    · skip
      obtain ⟨h2, hh2, rfl⟩ := jIn_nat 1 99 (by decide) c_2
      have hch : cl (nI h2) = h2 := cl_nI (by omega)
      refine lv_iload_n hx hb dX4_sum_25 rfl (lv_at hl 3 rfl) ?_
      refine lv_iconst (v := 0) hx hb dX4_sum_26 (by decide) ?_
      refine lv_aload_n hx hb dX4_sum_27 rfl (lv_at hl 0 rfl) ?_
      refine va_get (D := D) (ci := 4) (v := .ref aDg) (C := RX4) (T := TX4) (N := 16) hx hb hts hi_X4_sum_X4 hown hT.1 hP 0 rfl rfl 5 (by decide) (hts (.fieldLink RX4 26 "SlotStarModel" "degree" "[I") (List.mem_of_getElem? (i := 2) rfl)) (fun _ h9 => h9) rfl dX4_sum_28 ?_
      refine lv_aload_n hx hb dX4_sum_31 rfl (lv_at hl 0 rfl) ?_
      refine ro_V (As := []) (rest := [.ref aDg, .int 0, .int i]) ⟨hx, hb, hml, hown, hts⟩ hT hP (k_X4_star l D cI cZ aO Q P M Wd aOw aDg aWk aSm aFo aBk fo ba le sf aIm aKp hv) gX4_sum_X4_star rfl rfl nd_X4_star [0] rfl (ci := 4) rfl rfl (q0 := 0) rfl hl.1 rfl rfl (Nat.le_of_ble_eq_true rfl) ⟨Nat.le_of_ble_eq_true rfl, Nat.le_of_ble_eq_true rfl⟩ ⟨rfl, rfl⟩ ⟨Nat.zero_le _, Nat.zero_le _⟩ dX4_sum_32 ?_
      refine ld_i hx hb hT hP 2 rfl dX4_sum_35 (k := (tN Q P)) rfl (by omega) (by decide) ?_
      refine top_eq (z := (nI (dgN (tN Q P)))) (by exact (rowOk_n hn0 fOw fDg).1) ?_
      refine lv_iconst (v := 1) hx hb dX4_sum_36 (by decide) ?_
      refine lv_isub hx hb dX4_sum_37 ?_
      refine ro_S (As := [.int i, .int 0, .int ((nI (dgN (tN Q P))) - 1)]) (rest := []) ⟨hx, hb, hml, hown, hts⟩ hT hP (k_X4_in l D cI cZ i 0 ((nI (dgN (tN Q P))) - 1)) gX4_sum_X4_in rfl nd_X4_in [] rfl hl.1 rfl rfl (Nat.le_of_ble_eq_true rfl) ⟨Nat.le_of_ble_eq_true rfl, Nat.le_of_ble_eq_true rfl⟩ ⟨rfl, rfl⟩ ⟨Nat.zero_le _, Nat.zero_le _⟩ dX4_sum_38 ?_
      refine lv_if_ne (tgt := 47) hx hb dX4_sum_41 (by decide) (fun c_3 => ?_) (fun c_3 => ?_)
      · skip
        obtain ⟨i2, hi2, rfl⟩ := jIn_sl (by omega) c_3
        have hci : cl (nI i2) = i2 := cl_nI (by omega)
        refine lv_aload_n hx hb dX4_sum_47 rfl (lv_at hl 0 rfl) ?_
        refine ro_V (As := []) (rest := []) ⟨hx, hb, hml, hown, hts⟩ hT hP (k_X4_isBalanced l D cI cZ aO Q P M Wd aOw aDg aWk aSm aFo aBk fo ba le sf aIm aKp hv) gX4_sum_X4_isBalanced rfl rfl nd_X4_isBalanced [0] rfl (ci := 4) rfl rfl (q0 := 0) rfl hl.1 rfl rfl (Nat.le_of_ble_eq_true rfl) ⟨Nat.le_of_ble_eq_true rfl, Nat.le_of_ble_eq_true rfl⟩ ⟨rfl, rfl⟩ ⟨Nat.zero_le _, Nat.zero_le _⟩ dX4_sum_48 ?_
        refine lv_if_ne (tgt := 57) hx hb dX4_sum_51 (by decide) (fun c_4 => ?_) (fun c_4 => ?_)
        · skip
          refine lv_aload_n hx hb dX4_sum_57 rfl (lv_at hl 0 rfl) ?_
          refine lv_iconst (v := 0) hx hb dX4_sum_58 (by decide) ?_
          refine lv_iload_n hx hb dX4_sum_59 rfl (lv_at hl 1 rfl) ?_
          refine lv_iload_n hx hb dX4_sum_60 rfl (lv_at hl 2 rfl) ?_
          refine lv_aload_n hx hb dX4_sum_61 rfl (lv_at hl 0 rfl) ?_
          refine va_get (D := D) (ci := 4) (v := .int (nI Wd)) (C := RX4) (T := TX4) (N := 16) hx hb hts hi_X4_sum_X4 hown hT.1 hP 0 rfl rfl 3 (by decide) (hts (.fieldLink RX4 19 "SlotStarModel" "reach" "I") (List.mem_of_getElem? (i := 5) rfl)) (fun _ h9 => h9) rfl dX4_sum_62 ?_
          refine mu_V (As := [.int 0, .int a, .int (nI h2), .int (nI Wd)]) (rest := []) (W1 := [(aO, .inr (4, [.int (nI Q), .int (nI P), .int (nI M), .int (nI Wd), .ref aOw, .ref aDg, .ref aWk, .ref aSm, .ref aFo, .ref aBk, .int (nI fo), .int (nI ba), .int (nI le), .int (nI sf), .ref aIm, .ref aKp])), (aOw, .inl (cI, 2401, .inl (lO (tN Q P) (lO (tN Q P) fOw)))), (aDg, .inl (cI, 49, .inl (lD (tN Q P) (lD (tN Q P) fDg)))), (aWk, .inl (cI, 49, .inl (lW (tN Q P) (lW (tN Q P) fWk)))), (aSm, .inl (cI, 98, .inl (rowP 0 (adR Q P M a h2 Wd) sm)))]) (st1 := []) ⟨hx, hb, hml, hown, hts⟩ hT hP hD hS (k_X4_laySum l D cI cZ aO Q P M Wd aOw aDg aWk aSm aFo aBk fo ba le sf aIm aKp (lO (tN Q P) fOw) (lD (tN Q P) fDg) (lW (tN Q P) fWk) sm 0 a h2 Wd hv (by decide) (by omega) (by omega)) gX4_sum_X4_laySum rfl rfl nd_X4_laySum [0, 1, 2, 3, 4] (by decide) rfl rfl rfl rfl (ci := 4) rfl rfl (q0 := 0) rfl hl.1 rfl rfl (Nat.le_of_ble_eq_true rfl) ⟨Nat.le_of_ble_eq_true rfl, Nat.le_of_ble_eq_true rfl⟩ ⟨rfl, rfl⟩ ⟨Nat.zero_le _, Nat.zero_le _⟩ dX4_sum_65 (fun H locs hP hD hS => ?_)
          refine lv_aload_n hx hb dX4_sum_68 rfl (lv_at hl 0 rfl) ?_
          refine va_get (D := D) (ci := 4) (v := .ref aSm) (C := RX4) (T := TX4) (N := 16) hx hb hts hi_X4_sum_X4 hown hT.1 hP 0 rfl rfl 7 (by decide) (hts (.fieldLink RX4 32 "SlotStarModel" "sum" "[I") (List.mem_of_getElem? (i := 6) rfl)) (fun _ h9 => h9) rfl dX4_sum_69 ?_
          refine lv_iload_n hx hb dX4_sum_72 rfl (lv_at hl 3 rfl) ?_
          refine ld_i hx hb hT hP 4 rfl dX4_sum_73 (k := i2) rfl (by omega) (by decide) ?_
          refine top_eq (z := (adR Q P M a h2 Wd i2)) (by exact rowP0 (by omega)) ?_
          exact me_ret hx hb hr hlocks dX4_sum_74 (hP) ⟨_, _, _, _, rfl⟩ hS (by simp [sSum, c_1, c_2, c_3, c_4, hch, hci])
        · skip
          refine lv_ldc (v := (-100003)) hx hb hown (hts (.constant RX4 111 (-100003)) (List.mem_of_getElem? (i := 4) rfl)) dX4_sum_54 ?_
          exact me_ret hx hb hr hlocks dX4_sum_56 (hP) ⟨_, _, _, _, rfl⟩ hS (by simp [sSum, c_1, c_2, c_3, eq_true c_4])
      · skip
        refine lv_ldc (v := (-100002)) hx hb hown (hts (.constant RX4 110 (-100002)) (List.mem_of_getElem? (i := 3) rfl)) dX4_sum_44 ?_
        exact me_ret hx hb hr hlocks dX4_sum_46 (hP) ⟨_, _, _, _, rfl⟩ hS (by simp [sSum, c_1, c_2, eq_true c_3])
  · skip
    refine lv_ldc (v := (-100001)) hx hb hown (hts (.constant RX4 109 (-100001)) (List.mem_of_getElem? (i := 1) rfl)) dX4_sum_8 ?_
    exact me_ret hx hb hr hlocks dX4_sum_10 (hP) ⟨_, _, _, _, rfl⟩ hS (by simp [sSum, eq_true c_1])

set_option maxRecDepth 20000 in
theorem hi_X4_turned_X4 : ∀ w ∈ wsX40, w ∈ wsX4_turned := by
  intro w h
  unfold wsX4_turned
  simp only [List.mem_cons, List.mem_append, h, or_true, true_or]
theorem nd_X4_turned : okName yX4_turned 3 := by decide +kernel
set_option maxHeartbeats 4000000 in
set_option maxRecDepth 100000 in
theorem k_X4_turned (l : Launch) (D : va_G) (cI cZ : ClassId) (aO : Nat) (Q : Nat) (P : Nat) (M : Nat) (Wd : Nat) (aOw : Nat) (aDg : Nat) (aWk : Nat) (aSm : Nat) (aFo : Nat) (aBk : Nat) (fo : Nat) (ba : Nat) (le : Nat) (sf : Nat) (aIm : Nat) (aKp : Nat) (fOw : Nat → Int32) (fDg : Nat → Int32) (fWk : Nat → Int32) (sm : Nat → Int32) (a : Int32) (b : Int32) (h : Int32) (hv : MV Q P M Wd) : ME l yX4_turned wsX4_turned ({ frames := 6, cells := 0, slots := 0, locals := 135 } : Room) D cI cZ [(aO, .inr (4, [.int (nI Q), .int (nI P), .int (nI M), .int (nI Wd), .ref aOw, .ref aDg, .ref aWk, .ref aSm, .ref aFo, .ref aBk, .int (nI fo), .int (nI ba), .int (nI le), .int (nI sf), .ref aIm, .ref aKp])), (aOw, .inl (cI, 2401, .inl fOw)), (aDg, .inl (cI, 49, .inl fDg)), (aWk, .inl (cI, 49, .inl fWk)), (aSm, .inl (cI, 98, .inl sm))] [.ref aO, .int a, .int b, .int h] (some (.int (sTur Q P M Wd a b h))) (fun z => ∃ (fOw' : Nat → Int32) (fDg' : Nat → Int32) (fWk' : Nat → Int32) (sm' : Nat → Int32), z = [(aO, .inr (4, [.int (nI Q), .int (nI P), .int (nI M), .int (nI Wd), .ref aOw, .ref aDg, .ref aWk, .ref aSm, .ref aFo, .ref aBk, .int (nI fo), .int (nI ba), .int (nI le), .int (nI sf), .ref aIm, .ref aKp])), (aOw, .inl (cI, 2401, .inl fOw')), (aDg, .inl (cI, 49, .inl fDg')), (aWk, .inl (cI, 49, .inl fWk')), (aSm, .inl (cI, 98, .inl sm'))]) := by
  refine me_start (by decide) rfl (Nat.le_of_ble_eq_true rfl) ?_
  intro p e s m args below meth c hx hb hr hml hlocks hts hown hT hP hD hS ls hl
  have hown : s.vm.findClass RX4 = some m.cls := hown
  have hl : lv_has ls 8 [(0, .ref aO), (1, .int a), (2, .int b), (3, .int h)] := hl
  have hv' := hv
  unfold MV at hv'
  have hd0 := dg_pos (tN Q P) (tN_pos hv) (tN_le hv)
  have hd1 := dg_le (tN Q P)
  have hn0 := tN_pos hv
  have hn1 := tN_le hv
  refine lv_aload_n hx hb dX4_turned_0 rfl (lv_at hl 0 rfl) ?_
  refine lv_iload_n hx hb dX4_turned_1 rfl (lv_at hl 1 rfl) ?_
  refine ro_V (As := [.int a]) (rest := []) ⟨hx, hb, hml, hown, hts⟩ hT hP (k_X4_isPhase l D cI cZ aO Q P M Wd aOw aDg aWk aSm aFo aBk fo ba le sf aIm aKp a) gX4_turned_X4_isPhase rfl rfl nd_X4_isPhase [0] rfl (ci := 4) rfl rfl (q0 := 0) rfl hl.1 rfl rfl (Nat.le_of_ble_eq_true rfl) ⟨Nat.le_of_ble_eq_true rfl, Nat.le_of_ble_eq_true rfl⟩ ⟨rfl, rfl⟩ ⟨Nat.zero_le _, Nat.zero_le _⟩ dX4_turned_2 ?_
  refine lv_if_eq (tgt := 16) hx hb dX4_turned_5 (by decide) (fun c_1 => ?_) (fun c_1 => ?_)
  · skip
    refine lv_iconst (v := (-1)) hx hb dX4_turned_16 (by decide) ?_
    exact me_ret hx hb hr hlocks dX4_turned_17 (hP) ⟨_, _, _, _, rfl⟩ hS (by simp [sTur, eq_true c_1])
  · skip
    refine lv_aload_n hx hb dX4_turned_8 rfl (lv_at hl 0 rfl) ?_
    refine lv_iload_n hx hb dX4_turned_9 rfl (lv_at hl 2 rfl) ?_
    refine ro_V (As := [.int b]) (rest := []) ⟨hx, hb, hml, hown, hts⟩ hT hP (k_X4_isPhase l D cI cZ aO Q P M Wd aOw aDg aWk aSm aFo aBk fo ba le sf aIm aKp b) gX4_turned_X4_isPhase rfl rfl nd_X4_isPhase [0] rfl (ci := 4) rfl rfl (q0 := 0) rfl hl.1 rfl rfl (Nat.le_of_ble_eq_true rfl) ⟨Nat.le_of_ble_eq_true rfl, Nat.le_of_ble_eq_true rfl⟩ ⟨rfl, rfl⟩ ⟨Nat.zero_le _, Nat.zero_le _⟩ dX4_turned_10 ?_
    refine lv_if_ne (tgt := 18) hx hb dX4_turned_13 (by decide) (fun c_2 => ?_) (fun c_2 => ?_)
    · skip
      refine lv_iload_n hx hb dX4_turned_18 rfl (lv_at hl 3 rfl) ?_
      refine lv_iconst (v := 1) hx hb dX4_turned_19 (by decide) ?_
      refine lv_bipush (v := 99) hx hb dX4_turned_20 (by decide) ?_
      refine ro_S (As := [.int h, .int 1, .int 99]) (rest := []) ⟨hx, hb, hml, hown, hts⟩ hT hP (k_X4_in l D cI cZ h 1 99) gX4_turned_X4_in rfl nd_X4_in [] rfl hl.1 rfl rfl (Nat.le_of_ble_eq_true rfl) ⟨Nat.le_of_ble_eq_true rfl, Nat.le_of_ble_eq_true rfl⟩ ⟨rfl, rfl⟩ ⟨Nat.zero_le _, Nat.zero_le _⟩ dX4_turned_22 ?_
      refine lv_if_ne (tgt := 31) hx hb dX4_turned_25 (by decide) (fun c_3 => ?_) (fun c_3 => ?_)
      · skip
        obtain ⟨h2, hh2, rfl⟩ := jIn_nat 1 99 (by decide) c_3
        have hch : cl (nI h2) = h2 := cl_nI (by omega)
        refine lv_aload_n hx hb dX4_turned_31 rfl (lv_at hl 0 rfl) ?_
        refine ro_V (As := []) (rest := []) ⟨hx, hb, hml, hown, hts⟩ hT hP (k_X4_isBalanced l D cI cZ aO Q P M Wd aOw aDg aWk aSm aFo aBk fo ba le sf aIm aKp hv) gX4_turned_X4_isBalanced rfl rfl nd_X4_isBalanced [0] rfl (ci := 4) rfl rfl (q0 := 0) rfl hl.1 rfl rfl (Nat.le_of_ble_eq_true rfl) ⟨Nat.le_of_ble_eq_true rfl, Nat.le_of_ble_eq_true rfl⟩ ⟨rfl, rfl⟩ ⟨Nat.zero_le _, Nat.zero_le _⟩ dX4_turned_32 ?_
        refine lv_if_ne (tgt := 41) hx hb dX4_turned_35 (by decide) (fun c_4 => ?_) (fun c_4 => ?_)
        · skip
          have hn3 := bal_ge hv c_4
          have hdn := dg_lt (tN Q P) (by omega) hn1
          have hzb : hiZ (dgN (tN Q P)) (adR Q P M b h2 Wd) := fun x h8 _ => adR_hi hv b h2 Wd h8
          refine lv_aload_n hx hb dX4_turned_41 rfl (lv_at hl 0 rfl) ?_
          refine lv_iconst (v := 0) hx hb dX4_turned_42 (by decide) ?_
          refine lv_iload_n hx hb dX4_turned_43 rfl (lv_at hl 1 rfl) ?_
          refine lv_iload_n hx hb dX4_turned_44 rfl (lv_at hl 3 rfl) ?_
          refine lv_aload_n hx hb dX4_turned_45 rfl (lv_at hl 0 rfl) ?_
          refine va_get (D := D) (ci := 4) (v := .int (nI Wd)) (C := RX4) (T := TX4) (N := 16) hx hb hts hi_X4_turned_X4 hown hT.1 hP 0 rfl rfl 3 (by decide) (hts (.fieldLink RX4 19 "SlotStarModel" "reach" "I") (List.mem_of_getElem? (i := 1) rfl)) (fun _ h9 => h9) rfl dX4_turned_46 ?_
          refine mu_V (As := [.int 0, .int a, .int (nI h2), .int (nI Wd)]) (rest := []) (W1 := [(aO, .inr (4, [.int (nI Q), .int (nI P), .int (nI M), .int (nI Wd), .ref aOw, .ref aDg, .ref aWk, .ref aSm, .ref aFo, .ref aBk, .int (nI fo), .int (nI ba), .int (nI le), .int (nI sf), .ref aIm, .ref aKp])), (aOw, .inl (cI, 2401, .inl (lO (tN Q P) fOw))), (aDg, .inl (cI, 49, .inl (lD (tN Q P) fDg))), (aWk, .inl (cI, 49, .inl (lW (tN Q P) fWk))), (aSm, .inl (cI, 98, .inl (rowP 0 (adR Q P M a h2 Wd) sm)))]) (st1 := []) ⟨hx, hb, hml, hown, hts⟩ hT hP hD hS (k_X4_laySum l D cI cZ aO Q P M Wd aOw aDg aWk aSm aFo aBk fo ba le sf aIm aKp fOw fDg fWk sm 0 a h2 Wd hv (by decide) (by omega) (by omega)) gX4_turned_X4_laySum rfl rfl nd_X4_laySum [0, 1, 2, 3, 4] (by decide) rfl rfl rfl rfl (ci := 4) rfl rfl (q0 := 0) rfl hl.1 rfl rfl (Nat.le_of_ble_eq_true rfl) ⟨Nat.le_of_ble_eq_true rfl, Nat.le_of_ble_eq_true rfl⟩ ⟨rfl, rfl⟩ ⟨Nat.zero_le _, Nat.zero_le _⟩ dX4_turned_49 (fun H locs hP hD hS => ?_)
          refine lv_aload_n hx hb dX4_turned_52 rfl (lv_at hl 0 rfl) ?_
          refine lv_iconst (v := 1) hx hb dX4_turned_53 (by decide) ?_
          refine lv_iload_n hx hb dX4_turned_54 rfl (lv_at hl 2 rfl) ?_
          refine lv_iload_n hx hb dX4_turned_55 rfl (lv_at hl 3 rfl) ?_
          refine lv_aload_n hx hb dX4_turned_56 rfl (lv_at hl 0 rfl) ?_
          refine va_get (D := D) (ci := 4) (v := .int (nI Wd)) (C := RX4) (T := TX4) (N := 16) hx hb hts hi_X4_turned_X4 hown hT.1 hP 0 rfl rfl 3 (by decide) (hts (.fieldLink RX4 19 "SlotStarModel" "reach" "I") (List.mem_of_getElem? (i := 1) rfl)) (fun _ h9 => h9) rfl dX4_turned_57 ?_
          refine mu_V (As := [.int 1, .int b, .int (nI h2), .int (nI Wd)]) (rest := []) (W1 := [(aO, .inr (4, [.int (nI Q), .int (nI P), .int (nI M), .int (nI Wd), .ref aOw, .ref aDg, .ref aWk, .ref aSm, .ref aFo, .ref aBk, .int (nI fo), .int (nI ba), .int (nI le), .int (nI sf), .ref aIm, .ref aKp])), (aOw, .inl (cI, 2401, .inl (lO (tN Q P) (lO (tN Q P) fOw)))), (aDg, .inl (cI, 49, .inl (lD (tN Q P) (lD (tN Q P) fDg)))), (aWk, .inl (cI, 49, .inl (lW (tN Q P) (lW (tN Q P) fWk)))), (aSm, .inl (cI, 98, .inl (rowP 1 (adR Q P M b h2 Wd) (rowP 0 (adR Q P M a h2 Wd) sm))))]) (st1 := []) ⟨hx, hb, hml, hown, hts⟩ hT hP hD hS (k_X4_laySum l D cI cZ aO Q P M Wd aOw aDg aWk aSm aFo aBk fo ba le sf aIm aKp (lO (tN Q P) fOw) (lD (tN Q P) fDg) (lW (tN Q P) fWk) (rowP 0 (adR Q P M a h2 Wd) sm) 1 b h2 Wd hv (by decide) (by omega) (by omega)) gX4_turned_X4_laySum rfl rfl nd_X4_laySum [0, 1, 2, 3, 4] (by decide) rfl rfl rfl rfl (ci := 4) rfl rfl (q0 := 0) rfl hl.1 rfl rfl (Nat.le_of_ble_eq_true rfl) ⟨Nat.le_of_ble_eq_true rfl, Nat.le_of_ble_eq_true rfl⟩ ⟨rfl, rfl⟩ ⟨Nat.zero_le _, Nat.zero_le _⟩ dX4_turned_60 (fun H locs hP hD hS => ?_)
          have hP : va_P D cls5 [(aO, .inr (4, [.int (nI Q), .int (nI P), .int (nI M), .int (nI Wd), .ref aOw, .ref aDg, .ref aWk, .ref aSm, .ref aFo, .ref aBk, .int (nI fo), .int (nI ba), .int (nI le), .int (nI sf), .ref aIm, .ref aKp])), (aOw, .inl (cI, 2401, .inl (lO (tN Q P) (lO (tN Q P) fOw)))), (aDg, .inl (cI, 49, .inl (lD (tN Q P) (lD (tN Q P) fDg)))), (aWk, .inl (cI, 49, .inl (lW (tN Q P) (lW (tN Q P) fWk)))), (aSm, .inl (cI, 98, .inl (rowP 0 (adR Q P M a h2 Wd) (rowP 1 (adR Q P M b h2 Wd) sm))))] H := by rw [rowP_comm] at hP; exact hP
          have hD : va_D (va_M [(aO, .inr (4, [.int (nI Q), .int (nI P), .int (nI M), .int (nI Wd), .ref aOw, .ref aDg, .ref aWk, .ref aSm, .ref aFo, .ref aBk, .int (nI fo), .int (nI ba), .int (nI le), .int (nI sf), .ref aIm, .ref aKp])), (aOw, .inl (cI, 2401, .inl fOw)), (aDg, .inl (cI, 49, .inl fDg)), (aWk, .inl (cI, 49, .inl fWk)), (aSm, .inl (cI, 98, .inl sm))]) [(aO, .inr (4, [.int (nI Q), .int (nI P), .int (nI M), .int (nI Wd), .ref aOw, .ref aDg, .ref aWk, .ref aSm, .ref aFo, .ref aBk, .int (nI fo), .int (nI ba), .int (nI le), .int (nI sf), .ref aIm, .ref aKp])), (aOw, .inl (cI, 2401, .inl (lO (tN Q P) (lO (tN Q P) fOw)))), (aDg, .inl (cI, 49, .inl (lD (tN Q P) (lD (tN Q P) fDg)))), (aWk, .inl (cI, 49, .inl (lW (tN Q P) (lW (tN Q P) fWk)))), (aSm, .inl (cI, 98, .inl (rowP 0 (adR Q P M a h2 Wd) (rowP 1 (adR Q P M b h2 Wd) sm))))] := by rw [rowP_comm] at hD; exact hD
          refine lv_aload_n hx hb dX4_turned_63 rfl (lv_at hl 0 rfl) ?_
          refine ro_V (As := []) (rest := []) ⟨hx, hb, hml, hown, hts⟩ hT hP (k_X4_star l D cI cZ aO Q P M Wd aOw aDg aWk aSm aFo aBk fo ba le sf aIm aKp hv) gX4_turned_X4_star rfl rfl nd_X4_star [0] rfl (ci := 4) rfl rfl (q0 := 0) rfl hl.1 rfl rfl (Nat.le_of_ble_eq_true rfl) ⟨Nat.le_of_ble_eq_true rfl, Nat.le_of_ble_eq_true rfl⟩ ⟨rfl, rfl⟩ ⟨Nat.zero_le _, Nat.zero_le _⟩ dX4_turned_64 ?_
          refine lv_istore (lv' := [(4, .int (nI (tN Q P))), (0, .ref aO), (1, .int a), (2, .int b), (3, .int (nI h2))]) hx hb dX4_turned_67 hl (by decide) rfl (fun ls hl => ?_)
          refine lv_iconst (v := 0) hx hb dX4_turned_69 (by decide) ?_
          refine lv_istore (lv' := [(5, .int 0), (4, .int (nI (tN Q P))), (0, .ref aO), (1, .int a), (2, .int b), (3, .int (nI h2))]) hx hb dX4_turned_70 hl (by decide) rfl (fun ls hl => ?_)
          have L_72 : ∀ (f : Nat) (ee : Nat) (v : Nat → Int32), ee + f = tN Q P → hiZ (dgN (tN Q P)) v → sTur Q P M Wd a b (nI h2) = tuL (tN Q P) (adR Q P M b h2 Wd) f ee v → ∀ (H : Heap) (locs : List Loc), va_P D cls5 [(aO, .inr (4, [.int (nI Q), .int (nI P), .int (nI M), .int (nI Wd), .ref aOw, .ref aDg, .ref aWk, .ref aSm, .ref aFo, .ref aBk, .int (nI fo), .int (nI ba), .int (nI le), .int (nI sf), .ref aIm, .ref aKp])), (aOw, .inl (cI, 2401, .inl (lO (tN Q P) (lO (tN Q P) fOw)))), (aDg, .inl (cI, 49, .inl (lD (tN Q P) (lD (tN Q P) fDg)))), (aWk, .inl (cI, 49, .inl (lW (tN Q P) (lW (tN Q P) fWk)))), (aSm, .inl (cI, 98, .inl (rowP 0 v (rowP 1 (adR Q P M b h2 Wd) sm))))] H → va_D (va_M [(aO, .inr (4, [.int (nI Q), .int (nI P), .int (nI M), .int (nI Wd), .ref aOw, .ref aDg, .ref aWk, .ref aSm, .ref aFo, .ref aBk, .int (nI fo), .int (nI ba), .int (nI le), .int (nI sf), .ref aIm, .ref aKp])), (aOw, .inl (cI, 2401, .inl fOw)), (aDg, .inl (cI, 49, .inl fDg)), (aWk, .inl (cI, 49, .inl fWk)), (aSm, .inl (cI, 98, .inl sm))]) [(aO, .inr (4, [.int (nI Q), .int (nI P), .int (nI M), .int (nI Wd), .ref aOw, .ref aDg, .ref aWk, .ref aSm, .ref aFo, .ref aBk, .int (nI fo), .int (nI ba), .int (nI le), .int (nI sf), .ref aIm, .ref aKp])), (aOw, .inl (cI, 2401, .inl (lO (tN Q P) (lO (tN Q P) fOw)))), (aDg, .inl (cI, 49, .inl (lD (tN Q P) (lD (tN Q P) fDg)))), (aWk, .inl (cI, 49, .inl (lW (tN Q P) (lW (tN Q P) fWk)))), (aSm, .inl (cI, 98, .inl (rowP 0 v (rowP 1 (adR Q P M b h2 Wd) sm))))] → va_S (va_M [(aO, .inr (4, [.int (nI Q), .int (nI P), .int (nI M), .int (nI Wd), .ref aOw, .ref aDg, .ref aWk, .ref aSm, .ref aFo, .ref aBk, .int (nI fo), .int (nI ba), .int (nI le), .int (nI sf), .ref aIm, .ref aKp])), (aOw, .inl (cI, 2401, .inl fOw)), (aDg, .inl (cI, 49, .inl fDg)), (aWk, .inl (cI, 49, .inl fWk)), (aSm, .inl (cI, 98, .inl sm))]) s.heap H locs → ∀ ls : Array Slot, lv_has ls 8 [(0, .ref aO), (1, .int a), (2, .int b), (3, .int (nI h2)), (4, .int (nI (tN Q P))), (5, .int (nI ee))] → W p l e (headSpec wsX4_turned ({ frames := 6, cells := 0, slots := 0, locals := 135 } : Room)).room s m args below meth c H locs 0 0 (MQ below (QcE D [(aO, .inr (4, [.int (nI Q), .int (nI P), .int (nI M), .int (nI Wd), .ref aOw, .ref aDg, .ref aWk, .ref aSm, .ref aFo, .ref aBk, .int (nI fo), .int (nI ba), .int (nI le), .int (nI sf), .ref aIm, .ref aKp])), (aOw, .inl (cI, 2401, .inl fOw)), (aDg, .inl (cI, 49, .inl fDg)), (aWk, .inl (cI, 49, .inl fWk)), (aSm, .inl (cI, 98, .inl sm))] (some (.int (sTur Q P M Wd a b (nI h2)))) (fun z => ∃ (fOw' : Nat → Int32) (fDg' : Nat → Int32) (fWk' : Nat → Int32) (sm' : Nat → Int32), z = [(aO, .inr (4, [.int (nI Q), .int (nI P), .int (nI M), .int (nI Wd), .ref aOw, .ref aDg, .ref aWk, .ref aSm, .ref aFo, .ref aBk, .int (nI fo), .int (nI ba), .int (nI le), .int (nI sf), .ref aIm, .ref aKp])), (aOw, .inl (cI, 2401, .inl fOw')), (aDg, .inl (cI, 49, .inl fDg')), (aWk, .inl (cI, 49, .inl fWk')), (aSm, .inl (cI, 98, .inl sm'))])) args s 0 0 (va_M [(aO, .inr (4, [.int (nI Q), .int (nI P), .int (nI M), .int (nI Wd), .ref aOw, .ref aDg, .ref aWk, .ref aSm, .ref aFo, .ref aBk, .int (nI fo), .int (nI ba), .int (nI le), .int (nI sf), .ref aIm, .ref aKp])), (aOw, .inl (cI, 2401, .inl fOw)), (aDg, .inl (cI, 49, .inl fDg)), (aWk, .inl (cI, 49, .inl fWk)), (aSm, .inl (cI, 98, .inl sm))])) (F0 m 72 ls []) := by
            intro f
            induction f with
            | zero =>
              intro ee v h1 hz e1 H locs hP hD hS ls hl
              refine lv_iload hx hb dX4_turned_72 (lv_at hl 5 rfl) ?_
              refine lv_iload hx hb dX4_turned_74 (lv_at hl 4 rfl) ?_
              refine lv_icmp_ge (tgt := 201) hx hb dX4_turned_76 (by decide) (fun c_5 => ?_) (fun c_5 => ?_)
              · skip
                refine lv_bipush (v := (-6)) hx hb dX4_turned_201 (by decide) ?_
                exact me_ret hx hb hr hlocks dX4_turned_203 (hP) ⟨_, _, _, _, rfl⟩ hS (by rw [e1]; rfl)
              · exfalso; exact c_5 (nI_le (by omega) (by omega))
            | succ f ih_72 =>
              intro ee v h1 hz e1 H locs hP hD hS ls hl
              refine lv_iload hx hb dX4_turned_72 (lv_at hl 5 rfl) ?_
              refine lv_iload hx hb dX4_turned_74 (lv_at hl 4 rfl) ?_
              refine lv_icmp_ge (tgt := 201) hx hb dX4_turned_76 (by decide) (fun c_6 => ?_) (fun c_6 => ?_)
              · exfalso; exact nI_ge (show ee < tN Q P by omega) (by omega) c_6
              · skip
                refine lv_iconst (v := 1) hx hb dX4_turned_79 (by decide) ?_
                refine lv_istore (lv' := [(6, .int 1), (0, .ref aO), (1, .int a), (2, .int b), (3, .int (nI h2)), (4, .int (nI (tN Q P))), (5, .int (nI ee))]) hx hb dX4_turned_80 hl (by decide) rfl (fun ls hl => ?_)
                refine lv_iconst (v := 0) hx hb dX4_turned_82 (by decide) ?_
                refine lv_istore (lv' := [(7, .int 0), (6, .int 1), (0, .ref aO), (1, .int a), (2, .int b), (3, .int (nI h2)), (4, .int (nI (tN Q P))), (5, .int (nI ee))]) hx hb dX4_turned_83 hl (by decide) rfl (fun ls hl => ?_)
                have L_85 : ∀ (f2 : Nat) (i : Nat) (bb : Int32), i + f2 = 49 → cmL v (adR Q P M b h2 Wd) 49 0 1 = cmL v (adR Q P M b h2 Wd) f2 i bb → ∀ (H : Heap) (locs : List Loc), va_P D cls5 [(aO, .inr (4, [.int (nI Q), .int (nI P), .int (nI M), .int (nI Wd), .ref aOw, .ref aDg, .ref aWk, .ref aSm, .ref aFo, .ref aBk, .int (nI fo), .int (nI ba), .int (nI le), .int (nI sf), .ref aIm, .ref aKp])), (aOw, .inl (cI, 2401, .inl (lO (tN Q P) (lO (tN Q P) fOw)))), (aDg, .inl (cI, 49, .inl (lD (tN Q P) (lD (tN Q P) fDg)))), (aWk, .inl (cI, 49, .inl (lW (tN Q P) (lW (tN Q P) fWk)))), (aSm, .inl (cI, 98, .inl (rowP 0 v (rowP 1 (adR Q P M b h2 Wd) sm))))] H → va_D (va_M [(aO, .inr (4, [.int (nI Q), .int (nI P), .int (nI M), .int (nI Wd), .ref aOw, .ref aDg, .ref aWk, .ref aSm, .ref aFo, .ref aBk, .int (nI fo), .int (nI ba), .int (nI le), .int (nI sf), .ref aIm, .ref aKp])), (aOw, .inl (cI, 2401, .inl fOw)), (aDg, .inl (cI, 49, .inl fDg)), (aWk, .inl (cI, 49, .inl fWk)), (aSm, .inl (cI, 98, .inl sm))]) [(aO, .inr (4, [.int (nI Q), .int (nI P), .int (nI M), .int (nI Wd), .ref aOw, .ref aDg, .ref aWk, .ref aSm, .ref aFo, .ref aBk, .int (nI fo), .int (nI ba), .int (nI le), .int (nI sf), .ref aIm, .ref aKp])), (aOw, .inl (cI, 2401, .inl (lO (tN Q P) (lO (tN Q P) fOw)))), (aDg, .inl (cI, 49, .inl (lD (tN Q P) (lD (tN Q P) fDg)))), (aWk, .inl (cI, 49, .inl (lW (tN Q P) (lW (tN Q P) fWk)))), (aSm, .inl (cI, 98, .inl (rowP 0 v (rowP 1 (adR Q P M b h2 Wd) sm))))] → va_S (va_M [(aO, .inr (4, [.int (nI Q), .int (nI P), .int (nI M), .int (nI Wd), .ref aOw, .ref aDg, .ref aWk, .ref aSm, .ref aFo, .ref aBk, .int (nI fo), .int (nI ba), .int (nI le), .int (nI sf), .ref aIm, .ref aKp])), (aOw, .inl (cI, 2401, .inl fOw)), (aDg, .inl (cI, 49, .inl fDg)), (aWk, .inl (cI, 49, .inl fWk)), (aSm, .inl (cI, 98, .inl sm))]) s.heap H locs → ∀ ls : Array Slot, lv_has ls 8 [(0, .ref aO), (1, .int a), (2, .int b), (3, .int (nI h2)), (4, .int (nI (tN Q P))), (5, .int (nI ee)), (6, .int bb), (7, .int (nI i))] → W p l e (headSpec wsX4_turned ({ frames := 6, cells := 0, slots := 0, locals := 135 } : Room)).room s m args below meth c H locs 0 0 (MQ below (QcE D [(aO, .inr (4, [.int (nI Q), .int (nI P), .int (nI M), .int (nI Wd), .ref aOw, .ref aDg, .ref aWk, .ref aSm, .ref aFo, .ref aBk, .int (nI fo), .int (nI ba), .int (nI le), .int (nI sf), .ref aIm, .ref aKp])), (aOw, .inl (cI, 2401, .inl fOw)), (aDg, .inl (cI, 49, .inl fDg)), (aWk, .inl (cI, 49, .inl fWk)), (aSm, .inl (cI, 98, .inl sm))] (some (.int (sTur Q P M Wd a b (nI h2)))) (fun z => ∃ (fOw' : Nat → Int32) (fDg' : Nat → Int32) (fWk' : Nat → Int32) (sm' : Nat → Int32), z = [(aO, .inr (4, [.int (nI Q), .int (nI P), .int (nI M), .int (nI Wd), .ref aOw, .ref aDg, .ref aWk, .ref aSm, .ref aFo, .ref aBk, .int (nI fo), .int (nI ba), .int (nI le), .int (nI sf), .ref aIm, .ref aKp])), (aOw, .inl (cI, 2401, .inl fOw')), (aDg, .inl (cI, 49, .inl fDg')), (aWk, .inl (cI, 49, .inl fWk')), (aSm, .inl (cI, 98, .inl sm'))])) args s 0 0 (va_M [(aO, .inr (4, [.int (nI Q), .int (nI P), .int (nI M), .int (nI Wd), .ref aOw, .ref aDg, .ref aWk, .ref aSm, .ref aFo, .ref aBk, .int (nI fo), .int (nI ba), .int (nI le), .int (nI sf), .ref aIm, .ref aKp])), (aOw, .inl (cI, 2401, .inl fOw)), (aDg, .inl (cI, 49, .inl fDg)), (aWk, .inl (cI, 49, .inl fWk)), (aSm, .inl (cI, 98, .inl sm))])) (F0 m 85 ls []) := by
                  intro f2
                  induction f2 with
                  | zero =>
                    intro i bb h5 h4 H locs hP hD hS ls hl
                    refine lv_iload hx hb dX4_turned_85 (lv_at hl 7 rfl) ?_
                    refine lv_bipush (v := 49) hx hb dX4_turned_87 (by decide) ?_
                    refine lv_icmp_ge (tgt := 130) hx hb dX4_turned_89 (by decide) (fun c_7 => ?_) (fun c_7 => ?_)
                    · skip
                      refine lv_iload hx hb dX4_turned_130 (lv_at hl 6 rfl) ?_
                      refine lv_if_eq (tgt := 138) hx hb dX4_turned_132 (by decide) (fun c_8 => ?_) (fun c_8 => ?_)
                      · skip
                        have hs : smL v (adR Q P M b h2 Wd) (dgN (tN Q P)) 0 = 0 := by rw [← m_same (by omega) hz hzb, h4]; exact c_8
                        refine lv_iload hx hb dX4_turned_138 (lv_at hl 4 rfl) ?_
                        refine lv_istore (lv' := [(7, .int (nI (tN Q P))), (0, .ref aO), (1, .int a), (2, .int b), (3, .int (nI h2)), (4, .int (nI (tN Q P))), (5, .int (nI ee)), (6, .int bb)]) hx hb dX4_turned_140 hl (by decide) rfl (fun ls hl => ?_)
                        have L_142 : ∀ (i : Nat) (u : Nat → Int32), i ≤ tN Q P → swL (tN Q P) v = swL i u → ∀ (H : Heap) (locs : List Loc), va_P D cls5 [(aO, .inr (4, [.int (nI Q), .int (nI P), .int (nI M), .int (nI Wd), .ref aOw, .ref aDg, .ref aWk, .ref aSm, .ref aFo, .ref aBk, .int (nI fo), .int (nI ba), .int (nI le), .int (nI sf), .ref aIm, .ref aKp])), (aOw, .inl (cI, 2401, .inl (lO (tN Q P) (lO (tN Q P) fOw)))), (aDg, .inl (cI, 49, .inl (lD (tN Q P) (lD (tN Q P) fDg)))), (aWk, .inl (cI, 49, .inl (lW (tN Q P) (lW (tN Q P) fWk)))), (aSm, .inl (cI, 98, .inl (rowP 0 u (rowP 1 (adR Q P M b h2 Wd) sm))))] H → va_D (va_M [(aO, .inr (4, [.int (nI Q), .int (nI P), .int (nI M), .int (nI Wd), .ref aOw, .ref aDg, .ref aWk, .ref aSm, .ref aFo, .ref aBk, .int (nI fo), .int (nI ba), .int (nI le), .int (nI sf), .ref aIm, .ref aKp])), (aOw, .inl (cI, 2401, .inl fOw)), (aDg, .inl (cI, 49, .inl fDg)), (aWk, .inl (cI, 49, .inl fWk)), (aSm, .inl (cI, 98, .inl sm))]) [(aO, .inr (4, [.int (nI Q), .int (nI P), .int (nI M), .int (nI Wd), .ref aOw, .ref aDg, .ref aWk, .ref aSm, .ref aFo, .ref aBk, .int (nI fo), .int (nI ba), .int (nI le), .int (nI sf), .ref aIm, .ref aKp])), (aOw, .inl (cI, 2401, .inl (lO (tN Q P) (lO (tN Q P) fOw)))), (aDg, .inl (cI, 49, .inl (lD (tN Q P) (lD (tN Q P) fDg)))), (aWk, .inl (cI, 49, .inl (lW (tN Q P) (lW (tN Q P) fWk)))), (aSm, .inl (cI, 98, .inl (rowP 0 u (rowP 1 (adR Q P M b h2 Wd) sm))))] → va_S (va_M [(aO, .inr (4, [.int (nI Q), .int (nI P), .int (nI M), .int (nI Wd), .ref aOw, .ref aDg, .ref aWk, .ref aSm, .ref aFo, .ref aBk, .int (nI fo), .int (nI ba), .int (nI le), .int (nI sf), .ref aIm, .ref aKp])), (aOw, .inl (cI, 2401, .inl fOw)), (aDg, .inl (cI, 49, .inl fDg)), (aWk, .inl (cI, 49, .inl fWk)), (aSm, .inl (cI, 98, .inl sm))]) s.heap H locs → ∀ ls : Array Slot, lv_has ls 8 [(0, .ref aO), (1, .int a), (2, .int b), (3, .int (nI h2)), (4, .int (nI (tN Q P))), (5, .int (nI ee)), (6, .int bb), (7, .int (nI i))] → W p l e (headSpec wsX4_turned ({ frames := 6, cells := 0, slots := 0, locals := 135 } : Room)).room s m args below meth c H locs 0 0 (MQ below (QcE D [(aO, .inr (4, [.int (nI Q), .int (nI P), .int (nI M), .int (nI Wd), .ref aOw, .ref aDg, .ref aWk, .ref aSm, .ref aFo, .ref aBk, .int (nI fo), .int (nI ba), .int (nI le), .int (nI sf), .ref aIm, .ref aKp])), (aOw, .inl (cI, 2401, .inl fOw)), (aDg, .inl (cI, 49, .inl fDg)), (aWk, .inl (cI, 49, .inl fWk)), (aSm, .inl (cI, 98, .inl sm))] (some (.int (sTur Q P M Wd a b (nI h2)))) (fun z => ∃ (fOw' : Nat → Int32) (fDg' : Nat → Int32) (fWk' : Nat → Int32) (sm' : Nat → Int32), z = [(aO, .inr (4, [.int (nI Q), .int (nI P), .int (nI M), .int (nI Wd), .ref aOw, .ref aDg, .ref aWk, .ref aSm, .ref aFo, .ref aBk, .int (nI fo), .int (nI ba), .int (nI le), .int (nI sf), .ref aIm, .ref aKp])), (aOw, .inl (cI, 2401, .inl fOw')), (aDg, .inl (cI, 49, .inl fDg')), (aWk, .inl (cI, 49, .inl fWk')), (aSm, .inl (cI, 98, .inl sm'))])) args s 0 0 (va_M [(aO, .inr (4, [.int (nI Q), .int (nI P), .int (nI M), .int (nI Wd), .ref aOw, .ref aDg, .ref aWk, .ref aSm, .ref aFo, .ref aBk, .int (nI fo), .int (nI ba), .int (nI le), .int (nI sf), .ref aIm, .ref aKp])), (aOw, .inl (cI, 2401, .inl fOw)), (aDg, .inl (cI, 49, .inl fDg)), (aWk, .inl (cI, 49, .inl fWk)), (aSm, .inl (cI, 98, .inl sm))])) (F0 m 142 ls []) := by
                          intro i
                          induction i with
                          | zero =>
                            intro u h3 h6 H locs hP hD hS ls hl
                            refine lv_iload hx hb dX4_turned_142 (lv_at hl 7 rfl) ?_
                            refine lv_if_le (tgt := 169) hx hb dX4_turned_144 (by decide) (fun c_9 => ?_) (fun c_9 => ?_)
                            · skip
                              refine lv_aload_n hx hb dX4_turned_169 rfl (lv_at hl 0 rfl) ?_
                              refine va_get (D := D) (ci := 4) (v := .ref aSm) (C := RX4) (T := TX4) (N := 16) hx hb hts hi_X4_turned_X4 hown hT.1 hP 0 rfl rfl 7 (by decide) (hts (.fieldLink RX4 32 "SlotStarModel" "sum" "[I") (List.mem_of_getElem? (i := 2) rfl)) (fun _ h9 => h9) rfl dX4_turned_170 ?_
                              refine lv_iconst (v := 0) hx hb dX4_turned_173 (by decide) ?_
                              refine lv_aload_n hx hb dX4_turned_174 rfl (lv_at hl 0 rfl) ?_
                              refine va_get (D := D) (ci := 4) (v := .ref aSm) (C := RX4) (T := TX4) (N := 16) hx hb hts hi_X4_turned_X4 hown hT.1 hP 0 rfl rfl 7 (by decide) (hts (.fieldLink RX4 32 "SlotStarModel" "sum" "[I") (List.mem_of_getElem? (i := 2) rfl)) (fun _ h9 => h9) rfl dX4_turned_175 ?_
                              refine lv_iload hx hb dX4_turned_178 (lv_at hl 4 rfl) ?_
                              refine ld_i hx hb hT hP 4 rfl dX4_turned_180 (k := (tN Q P)) rfl (by omega) (by decide) ?_
                              refine top_eq (z := (u (tN Q P))) (by exact rowP0 (by omega)) ?_
                              refine st_i hx hb hT hP hD hS 4 rfl dX4_turned_181 (k := 0) (W1 := [(aO, .inr (4, [.int (nI Q), .int (nI P), .int (nI M), .int (nI Wd), .ref aOw, .ref aDg, .ref aWk, .ref aSm, .ref aFo, .ref aBk, .int (nI fo), .int (nI ba), .int (nI le), .int (nI sf), .ref aIm, .ref aKp])), (aOw, .inl (cI, 2401, .inl (lO (tN Q P) (lO (tN Q P) fOw)))), (aDg, .inl (cI, 49, .inl (lD (tN Q P) (lD (tN Q P) fDg)))), (aWk, .inl (cI, 49, .inl (lW (tN Q P) (lW (tN Q P) fWk)))), (aSm, .inl (cI, 98, .inl (upd (rowP 0 u (rowP 1 (adR Q P M b h2 Wd) sm)) 0 (u (tN Q P)))))]) rfl (by decide) (by decide) rfl (fun H locs hP hD hS => ?_)
                              have hP : va_P D cls5 [(aO, .inr (4, [.int (nI Q), .int (nI P), .int (nI M), .int (nI Wd), .ref aOw, .ref aDg, .ref aWk, .ref aSm, .ref aFo, .ref aBk, .int (nI fo), .int (nI ba), .int (nI le), .int (nI sf), .ref aIm, .ref aKp])), (aOw, .inl (cI, 2401, .inl (lO (tN Q P) (lO (tN Q P) fOw)))), (aDg, .inl (cI, 49, .inl (lD (tN Q P) (lD (tN Q P) fDg)))), (aWk, .inl (cI, 49, .inl (lW (tN Q P) (lW (tN Q P) fWk)))), (aSm, .inl (cI, 98, .inl (rowP 0 (upd u 0 (u (tN Q P))) (rowP 1 (adR Q P M b h2 Wd) sm))))] H := by rw [rowP0_upd (by omega)] at hP; exact hP
                              have hD : va_D (va_M [(aO, .inr (4, [.int (nI Q), .int (nI P), .int (nI M), .int (nI Wd), .ref aOw, .ref aDg, .ref aWk, .ref aSm, .ref aFo, .ref aBk, .int (nI fo), .int (nI ba), .int (nI le), .int (nI sf), .ref aIm, .ref aKp])), (aOw, .inl (cI, 2401, .inl fOw)), (aDg, .inl (cI, 49, .inl fDg)), (aWk, .inl (cI, 49, .inl fWk)), (aSm, .inl (cI, 98, .inl sm))]) [(aO, .inr (4, [.int (nI Q), .int (nI P), .int (nI M), .int (nI Wd), .ref aOw, .ref aDg, .ref aWk, .ref aSm, .ref aFo, .ref aBk, .int (nI fo), .int (nI ba), .int (nI le), .int (nI sf), .ref aIm, .ref aKp])), (aOw, .inl (cI, 2401, .inl (lO (tN Q P) (lO (tN Q P) fOw)))), (aDg, .inl (cI, 49, .inl (lD (tN Q P) (lD (tN Q P) fDg)))), (aWk, .inl (cI, 49, .inl (lW (tN Q P) (lW (tN Q P) fWk)))), (aSm, .inl (cI, 98, .inl (rowP 0 (upd u 0 (u (tN Q P))) (rowP 1 (adR Q P M b h2 Wd) sm))))] := by rw [rowP0_upd (by omega)] at hD; exact hD
                              refine lv_aload_n hx hb dX4_turned_182 rfl (lv_at hl 0 rfl) ?_
                              refine va_get (D := D) (ci := 4) (v := .ref aSm) (C := RX4) (T := TX4) (N := 16) hx hb hts hi_X4_turned_X4 hown hT.1 hP 0 rfl rfl 7 (by decide) (hts (.fieldLink RX4 32 "SlotStarModel" "sum" "[I") (List.mem_of_getElem? (i := 2) rfl)) (fun _ h9 => h9) rfl dX4_turned_183 ?_
                              refine lv_iload hx hb dX4_turned_186 (lv_at hl 4 rfl) ?_
                              refine lv_iconst (v := 0) hx hb dX4_turned_188 (by decide) ?_
                              refine st_i hx hb hT hP hD hS 4 rfl dX4_turned_189 (k := (tN Q P)) (W1 := [(aO, .inr (4, [.int (nI Q), .int (nI P), .int (nI M), .int (nI Wd), .ref aOw, .ref aDg, .ref aWk, .ref aSm, .ref aFo, .ref aBk, .int (nI fo), .int (nI ba), .int (nI le), .int (nI sf), .ref aIm, .ref aKp])), (aOw, .inl (cI, 2401, .inl (lO (tN Q P) (lO (tN Q P) fOw)))), (aDg, .inl (cI, 49, .inl (lD (tN Q P) (lD (tN Q P) fDg)))), (aWk, .inl (cI, 49, .inl (lW (tN Q P) (lW (tN Q P) fWk)))), (aSm, .inl (cI, 98, .inl (upd (rowP 0 (upd u 0 (u (tN Q P))) (rowP 1 (adR Q P M b h2 Wd) sm)) (tN Q P) 0)))]) rfl (by omega) (by decide) rfl (fun H locs hP hD hS => ?_)
                              have hP : va_P D cls5 [(aO, .inr (4, [.int (nI Q), .int (nI P), .int (nI M), .int (nI Wd), .ref aOw, .ref aDg, .ref aWk, .ref aSm, .ref aFo, .ref aBk, .int (nI fo), .int (nI ba), .int (nI le), .int (nI sf), .ref aIm, .ref aKp])), (aOw, .inl (cI, 2401, .inl (lO (tN Q P) (lO (tN Q P) fOw)))), (aDg, .inl (cI, 49, .inl (lD (tN Q P) (lD (tN Q P) fDg)))), (aWk, .inl (cI, 49, .inl (lW (tN Q P) (lW (tN Q P) fWk)))), (aSm, .inl (cI, 98, .inl (rowP 0 (upd (upd u 0 (u (tN Q P))) (tN Q P) 0) (rowP 1 (adR Q P M b h2 Wd) sm))))] H := by rw [rowP0_upd (by omega)] at hP; exact hP
                              have hD : va_D (va_M [(aO, .inr (4, [.int (nI Q), .int (nI P), .int (nI M), .int (nI Wd), .ref aOw, .ref aDg, .ref aWk, .ref aSm, .ref aFo, .ref aBk, .int (nI fo), .int (nI ba), .int (nI le), .int (nI sf), .ref aIm, .ref aKp])), (aOw, .inl (cI, 2401, .inl fOw)), (aDg, .inl (cI, 49, .inl fDg)), (aWk, .inl (cI, 49, .inl fWk)), (aSm, .inl (cI, 98, .inl sm))]) [(aO, .inr (4, [.int (nI Q), .int (nI P), .int (nI M), .int (nI Wd), .ref aOw, .ref aDg, .ref aWk, .ref aSm, .ref aFo, .ref aBk, .int (nI fo), .int (nI ba), .int (nI le), .int (nI sf), .ref aIm, .ref aKp])), (aOw, .inl (cI, 2401, .inl (lO (tN Q P) (lO (tN Q P) fOw)))), (aDg, .inl (cI, 49, .inl (lD (tN Q P) (lD (tN Q P) fDg)))), (aWk, .inl (cI, 49, .inl (lW (tN Q P) (lW (tN Q P) fWk)))), (aSm, .inl (cI, 98, .inl (rowP 0 (upd (upd u 0 (u (tN Q P))) (tN Q P) 0) (rowP 1 (adR Q P M b h2 Wd) sm))))] := by rw [rowP0_upd (by omega)] at hD; exact hD
                              refine lv_aload_n hx hb dX4_turned_190 rfl (lv_at hl 0 rfl) ?_
                              refine lv_iconst (v := 0) hx hb dX4_turned_191 (by decide) ?_
                              refine mu_V (As := [.int 0]) (rest := []) (W1 := [(aO, .inr (4, [.int (nI Q), .int (nI P), .int (nI M), .int (nI Wd), .ref aOw, .ref aDg, .ref aWk, .ref aSm, .ref aFo, .ref aBk, .int (nI fo), .int (nI ba), .int (nI le), .int (nI sf), .ref aIm, .ref aKp])), (aOw, .inl (cI, 2401, .inl (lO (tN Q P) (lO (tN Q P) fOw)))), (aDg, .inl (cI, 49, .inl (lD (tN Q P) (lD (tN Q P) fDg)))), (aWk, .inl (cI, 49, .inl (lW (tN Q P) (lW (tN Q P) fWk)))), (aSm, .inl (cI, 98, .inl (rowP 0 (rdO (cyR (tN Q P)) (dgN (tN Q P)) (tN Q P - dgN (tN Q P)) (tN Q P - 1) (upd (upd u 0 (u (tN Q P))) (tN Q P) 0)) (rowP 1 (adR Q P M b h2 Wd) sm))))]) (st1 := []) ⟨hx, hb, hml, hown, hts⟩ hT hP hD hS (k_X4_leaveOver l D cI cZ aO Q P M Wd aOw aDg aWk aSm aFo aBk fo ba le sf aIm aKp (lO (tN Q P) (lO (tN Q P) fOw)) (lD (tN Q P) (lD (tN Q P) fDg)) 0 (upd (upd u 0 (u (tN Q P))) (tN Q P) 0) (rowP 1 (adR Q P M b h2 Wd) sm) hv (by decide) (rowOk_n hn0 _ _)) gX4_turned_X4_leaveOver rfl rfl nd_X4_leaveOver [0, 1, 2, 4] (by decide) rfl rfl rfl rfl (ci := 4) rfl rfl (q0 := 0) rfl hl.1 rfl rfl (Nat.le_of_ble_eq_true rfl) ⟨Nat.le_of_ble_eq_true rfl, Nat.le_of_ble_eq_true rfl⟩ ⟨rfl, rfl⟩ ⟨Nat.zero_le _, Nat.zero_le _⟩ dX4_turned_192 (fun H locs hP hD hS => ?_)
                              have hP : va_P D cls5 [(aO, .inr (4, [.int (nI Q), .int (nI P), .int (nI M), .int (nI Wd), .ref aOw, .ref aDg, .ref aWk, .ref aSm, .ref aFo, .ref aBk, .int (nI fo), .int (nI ba), .int (nI le), .int (nI sf), .ref aIm, .ref aKp])), (aOw, .inl (cI, 2401, .inl (lO (tN Q P) (lO (tN Q P) fOw)))), (aDg, .inl (cI, 49, .inl (lD (tN Q P) (lD (tN Q P) fDg)))), (aWk, .inl (cI, 49, .inl (lW (tN Q P) (lW (tN Q P) fWk)))), (aSm, .inl (cI, 98, .inl (rowP 0 (rmx (cyR (tN Q P)) (dgN (tN Q P)) v) (rowP 1 (adR Q P M b h2 Wd) sm))))] _ := arr_eq hP 4 rfl (fun j hj => rowP_congr (fun x hx9 => by have hu : u = swL (tN Q P) v := h6.symm; rw [hu]; exact m_turn (cyc_top _ hn0 hn1) hd0 hdn hn1 hz x hx9) j) rfl
                              have hD : va_D (va_M [(aO, .inr (4, [.int (nI Q), .int (nI P), .int (nI M), .int (nI Wd), .ref aOw, .ref aDg, .ref aWk, .ref aSm, .ref aFo, .ref aBk, .int (nI fo), .int (nI ba), .int (nI le), .int (nI sf), .ref aIm, .ref aKp])), (aOw, .inl (cI, 2401, .inl fOw)), (aDg, .inl (cI, 49, .inl fDg)), (aWk, .inl (cI, 49, .inl fWk)), (aSm, .inl (cI, 98, .inl sm))]) [(aO, .inr (4, [.int (nI Q), .int (nI P), .int (nI M), .int (nI Wd), .ref aOw, .ref aDg, .ref aWk, .ref aSm, .ref aFo, .ref aBk, .int (nI fo), .int (nI ba), .int (nI le), .int (nI sf), .ref aIm, .ref aKp])), (aOw, .inl (cI, 2401, .inl (lO (tN Q P) (lO (tN Q P) fOw)))), (aDg, .inl (cI, 49, .inl (lD (tN Q P) (lD (tN Q P) fDg)))), (aWk, .inl (cI, 49, .inl (lW (tN Q P) (lW (tN Q P) fWk)))), (aSm, .inl (cI, 98, .inl (rowP 0 (rmx (cyR (tN Q P)) (dgN (tN Q P)) v) (rowP 1 (adR Q P M b h2 Wd) sm))))] := hD.set (p := 4) rfl
                              refine lv_iinc (v := nI (ee + 1)) (lv' := [(5, .int (nI (ee + 1))), (0, .ref aO), (1, .int a), (2, .int b), (3, .int (nI h2)), (4, .int (nI (tN Q P))), (6, .int bb), (7, .int (nI 0))]) hx hb dX4_turned_195 hl (k := 5) rfl ((nI_succ ee).symm) (by decide) rfl (fun ls hl => ?_)
                              refine lv_goto (tgt := 72) hx hb dX4_turned_198 (by decide) ?_
                              exact ih_72 (ee + 1) _ (by omega) (rmx_hi hd0 hz) (by rw [e1]; simp [tuL, hs]) _ _ hP hD hS ls (lv_sub hl [1, 2, 3, 4, 5, 0] rfl)
                            · exfalso; exact c_9 (by decide)
                          | succ i ih_142 =>
                            intro u h3 h6 H locs hP hD hS ls hl
                            refine lv_iload hx hb dX4_turned_142 (lv_at hl 7 rfl) ?_
                            refine lv_if_le (tgt := 169) hx hb dX4_turned_144 (by decide) (fun c_10 => ?_) (fun c_10 => ?_)
                            · exfalso; exact nI_nle (by omega) (by omega) c_10
                            · skip
                              refine lv_aload_n hx hb dX4_turned_147 rfl (lv_at hl 0 rfl) ?_
                              refine va_get (D := D) (ci := 4) (v := .ref aSm) (C := RX4) (T := TX4) (N := 16) hx hb hts hi_X4_turned_X4 hown hT.1 hP 0 rfl rfl 7 (by decide) (hts (.fieldLink RX4 32 "SlotStarModel" "sum" "[I") (List.mem_of_getElem? (i := 2) rfl)) (fun _ h9 => h9) rfl dX4_turned_148 ?_
                              refine lv_iload hx hb dX4_turned_151 (lv_at hl 7 rfl) ?_
                              refine lv_aload_n hx hb dX4_turned_153 rfl (lv_at hl 0 rfl) ?_
                              refine va_get (D := D) (ci := 4) (v := .ref aSm) (C := RX4) (T := TX4) (N := 16) hx hb hts hi_X4_turned_X4 hown hT.1 hP 0 rfl rfl 7 (by decide) (hts (.fieldLink RX4 32 "SlotStarModel" "sum" "[I") (List.mem_of_getElem? (i := 2) rfl)) (fun _ h9 => h9) rfl dX4_turned_154 ?_
                              refine lv_iload hx hb dX4_turned_157 (lv_at hl 7 rfl) ?_
                              refine lv_iconst (v := 1) hx hb dX4_turned_159 (by decide) ?_
                              refine lv_isub hx hb dX4_turned_160 ?_
                              refine top_eq (z := (nI i)) (by exact nI_pred i) ?_
                              refine ld_i hx hb hT hP 4 rfl dX4_turned_161 (k := i) rfl (by omega) (by decide) ?_
                              refine top_eq (z := (u i)) (by exact rowP0 (by omega)) ?_
                              refine st_i hx hb hT hP hD hS 4 rfl dX4_turned_162 (k := (i + 1)) (W1 := [(aO, .inr (4, [.int (nI Q), .int (nI P), .int (nI M), .int (nI Wd), .ref aOw, .ref aDg, .ref aWk, .ref aSm, .ref aFo, .ref aBk, .int (nI fo), .int (nI ba), .int (nI le), .int (nI sf), .ref aIm, .ref aKp])), (aOw, .inl (cI, 2401, .inl (lO (tN Q P) (lO (tN Q P) fOw)))), (aDg, .inl (cI, 49, .inl (lD (tN Q P) (lD (tN Q P) fDg)))), (aWk, .inl (cI, 49, .inl (lW (tN Q P) (lW (tN Q P) fWk)))), (aSm, .inl (cI, 98, .inl (upd (rowP 0 u (rowP 1 (adR Q P M b h2 Wd) sm)) (i + 1) (u i))))]) rfl (by omega) (by decide) rfl (fun H locs hP hD hS => ?_)
                              have hP : va_P D cls5 [(aO, .inr (4, [.int (nI Q), .int (nI P), .int (nI M), .int (nI Wd), .ref aOw, .ref aDg, .ref aWk, .ref aSm, .ref aFo, .ref aBk, .int (nI fo), .int (nI ba), .int (nI le), .int (nI sf), .ref aIm, .ref aKp])), (aOw, .inl (cI, 2401, .inl (lO (tN Q P) (lO (tN Q P) fOw)))), (aDg, .inl (cI, 49, .inl (lD (tN Q P) (lD (tN Q P) fDg)))), (aWk, .inl (cI, 49, .inl (lW (tN Q P) (lW (tN Q P) fWk)))), (aSm, .inl (cI, 98, .inl (rowP 0 (upd u (i + 1) (u i)) (rowP 1 (adR Q P M b h2 Wd) sm))))] H := by rw [rowP0_upd (by omega)] at hP; exact hP
                              have hD : va_D (va_M [(aO, .inr (4, [.int (nI Q), .int (nI P), .int (nI M), .int (nI Wd), .ref aOw, .ref aDg, .ref aWk, .ref aSm, .ref aFo, .ref aBk, .int (nI fo), .int (nI ba), .int (nI le), .int (nI sf), .ref aIm, .ref aKp])), (aOw, .inl (cI, 2401, .inl fOw)), (aDg, .inl (cI, 49, .inl fDg)), (aWk, .inl (cI, 49, .inl fWk)), (aSm, .inl (cI, 98, .inl sm))]) [(aO, .inr (4, [.int (nI Q), .int (nI P), .int (nI M), .int (nI Wd), .ref aOw, .ref aDg, .ref aWk, .ref aSm, .ref aFo, .ref aBk, .int (nI fo), .int (nI ba), .int (nI le), .int (nI sf), .ref aIm, .ref aKp])), (aOw, .inl (cI, 2401, .inl (lO (tN Q P) (lO (tN Q P) fOw)))), (aDg, .inl (cI, 49, .inl (lD (tN Q P) (lD (tN Q P) fDg)))), (aWk, .inl (cI, 49, .inl (lW (tN Q P) (lW (tN Q P) fWk)))), (aSm, .inl (cI, 98, .inl (rowP 0 (upd u (i + 1) (u i)) (rowP 1 (adR Q P M b h2 Wd) sm))))] := by rw [rowP0_upd (by omega)] at hD; exact hD
                              refine lv_iinc (v := nI i) (lv' := [(7, .int (nI i)), (0, .ref aO), (1, .int a), (2, .int b), (3, .int (nI h2)), (4, .int (nI (tN Q P))), (5, .int (nI ee)), (6, .int bb)]) hx hb dX4_turned_163 hl (k := 7) rfl (pk_m1 i) (by decide) rfl (fun ls hl => ?_)
                              refine lv_goto (tgt := 142) hx hb dX4_turned_166 (by decide) ?_
                              exact ih_142 _ (by omega) (by rw [h6]; rfl) _ _ hP hD hS ls (lv_sub hl [1, 2, 3, 4, 5, 6, 7, 0] rfl)
                        exact L_142 (tN Q P) v (Nat.le_refl _) rfl _ _ hP hD hS ls (lv_sub hl [1, 2, 3, 4, 5, 6, 7, 0] rfl)
                      · skip
                        have hs : ¬ smL v (adR Q P M b h2 Wd) (dgN (tN Q P)) 0 = 0 := by rw [← m_same (by omega) hz hzb, h4]; exact c_8
                        refine lv_iload hx hb dX4_turned_135 (lv_at hl 5 rfl) ?_
                        exact me_ret hx hb hr hlocks dX4_turned_137 (hP) ⟨_, _, _, _, rfl⟩ hS (by rw [e1]; simp [tuL, hs])
                    · exfalso; exact c_7 (by rw [show i = 49 by omega]; decide)
                  | succ f2 ih_85 =>
                    intro i bb h5 h4 H locs hP hD hS ls hl
                    refine lv_iload hx hb dX4_turned_85 (lv_at hl 7 rfl) ?_
                    refine lv_bipush (v := 49) hx hb dX4_turned_87 (by decide) ?_
                    refine lv_icmp_ge (tgt := 130) hx hb dX4_turned_89 (by decide) (fun c_11 => ?_) (fun c_11 => ?_)
                    · exfalso; exact nI_ge (b := 49) (show i < 49 by omega) (by decide) c_11
                    · skip
                      refine lv_iload hx hb dX4_turned_92 (lv_at hl 6 rfl) ?_
                      refine lv_if_eq (tgt := 121) hx hb dX4_turned_94 (by decide) (fun c_12 => ?_) (fun c_12 => ?_)
                      · skip
                        refine lv_iconst (v := 0) hx hb dX4_turned_121 (by decide) ?_
                        refine lv_istore (lv' := [(6, .int 0), (0, .ref aO), (1, .int a), (2, .int b), (3, .int (nI h2)), (4, .int (nI (tN Q P))), (5, .int (nI ee)), (7, .int (nI i))]) hx hb dX4_turned_122 hl (by decide) rfl (fun ls hl => ?_)
                        refine lv_iinc (v := nI (i + 1)) (lv' := [(7, .int (nI (i + 1))), (6, .int 0), (0, .ref aO), (1, .int a), (2, .int b), (3, .int (nI h2)), (4, .int (nI (tN Q P))), (5, .int (nI ee))]) hx hb dX4_turned_124 hl (k := 7) rfl ((nI_succ i).symm) (by decide) rfl (fun ls hl => ?_)
                        refine lv_goto (tgt := 85) hx hb dX4_turned_127 (by decide) ?_
                        exact ih_85 (i + 1) 0 (by omega) (by rw [h4]; simp [cmL, c_1, c_2, c_3, c_4, c_6, c_11, eq_true c_12]) _ _ hP hD hS ls (lv_sub hl [2, 3, 4, 5, 6, 7, 1, 0] rfl)
                      · skip
                        refine lv_aload_n hx hb dX4_turned_97 rfl (lv_at hl 0 rfl) ?_
                        refine va_get (D := D) (ci := 4) (v := .ref aSm) (C := RX4) (T := TX4) (N := 16) hx hb hts hi_X4_turned_X4 hown hT.1 hP 0 rfl rfl 7 (by decide) (hts (.fieldLink RX4 32 "SlotStarModel" "sum" "[I") (List.mem_of_getElem? (i := 2) rfl)) (fun _ h9 => h9) rfl dX4_turned_98 ?_
                        refine lv_iload hx hb dX4_turned_101 (lv_at hl 7 rfl) ?_
                        refine ld_i hx hb hT hP 4 rfl dX4_turned_103 (k := i) rfl (by omega) (by decide) ?_
                        refine top_eq (z := (v i)) (by exact rowP0 (by omega)) ?_
                        refine lv_aload_n hx hb dX4_turned_104 rfl (lv_at hl 0 rfl) ?_
                        refine va_get (D := D) (ci := 4) (v := .ref aSm) (C := RX4) (T := TX4) (N := 16) hx hb hts hi_X4_turned_X4 hown hT.1 hP 0 rfl rfl 7 (by decide) (hts (.fieldLink RX4 32 "SlotStarModel" "sum" "[I") (List.mem_of_getElem? (i := 2) rfl)) (fun _ h9 => h9) rfl dX4_turned_105 ?_
                        refine lv_bipush (v := 49) hx hb dX4_turned_108 (by decide) ?_
                        refine lv_iload hx hb dX4_turned_110 (lv_at hl 7 rfl) ?_
                        refine lv_iadd hx hb dX4_turned_112 ?_
                        refine top_eq (z := (nI (49 * 1 + i))) (by exact nI_add 49 i) ?_
                        refine ld_i hx hb hT hP 4 rfl dX4_turned_113 (k := (49 * 1 + i)) rfl (by omega) (by decide) ?_
                        refine top_eq (z := ((adR Q P M b h2 Wd) i)) (by exact rowP01 (by omega)) ?_
                        refine lv_icmp_ne (tgt := 121) hx hb dX4_turned_114 (by decide) (fun c_13 => ?_) (fun c_13 => ?_)
                        · skip
                          refine lv_iconst (v := 0) hx hb dX4_turned_121 (by decide) ?_
                          refine lv_istore (lv' := [(6, .int 0), (0, .ref aO), (1, .int a), (2, .int b), (3, .int (nI h2)), (4, .int (nI (tN Q P))), (5, .int (nI ee)), (7, .int (nI i))]) hx hb dX4_turned_122 hl (by decide) rfl (fun ls hl => ?_)
                          refine lv_iinc (v := nI (i + 1)) (lv' := [(7, .int (nI (i + 1))), (6, .int 0), (0, .ref aO), (1, .int a), (2, .int b), (3, .int (nI h2)), (4, .int (nI (tN Q P))), (5, .int (nI ee))]) hx hb dX4_turned_124 hl (k := 7) rfl ((nI_succ i).symm) (by decide) rfl (fun ls hl => ?_)
                          refine lv_goto (tgt := 85) hx hb dX4_turned_127 (by decide) ?_
                          exact ih_85 (i + 1) 0 (by omega) (by rw [h4]; simp [cmL, c_1, c_2, c_3, c_4, c_6, c_11, c_12, c_13]) _ _ hP hD hS ls (lv_sub hl [2, 3, 4, 5, 6, 7, 1, 0] rfl)
                        · skip
                          refine lv_iconst (v := 1) hx hb dX4_turned_117 (by decide) ?_
                          refine lv_goto (tgt := 122) hx hb dX4_turned_118 (by decide) ?_
                          refine lv_istore (lv' := [(6, .int 1), (0, .ref aO), (1, .int a), (2, .int b), (3, .int (nI h2)), (4, .int (nI (tN Q P))), (5, .int (nI ee)), (7, .int (nI i))]) hx hb dX4_turned_122 hl (by decide) rfl (fun ls hl => ?_)
                          refine lv_iinc (v := nI (i + 1)) (lv' := [(7, .int (nI (i + 1))), (6, .int 1), (0, .ref aO), (1, .int a), (2, .int b), (3, .int (nI h2)), (4, .int (nI (tN Q P))), (5, .int (nI ee))]) hx hb dX4_turned_124 hl (k := 7) rfl ((nI_succ i).symm) (by decide) rfl (fun ls hl => ?_)
                          refine lv_goto (tgt := 85) hx hb dX4_turned_127 (by decide) ?_
                          exact ih_85 (i + 1) 1 (by omega) (by rw [h4]; simp [cmL, c_1, c_2, c_3, c_4, c_6, c_11, c_12, eq_true c_13]) _ _ hP hD hS ls (lv_sub hl [2, 3, 4, 5, 6, 7, 1, 0] rfl)
                exact L_85 49 0 1 rfl rfl _ _ hP hD hS ls (lv_sub hl [2, 3, 4, 5, 6, 7, 1, 0] rfl)
          exact L_72 (tN Q P) 0 _ (by omega) (fun x h8 _ => adR_hi hv a h2 Wd h8) (by simp [sTur, c_1, c_2, c_3, c_4, hch]) _ _ hP hD hS ls (lv_sub hl [2, 3, 4, 5, 1, 0] rfl)
        · skip
          refine lv_bipush (v := (-3)) hx hb dX4_turned_38 (by decide) ?_
          exact me_ret hx hb hr hlocks dX4_turned_40 (hP) ⟨_, _, _, _, rfl⟩ hS (by simp [sTur, c_1, c_2, c_3, eq_true c_4])
      · skip
        refine lv_bipush (v := (-2)) hx hb dX4_turned_28 (by decide) ?_
        exact me_ret hx hb hr hlocks dX4_turned_30 (hP) ⟨_, _, _, _, rfl⟩ hS (by simp [sTur, c_1, c_2, eq_true c_3])
    · skip
      refine lv_iconst (v := (-1)) hx hb dX4_turned_16 (by decide) ?_
      exact me_ret hx hb hr hlocks dX4_turned_17 (hP) ⟨_, _, _, _, rfl⟩ hS (by simp [sTur, c_1, eq_true c_2])

set_option maxRecDepth 20000 in
theorem hi_X4_join_X4 : ∀ w ∈ wsX40, w ∈ wsX4_join := by
  intro w h
  unfold wsX4_join
  simp only [List.mem_cons, List.mem_append, h, or_true, true_or]
theorem nd_X4_join : okName yX4_join 1 := by decide +kernel
set_option maxHeartbeats 4000000 in
set_option maxRecDepth 100000 in
theorem k_X4_join (l : Launch) (D : va_G) (cI cZ : ClassId) (aO : Nat) (Q : Nat) (P : Nat) (M : Nat) (Wd : Nat) (aOw : Nat) (aDg : Nat) (aWk : Nat) (aSm : Nat) (aFo : Nat) (aBk : Nat) (fo : Nat) (ba : Nat) (le : Nat) (sf : Nat) (aIm : Nat) (aKp : Nat) (fFo : Nat → Int32) (fBk : Nat → Int32) (a : Int32) (hv : MV Q P M Wd) : MU l yX4_join wsX4_join ({ frames := 5, cells := 0, slots := 0, locals := 108 } : Room) D cI cZ [(aO, .inr (4, [.int (nI Q), .int (nI P), .int (nI M), .int (nI Wd), .ref aOw, .ref aDg, .ref aWk, .ref aSm, .ref aFo, .ref aBk, .int (nI fo), .int (nI ba), .int (nI le), .int (nI sf), .ref aIm, .ref aKp])), (aFo, .inl (cI, 48, .inl fFo)), (aBk, .inl (cI, 48, .inl fBk))] [.ref aO, .int a] (some (.int (jnR Q P M a))) [(aO, .inr (4, [.int (nI Q), .int (nI P), .int (nI M), .int (nI Wd), .ref aOw, .ref aDg, .ref aWk, .ref aSm, .ref aFo, .ref aBk, .int (nI (fwN Q P M a)), .int (nI (bkN Q P M a)), .int (nI (if fwN Q P M a = bkN Q P M a then (joS Q P M a).2 else le)), .int (nI (if fwN Q P M a = bkN Q P M a then (joS Q P M a).1 else sf)), .ref aIm, .ref aKp])), (aFo, .inl (cI, 48, .inl ((clS Q P M a fFo fBk).2.2.1))), (aBk, .inl (cI, 48, .inl ((clS Q P M a fFo fBk).2.2.2)))] := by
  refine mu_start (by decide) rfl (Nat.le_of_ble_eq_true rfl) ?_
  intro p e s m args below meth c hx hb hr hml hlocks hts hown hT hP hD hS ls hl
  have hown : s.vm.findClass RX4 = some m.cls := hown
  have hl : lv_has ls 5 [(0, .ref aO), (1, .int a)] := hl
  have hv' := hv
  unfold MV at hv'
  have hfb := fb_le Q P M a
  refine lv_aload_n hx hb dX4_join_0 rfl (lv_at hl 0 rfl) ?_
  refine lv_iconst (v := 0) hx hb dX4_join_1 (by decide) ?_
  refine va_put (D := D) (ci := 4) (v := .int 0) (ty := .int) (C := RX4) (T := TX4) (N := 16) hx hb hts hi_X4_join_X4 tyX4 tyX4_ok nmX4 hown hT.1 hP hD hS 0 rfl rfl 10 (by decide) (hts (.fieldLink RX4 120 "SlotStarModel" "forths" "I") (List.mem_of_getElem? (i := 1) rfl)) (fun _ h9 => h9) rfl (by decide +kernel) rfl rfl (Nat.le_of_ble_eq_true rfl) dX4_join_2 (fun H locs hP hD hS => ?_)
  have hP : va_P D cls5 [(aO, .inr (4, [.int (nI Q), .int (nI P), .int (nI M), .int (nI Wd), .ref aOw, .ref aDg, .ref aWk, .ref aSm, .ref aFo, .ref aBk, .int 0, .int (nI ba), .int (nI le), .int (nI sf), .ref aIm, .ref aKp])), (aFo, .inl (cI, 48, .inl fFo)), (aBk, .inl (cI, 48, .inl fBk))] H := hP
  have hD : va_D (va_M [(aO, .inr (4, [.int (nI Q), .int (nI P), .int (nI M), .int (nI Wd), .ref aOw, .ref aDg, .ref aWk, .ref aSm, .ref aFo, .ref aBk, .int (nI fo), .int (nI ba), .int (nI le), .int (nI sf), .ref aIm, .ref aKp])), (aFo, .inl (cI, 48, .inl fFo)), (aBk, .inl (cI, 48, .inl fBk))]) [(aO, .inr (4, [.int (nI Q), .int (nI P), .int (nI M), .int (nI Wd), .ref aOw, .ref aDg, .ref aWk, .ref aSm, .ref aFo, .ref aBk, .int 0, .int (nI ba), .int (nI le), .int (nI sf), .ref aIm, .ref aKp])), (aFo, .inl (cI, 48, .inl fFo)), (aBk, .inl (cI, 48, .inl fBk))] := hD
  refine lv_aload_n hx hb dX4_join_5 rfl (lv_at hl 0 rfl) ?_
  refine lv_iconst (v := 0) hx hb dX4_join_6 (by decide) ?_
  refine va_put (D := D) (ci := 4) (v := .int 0) (ty := .int) (C := RX4) (T := TX4) (N := 16) hx hb hts hi_X4_join_X4 tyX4 tyX4_ok nmX4 hown hT.1 hP hD hS 0 rfl rfl 11 (by decide) (hts (.fieldLink RX4 123 "SlotStarModel" "backs" "I") (List.mem_of_getElem? (i := 2) rfl)) (fun _ h9 => h9) rfl (by decide +kernel) rfl rfl (Nat.le_of_ble_eq_true rfl) dX4_join_7 (fun H locs hP hD hS => ?_)
  have hP : va_P D cls5 [(aO, .inr (4, [.int (nI Q), .int (nI P), .int (nI M), .int (nI Wd), .ref aOw, .ref aDg, .ref aWk, .ref aSm, .ref aFo, .ref aBk, .int 0, .int 0, .int (nI le), .int (nI sf), .ref aIm, .ref aKp])), (aFo, .inl (cI, 48, .inl fFo)), (aBk, .inl (cI, 48, .inl fBk))] H := hP
  have hD : va_D (va_M [(aO, .inr (4, [.int (nI Q), .int (nI P), .int (nI M), .int (nI Wd), .ref aOw, .ref aDg, .ref aWk, .ref aSm, .ref aFo, .ref aBk, .int (nI fo), .int (nI ba), .int (nI le), .int (nI sf), .ref aIm, .ref aKp])), (aFo, .inl (cI, 48, .inl fFo)), (aBk, .inl (cI, 48, .inl fBk))]) [(aO, .inr (4, [.int (nI Q), .int (nI P), .int (nI M), .int (nI Wd), .ref aOw, .ref aDg, .ref aWk, .ref aSm, .ref aFo, .ref aBk, .int 0, .int 0, .int (nI le), .int (nI sf), .ref aIm, .ref aKp])), (aFo, .inl (cI, 48, .inl fFo)), (aBk, .inl (cI, 48, .inl fBk))] := hD
  refine lv_iconst (v := 0) hx hb dX4_join_10 (by decide) ?_
  refine lv_istore_n (lv' := [(2, .int 0), (0, .ref aO), (1, .int a)]) hx hb dX4_join_11 rfl hl (by decide) rfl (fun ls hl => ?_)
  have L_12 : ∀ (f : Nat) (i : Nat) (x : Nat) (y : Nat) (u : Nat → Int32) (v : Nat → Int32), i + f = Q → x + y ≤ i → clS Q P M a fFo fBk = clL Q P M a f i x y u v → ∀ (H : Heap) (locs : List Loc), va_P D cls5 [(aO, .inr (4, [.int (nI Q), .int (nI P), .int (nI M), .int (nI Wd), .ref aOw, .ref aDg, .ref aWk, .ref aSm, .ref aFo, .ref aBk, .int (nI x), .int (nI y), .int (nI le), .int (nI sf), .ref aIm, .ref aKp])), (aFo, .inl (cI, 48, .inl u)), (aBk, .inl (cI, 48, .inl v))] H → va_D (va_M [(aO, .inr (4, [.int (nI Q), .int (nI P), .int (nI M), .int (nI Wd), .ref aOw, .ref aDg, .ref aWk, .ref aSm, .ref aFo, .ref aBk, .int (nI fo), .int (nI ba), .int (nI le), .int (nI sf), .ref aIm, .ref aKp])), (aFo, .inl (cI, 48, .inl fFo)), (aBk, .inl (cI, 48, .inl fBk))]) [(aO, .inr (4, [.int (nI Q), .int (nI P), .int (nI M), .int (nI Wd), .ref aOw, .ref aDg, .ref aWk, .ref aSm, .ref aFo, .ref aBk, .int (nI x), .int (nI y), .int (nI le), .int (nI sf), .ref aIm, .ref aKp])), (aFo, .inl (cI, 48, .inl u)), (aBk, .inl (cI, 48, .inl v))] → va_S (va_M [(aO, .inr (4, [.int (nI Q), .int (nI P), .int (nI M), .int (nI Wd), .ref aOw, .ref aDg, .ref aWk, .ref aSm, .ref aFo, .ref aBk, .int (nI fo), .int (nI ba), .int (nI le), .int (nI sf), .ref aIm, .ref aKp])), (aFo, .inl (cI, 48, .inl fFo)), (aBk, .inl (cI, 48, .inl fBk))]) s.heap H locs → ∀ ls : Array Slot, lv_has ls 5 [(0, .ref aO), (1, .int a), (2, .int (nI i))] → W p l e (headSpec wsX4_join ({ frames := 5, cells := 0, slots := 0, locals := 108 } : Room)).room s m args below meth c H locs 0 0 (MQ below (QcM D [(aO, .inr (4, [.int (nI Q), .int (nI P), .int (nI M), .int (nI Wd), .ref aOw, .ref aDg, .ref aWk, .ref aSm, .ref aFo, .ref aBk, .int (nI fo), .int (nI ba), .int (nI le), .int (nI sf), .ref aIm, .ref aKp])), (aFo, .inl (cI, 48, .inl fFo)), (aBk, .inl (cI, 48, .inl fBk))] [(aO, .inr (4, [.int (nI Q), .int (nI P), .int (nI M), .int (nI Wd), .ref aOw, .ref aDg, .ref aWk, .ref aSm, .ref aFo, .ref aBk, .int (nI (fwN Q P M a)), .int (nI (bkN Q P M a)), .int (nI (if fwN Q P M a = bkN Q P M a then (joS Q P M a).2 else le)), .int (nI (if fwN Q P M a = bkN Q P M a then (joS Q P M a).1 else sf)), .ref aIm, .ref aKp])), (aFo, .inl (cI, 48, .inl ((clS Q P M a fFo fBk).2.2.1))), (aBk, .inl (cI, 48, .inl ((clS Q P M a fFo fBk).2.2.2)))] (some (.int (jnR Q P M a)))) args s 0 0 (va_M [(aO, .inr (4, [.int (nI Q), .int (nI P), .int (nI M), .int (nI Wd), .ref aOw, .ref aDg, .ref aWk, .ref aSm, .ref aFo, .ref aBk, .int (nI fo), .int (nI ba), .int (nI le), .int (nI sf), .ref aIm, .ref aKp])), (aFo, .inl (cI, 48, .inl fFo)), (aBk, .inl (cI, 48, .inl fBk))])) (F0 m 12 ls []) := by
    intro f
    induction f with
    | zero =>
      intro i x y u v h1 h3 h2 H locs hP hD hS ls hl
      refine lv_iload_n hx hb dX4_join_12 rfl (lv_at hl 2 rfl) ?_
      refine lv_aload_n hx hb dX4_join_13 rfl (lv_at hl 0 rfl) ?_
      refine va_get (D := D) (ci := 4) (v := .int (nI Q)) (C := RX4) (T := TX4) (N := 16) hx hb hts hi_X4_join_X4 hown hT.1 hP 0 rfl rfl 0 (by decide) (hts (.fieldLink RX4 7 "SlotStarModel" "slots" "I") (List.mem_of_getElem? (i := 3) rfl)) (fun _ h9 => h9) rfl dX4_join_14 ?_
      refine lv_icmp_ge (tgt := 95) hx hb dX4_join_17 (by decide) (fun c_1 => ?_) (fun c_1 => ?_)
      · skip
        obtain ⟨ex, ey, eu, ev⟩ : x = fwN Q P M a ∧ y = bkN Q P M a ∧ u = (clS Q P M a fFo fBk).2.2.1 ∧ v = (clS Q P M a fFo fBk).2.2.2 := by (rw [clS_fw Q P M a fFo fBk, clS_bk Q P M a fFo fBk, h2]; exact ⟨rfl, rfl, rfl, rfl⟩)
        subst ex
        subst ey
        subst eu
        subst ev
        refine lv_aload_n hx hb dX4_join_95 rfl (lv_at hl 0 rfl) ?_
        refine va_get (D := D) (ci := 4) (v := .int (nI (fwN Q P M a))) (C := RX4) (T := TX4) (N := 16) hx hb hts hi_X4_join_X4 hown hT.1 hP 0 rfl rfl 10 (by decide) (hts (.fieldLink RX4 120 "SlotStarModel" "forths" "I") (List.mem_of_getElem? (i := 1) rfl)) (fun _ h9 => h9) rfl dX4_join_96 ?_
        refine lv_aload_n hx hb dX4_join_99 rfl (lv_at hl 0 rfl) ?_
        refine va_get (D := D) (ci := 4) (v := .int (nI (bkN Q P M a))) (C := RX4) (T := TX4) (N := 16) hx hb hts hi_X4_join_X4 hown hT.1 hP 0 rfl rfl 11 (by decide) (hts (.fieldLink RX4 123 "SlotStarModel" "backs" "I") (List.mem_of_getElem? (i := 2) rfl)) (fun _ h9 => h9) rfl dX4_join_100 ?_
        refine lv_icmp_eq (tgt := 108) hx hb dX4_join_103 (by decide) (fun c_2 => ?_) (fun c_2 => ?_)
        · skip
          have hj : fwN Q P M a = bkN Q P M a := (nI_eq (by omega) (by omega)).mp c_2
          refine lv_aload_n hx hb dX4_join_108 rfl (lv_at hl 0 rfl) ?_
          refine lv_iconst (v := 0) hx hb dX4_join_109 (by decide) ?_
          refine va_put (D := D) (ci := 4) (v := .int 0) (ty := .int) (C := RX4) (T := TX4) (N := 16) hx hb hts hi_X4_join_X4 tyX4 tyX4_ok nmX4 hown hT.1 hP hD hS 0 rfl rfl 12 (by decide) (hts (.fieldLink RX4 126 "SlotStarModel" "least" "I") (List.mem_of_getElem? (i := 6) rfl)) (fun _ h9 => h9) rfl (by decide +kernel) rfl rfl (Nat.le_of_ble_eq_true rfl) dX4_join_110 (fun H locs hP hD hS => ?_)
          have hP : va_P D cls5 [(aO, .inr (4, [.int (nI Q), .int (nI P), .int (nI M), .int (nI Wd), .ref aOw, .ref aDg, .ref aWk, .ref aSm, .ref aFo, .ref aBk, .int (nI (fwN Q P M a)), .int (nI (bkN Q P M a)), .int 0, .int (nI sf), .ref aIm, .ref aKp])), (aFo, .inl (cI, 48, .inl ((clS Q P M a fFo fBk).2.2.1))), (aBk, .inl (cI, 48, .inl ((clS Q P M a fFo fBk).2.2.2)))] H := hP
          have hD : va_D (va_M [(aO, .inr (4, [.int (nI Q), .int (nI P), .int (nI M), .int (nI Wd), .ref aOw, .ref aDg, .ref aWk, .ref aSm, .ref aFo, .ref aBk, .int (nI fo), .int (nI ba), .int (nI le), .int (nI sf), .ref aIm, .ref aKp])), (aFo, .inl (cI, 48, .inl fFo)), (aBk, .inl (cI, 48, .inl fBk))]) [(aO, .inr (4, [.int (nI Q), .int (nI P), .int (nI M), .int (nI Wd), .ref aOw, .ref aDg, .ref aWk, .ref aSm, .ref aFo, .ref aBk, .int (nI (fwN Q P M a)), .int (nI (bkN Q P M a)), .int 0, .int (nI sf), .ref aIm, .ref aKp])), (aFo, .inl (cI, 48, .inl ((clS Q P M a fFo fBk).2.2.1))), (aBk, .inl (cI, 48, .inl ((clS Q P M a fFo fBk).2.2.2)))] := hD
          refine lv_aload_n hx hb dX4_join_113 rfl (lv_at hl 0 rfl) ?_
          refine lv_iconst (v := 0) hx hb dX4_join_114 (by decide) ?_
          refine va_put (D := D) (ci := 4) (v := .int 0) (ty := .int) (C := RX4) (T := TX4) (N := 16) hx hb hts hi_X4_join_X4 tyX4 tyX4_ok nmX4 hown hT.1 hP hD hS 0 rfl rfl 13 (by decide) (hts (.fieldLink RX4 129 "SlotStarModel" "shift" "I") (List.mem_of_getElem? (i := 7) rfl)) (fun _ h9 => h9) rfl (by decide +kernel) rfl rfl (Nat.le_of_ble_eq_true rfl) dX4_join_115 (fun H locs hP hD hS => ?_)
          have hP : va_P D cls5 [(aO, .inr (4, [.int (nI Q), .int (nI P), .int (nI M), .int (nI Wd), .ref aOw, .ref aDg, .ref aWk, .ref aSm, .ref aFo, .ref aBk, .int (nI (fwN Q P M a)), .int (nI (bkN Q P M a)), .int 0, .int 0, .ref aIm, .ref aKp])), (aFo, .inl (cI, 48, .inl ((clS Q P M a fFo fBk).2.2.1))), (aBk, .inl (cI, 48, .inl ((clS Q P M a fFo fBk).2.2.2)))] H := hP
          have hD : va_D (va_M [(aO, .inr (4, [.int (nI Q), .int (nI P), .int (nI M), .int (nI Wd), .ref aOw, .ref aDg, .ref aWk, .ref aSm, .ref aFo, .ref aBk, .int (nI fo), .int (nI ba), .int (nI le), .int (nI sf), .ref aIm, .ref aKp])), (aFo, .inl (cI, 48, .inl fFo)), (aBk, .inl (cI, 48, .inl fBk))]) [(aO, .inr (4, [.int (nI Q), .int (nI P), .int (nI M), .int (nI Wd), .ref aOw, .ref aDg, .ref aWk, .ref aSm, .ref aFo, .ref aBk, .int (nI (fwN Q P M a)), .int (nI (bkN Q P M a)), .int 0, .int 0, .ref aIm, .ref aKp])), (aFo, .inl (cI, 48, .inl ((clS Q P M a fFo fBk).2.2.1))), (aBk, .inl (cI, 48, .inl ((clS Q P M a fFo fBk).2.2.2)))] := hD
          refine lv_iconst (v := 0) hx hb dX4_join_118 (by decide) ?_
          refine lv_istore_n (lv' := [(2, .int 0), (0, .ref aO), (1, .int a)]) hx hb dX4_join_119 rfl hl (by decide) rfl (fun ls hl => ?_)
          have L_120 : ∀ (f : Nat) (sv : Nat) (x2 : Nat) (y2 : Nat), sv + f = fwN Q P M a → mjL Q P M a (fwN Q P M a) 0 0 0 = mjL Q P M a f sv x2 y2 → ∀ (H : Heap) (locs : List Loc), va_P D cls5 [(aO, .inr (4, [.int (nI Q), .int (nI P), .int (nI M), .int (nI Wd), .ref aOw, .ref aDg, .ref aWk, .ref aSm, .ref aFo, .ref aBk, .int (nI (fwN Q P M a)), .int (nI (bkN Q P M a)), .int (nI y2), .int (nI x2), .ref aIm, .ref aKp])), (aFo, .inl (cI, 48, .inl ((clS Q P M a fFo fBk).2.2.1))), (aBk, .inl (cI, 48, .inl ((clS Q P M a fFo fBk).2.2.2)))] H → va_D (va_M [(aO, .inr (4, [.int (nI Q), .int (nI P), .int (nI M), .int (nI Wd), .ref aOw, .ref aDg, .ref aWk, .ref aSm, .ref aFo, .ref aBk, .int (nI fo), .int (nI ba), .int (nI le), .int (nI sf), .ref aIm, .ref aKp])), (aFo, .inl (cI, 48, .inl fFo)), (aBk, .inl (cI, 48, .inl fBk))]) [(aO, .inr (4, [.int (nI Q), .int (nI P), .int (nI M), .int (nI Wd), .ref aOw, .ref aDg, .ref aWk, .ref aSm, .ref aFo, .ref aBk, .int (nI (fwN Q P M a)), .int (nI (bkN Q P M a)), .int (nI y2), .int (nI x2), .ref aIm, .ref aKp])), (aFo, .inl (cI, 48, .inl ((clS Q P M a fFo fBk).2.2.1))), (aBk, .inl (cI, 48, .inl ((clS Q P M a fFo fBk).2.2.2)))] → va_S (va_M [(aO, .inr (4, [.int (nI Q), .int (nI P), .int (nI M), .int (nI Wd), .ref aOw, .ref aDg, .ref aWk, .ref aSm, .ref aFo, .ref aBk, .int (nI fo), .int (nI ba), .int (nI le), .int (nI sf), .ref aIm, .ref aKp])), (aFo, .inl (cI, 48, .inl fFo)), (aBk, .inl (cI, 48, .inl fBk))]) s.heap H locs → ∀ ls : Array Slot, lv_has ls 5 [(0, .ref aO), (1, .int a), (2, .int (nI sv))] → W p l e (headSpec wsX4_join ({ frames := 5, cells := 0, slots := 0, locals := 108 } : Room)).room s m args below meth c H locs 0 0 (MQ below (QcM D [(aO, .inr (4, [.int (nI Q), .int (nI P), .int (nI M), .int (nI Wd), .ref aOw, .ref aDg, .ref aWk, .ref aSm, .ref aFo, .ref aBk, .int (nI fo), .int (nI ba), .int (nI le), .int (nI sf), .ref aIm, .ref aKp])), (aFo, .inl (cI, 48, .inl fFo)), (aBk, .inl (cI, 48, .inl fBk))] [(aO, .inr (4, [.int (nI Q), .int (nI P), .int (nI M), .int (nI Wd), .ref aOw, .ref aDg, .ref aWk, .ref aSm, .ref aFo, .ref aBk, .int (nI (fwN Q P M a)), .int (nI (bkN Q P M a)), .int (nI (if fwN Q P M a = bkN Q P M a then (joS Q P M a).2 else le)), .int (nI (if fwN Q P M a = bkN Q P M a then (joS Q P M a).1 else sf)), .ref aIm, .ref aKp])), (aFo, .inl (cI, 48, .inl ((clS Q P M a fFo fBk).2.2.1))), (aBk, .inl (cI, 48, .inl ((clS Q P M a fFo fBk).2.2.2)))] (some (.int (jnR Q P M a)))) args s 0 0 (va_M [(aO, .inr (4, [.int (nI Q), .int (nI P), .int (nI M), .int (nI Wd), .ref aOw, .ref aDg, .ref aWk, .ref aSm, .ref aFo, .ref aBk, .int (nI fo), .int (nI ba), .int (nI le), .int (nI sf), .ref aIm, .ref aKp])), (aFo, .inl (cI, 48, .inl fFo)), (aBk, .inl (cI, 48, .inl fBk))])) (F0 m 120 ls []) := by
            intro f
            induction f with
            | zero =>
              intro sv x2 y2 h5 h6 H locs hP hD hS ls hl
              refine lv_iload_n hx hb dX4_join_120 rfl (lv_at hl 2 rfl) ?_
              refine lv_aload_n hx hb dX4_join_121 rfl (lv_at hl 0 rfl) ?_
              refine va_get (D := D) (ci := 4) (v := .int (nI (fwN Q P M a))) (C := RX4) (T := TX4) (N := 16) hx hb hts hi_X4_join_X4 hown hT.1 hP 0 rfl rfl 10 (by decide) (hts (.fieldLink RX4 120 "SlotStarModel" "forths" "I") (List.mem_of_getElem? (i := 1) rfl)) (fun _ h9 => h9) rfl dX4_join_122 ?_
              refine lv_icmp_ge (tgt := 204) hx hb dX4_join_125 (by decide) (fun c_3 => ?_) (fun c_3 => ?_)
              · skip
                refine lv_iconst (v := 1) hx hb dX4_join_204 (by decide) ?_
                exact mu_retz hx hb hr hlocks dX4_join_205 (by rw [if_pos hj, if_pos hj, ← m_jo Q P M a, h6]; exact hP) hS (by unfold jnR; rw [if_pos hj]) (by exact jnR01 _ _ _ _)
              · exfalso; exact c_3 (nI_le (by omega) (by omega))
            | succ f ih_120 =>
              intro sv x2 y2 h5 h6 H locs hP hD hS ls hl
              refine lv_iload_n hx hb dX4_join_120 rfl (lv_at hl 2 rfl) ?_
              refine lv_aload_n hx hb dX4_join_121 rfl (lv_at hl 0 rfl) ?_
              refine va_get (D := D) (ci := 4) (v := .int (nI (fwN Q P M a))) (C := RX4) (T := TX4) (N := 16) hx hb hts hi_X4_join_X4 hown hT.1 hP 0 rfl rfl 10 (by decide) (hts (.fieldLink RX4 120 "SlotStarModel" "forths" "I") (List.mem_of_getElem? (i := 1) rfl)) (fun _ h9 => h9) rfl dX4_join_122 ?_
              refine lv_icmp_ge (tgt := 204) hx hb dX4_join_125 (by decide) (fun c_4 => ?_) (fun c_4 => ?_)
              · exfalso; exact nI_ge (show sv < fwN Q P M a by omega) (by omega) c_4
              · skip
                refine lv_iconst (v := 0) hx hb dX4_join_128 (by decide) ?_
                refine lv_istore_n (lv' := [(3, .int 0), (0, .ref aO), (1, .int a), (2, .int (nI sv))]) hx hb dX4_join_129 rfl hl (by decide) rfl (fun ls hl => ?_)
                refine lv_iconst (v := 0) hx hb dX4_join_130 (by decide) ?_
                refine lv_istore (lv' := [(4, .int 0), (3, .int 0), (0, .ref aO), (1, .int a), (2, .int (nI sv))]) hx hb dX4_join_131 hl (by decide) rfl (fun ls hl => ?_)
                have L_133 : ∀ (f2 : Nat) (j : Nat) (t : Nat), j + f2 = fwN Q P M a → wyS Q P M a sv = wyL Q (clS Q P M a fFo fBk).2.2.1 (clS Q P M a fFo fBk).2.2.2 (fwN Q P M a) sv f2 j t → ∀ (H : Heap) (locs : List Loc), va_P D cls5 [(aO, .inr (4, [.int (nI Q), .int (nI P), .int (nI M), .int (nI Wd), .ref aOw, .ref aDg, .ref aWk, .ref aSm, .ref aFo, .ref aBk, .int (nI (fwN Q P M a)), .int (nI (bkN Q P M a)), .int (nI y2), .int (nI x2), .ref aIm, .ref aKp])), (aFo, .inl (cI, 48, .inl ((clS Q P M a fFo fBk).2.2.1))), (aBk, .inl (cI, 48, .inl ((clS Q P M a fFo fBk).2.2.2)))] H → va_D (va_M [(aO, .inr (4, [.int (nI Q), .int (nI P), .int (nI M), .int (nI Wd), .ref aOw, .ref aDg, .ref aWk, .ref aSm, .ref aFo, .ref aBk, .int (nI fo), .int (nI ba), .int (nI le), .int (nI sf), .ref aIm, .ref aKp])), (aFo, .inl (cI, 48, .inl fFo)), (aBk, .inl (cI, 48, .inl fBk))]) [(aO, .inr (4, [.int (nI Q), .int (nI P), .int (nI M), .int (nI Wd), .ref aOw, .ref aDg, .ref aWk, .ref aSm, .ref aFo, .ref aBk, .int (nI (fwN Q P M a)), .int (nI (bkN Q P M a)), .int (nI y2), .int (nI x2), .ref aIm, .ref aKp])), (aFo, .inl (cI, 48, .inl ((clS Q P M a fFo fBk).2.2.1))), (aBk, .inl (cI, 48, .inl ((clS Q P M a fFo fBk).2.2.2)))] → va_S (va_M [(aO, .inr (4, [.int (nI Q), .int (nI P), .int (nI M), .int (nI Wd), .ref aOw, .ref aDg, .ref aWk, .ref aSm, .ref aFo, .ref aBk, .int (nI fo), .int (nI ba), .int (nI le), .int (nI sf), .ref aIm, .ref aKp])), (aFo, .inl (cI, 48, .inl fFo)), (aBk, .inl (cI, 48, .inl fBk))]) s.heap H locs → ∀ ls : Array Slot, lv_has ls 5 [(0, .ref aO), (1, .int a), (2, .int (nI sv)), (3, .int (nI t)), (4, .int (nI j))] → W p l e (headSpec wsX4_join ({ frames := 5, cells := 0, slots := 0, locals := 108 } : Room)).room s m args below meth c H locs 0 0 (MQ below (QcM D [(aO, .inr (4, [.int (nI Q), .int (nI P), .int (nI M), .int (nI Wd), .ref aOw, .ref aDg, .ref aWk, .ref aSm, .ref aFo, .ref aBk, .int (nI fo), .int (nI ba), .int (nI le), .int (nI sf), .ref aIm, .ref aKp])), (aFo, .inl (cI, 48, .inl fFo)), (aBk, .inl (cI, 48, .inl fBk))] [(aO, .inr (4, [.int (nI Q), .int (nI P), .int (nI M), .int (nI Wd), .ref aOw, .ref aDg, .ref aWk, .ref aSm, .ref aFo, .ref aBk, .int (nI (fwN Q P M a)), .int (nI (bkN Q P M a)), .int (nI (if fwN Q P M a = bkN Q P M a then (joS Q P M a).2 else le)), .int (nI (if fwN Q P M a = bkN Q P M a then (joS Q P M a).1 else sf)), .ref aIm, .ref aKp])), (aFo, .inl (cI, 48, .inl ((clS Q P M a fFo fBk).2.2.1))), (aBk, .inl (cI, 48, .inl ((clS Q P M a fFo fBk).2.2.2)))] (some (.int (jnR Q P M a)))) args s 0 0 (va_M [(aO, .inr (4, [.int (nI Q), .int (nI P), .int (nI M), .int (nI Wd), .ref aOw, .ref aDg, .ref aWk, .ref aSm, .ref aFo, .ref aBk, .int (nI fo), .int (nI ba), .int (nI le), .int (nI sf), .ref aIm, .ref aKp])), (aFo, .inl (cI, 48, .inl fFo)), (aBk, .inl (cI, 48, .inl fBk))])) (F0 m 133 ls []) := by
                  intro f2
                  induction f2 with
                  | zero =>
                    intro j t h7 h8 H locs hP hD hS ls hl
                    refine lv_iload hx hb dX4_join_133 (lv_at hl 4 rfl) ?_
                    refine lv_aload_n hx hb dX4_join_135 rfl (lv_at hl 0 rfl) ?_
                    refine va_get (D := D) (ci := 4) (v := .int (nI (fwN Q P M a))) (C := RX4) (T := TX4) (N := 16) hx hb hts hi_X4_join_X4 hown hT.1 hP 0 rfl rfl 10 (by decide) (hts (.fieldLink RX4 120 "SlotStarModel" "forths" "I") (List.mem_of_getElem? (i := 1) rfl)) (fun _ h9 => h9) rfl dX4_join_136 ?_
                    refine lv_icmp_ge (tgt := 176) hx hb dX4_join_139 (by decide) (fun c_5 => ?_) (fun c_5 => ?_)
                    · skip
                      refine lv_iload_n hx hb dX4_join_176 rfl (lv_at hl 2 rfl) ?_
                      refine lv_if_eq (tgt := 188) hx hb dX4_join_177 (by decide) (fun c_6 => ?_) (fun c_6 => ?_)
                      · skip
                        have hs0 : sv = 0 := (nI_eq0 (by omega)).mp c_6
                        refine lv_aload_n hx hb dX4_join_188 rfl (lv_at hl 0 rfl) ?_
                        refine lv_iload_n hx hb dX4_join_189 rfl (lv_at hl 3 rfl) ?_
                        refine va_put (D := D) (ci := 4) (v := .int (nI t)) (ty := .int) (C := RX4) (T := TX4) (N := 16) hx hb hts hi_X4_join_X4 tyX4 tyX4_ok nmX4 hown hT.1 hP hD hS 0 rfl rfl 12 (by decide) (hts (.fieldLink RX4 126 "SlotStarModel" "least" "I") (List.mem_of_getElem? (i := 6) rfl)) (fun _ h9 => h9) rfl (by decide +kernel) rfl rfl (Nat.le_of_ble_eq_true rfl) dX4_join_190 (fun H locs hP hD hS => ?_)
                        have hP : va_P D cls5 [(aO, .inr (4, [.int (nI Q), .int (nI P), .int (nI M), .int (nI Wd), .ref aOw, .ref aDg, .ref aWk, .ref aSm, .ref aFo, .ref aBk, .int (nI (fwN Q P M a)), .int (nI (bkN Q P M a)), .int (nI t), .int (nI x2), .ref aIm, .ref aKp])), (aFo, .inl (cI, 48, .inl ((clS Q P M a fFo fBk).2.2.1))), (aBk, .inl (cI, 48, .inl ((clS Q P M a fFo fBk).2.2.2)))] H := hP
                        have hD : va_D (va_M [(aO, .inr (4, [.int (nI Q), .int (nI P), .int (nI M), .int (nI Wd), .ref aOw, .ref aDg, .ref aWk, .ref aSm, .ref aFo, .ref aBk, .int (nI fo), .int (nI ba), .int (nI le), .int (nI sf), .ref aIm, .ref aKp])), (aFo, .inl (cI, 48, .inl fFo)), (aBk, .inl (cI, 48, .inl fBk))]) [(aO, .inr (4, [.int (nI Q), .int (nI P), .int (nI M), .int (nI Wd), .ref aOw, .ref aDg, .ref aWk, .ref aSm, .ref aFo, .ref aBk, .int (nI (fwN Q P M a)), .int (nI (bkN Q P M a)), .int (nI t), .int (nI x2), .ref aIm, .ref aKp])), (aFo, .inl (cI, 48, .inl ((clS Q P M a fFo fBk).2.2.1))), (aBk, .inl (cI, 48, .inl ((clS Q P M a fFo fBk).2.2.2)))] := hD
                        refine lv_aload_n hx hb dX4_join_193 rfl (lv_at hl 0 rfl) ?_
                        refine lv_iload_n hx hb dX4_join_194 rfl (lv_at hl 2 rfl) ?_
                        refine va_put (D := D) (ci := 4) (v := .int (nI sv)) (ty := .int) (C := RX4) (T := TX4) (N := 16) hx hb hts hi_X4_join_X4 tyX4 tyX4_ok nmX4 hown hT.1 hP hD hS 0 rfl rfl 13 (by decide) (hts (.fieldLink RX4 129 "SlotStarModel" "shift" "I") (List.mem_of_getElem? (i := 7) rfl)) (fun _ h9 => h9) rfl (by decide +kernel) rfl rfl (Nat.le_of_ble_eq_true rfl) dX4_join_195 (fun H locs hP hD hS => ?_)
                        have hP : va_P D cls5 [(aO, .inr (4, [.int (nI Q), .int (nI P), .int (nI M), .int (nI Wd), .ref aOw, .ref aDg, .ref aWk, .ref aSm, .ref aFo, .ref aBk, .int (nI (fwN Q P M a)), .int (nI (bkN Q P M a)), .int (nI t), .int (nI sv), .ref aIm, .ref aKp])), (aFo, .inl (cI, 48, .inl ((clS Q P M a fFo fBk).2.2.1))), (aBk, .inl (cI, 48, .inl ((clS Q P M a fFo fBk).2.2.2)))] H := hP
                        have hD : va_D (va_M [(aO, .inr (4, [.int (nI Q), .int (nI P), .int (nI M), .int (nI Wd), .ref aOw, .ref aDg, .ref aWk, .ref aSm, .ref aFo, .ref aBk, .int (nI fo), .int (nI ba), .int (nI le), .int (nI sf), .ref aIm, .ref aKp])), (aFo, .inl (cI, 48, .inl fFo)), (aBk, .inl (cI, 48, .inl fBk))]) [(aO, .inr (4, [.int (nI Q), .int (nI P), .int (nI M), .int (nI Wd), .ref aOw, .ref aDg, .ref aWk, .ref aSm, .ref aFo, .ref aBk, .int (nI (fwN Q P M a)), .int (nI (bkN Q P M a)), .int (nI t), .int (nI sv), .ref aIm, .ref aKp])), (aFo, .inl (cI, 48, .inl ((clS Q P M a fFo fBk).2.2.1))), (aBk, .inl (cI, 48, .inl ((clS Q P M a fFo fBk).2.2.2)))] := hD
                        refine lv_iinc (v := nI (sv + 1)) (lv' := [(2, .int (nI (sv + 1))), (0, .ref aO), (1, .int a), (3, .int (nI t)), (4, .int (nI j))]) hx hb dX4_join_198 hl (k := 2) rfl ((nI_succ sv).symm) (by decide) rfl (fun ls hl => ?_)
                        refine lv_goto (tgt := 120) hx hb dX4_join_201 (by decide) ?_
                        exact ih_120 (sv + 1) sv t (by omega) (by rw [h6]; have h9 : wyS Q P M a sv = t := h8; first | (simp [mjL, h9, eq_true hs0, c_1, eq_true c_2, c_4, c_5, eq_true c_6]; done) | simp [mjL, h9, hs0, c_1, eq_true c_2, c_4, c_5, eq_true c_6]) _ _ hP hD hS ls (lv_sub hl [1, 2, 0] rfl)
                      · skip
                        have hs0 : ¬ sv = 0 := fun q => c_6 (by rw [q]; rfl)
                        refine lv_iload_n hx hb dX4_join_180 rfl (lv_at hl 3 rfl) ?_
                        refine lv_aload_n hx hb dX4_join_181 rfl (lv_at hl 0 rfl) ?_
                        refine va_get (D := D) (ci := 4) (v := .int (nI y2)) (C := RX4) (T := TX4) (N := 16) hx hb hts hi_X4_join_X4 hown hT.1 hP 0 rfl rfl 12 (by decide) (hts (.fieldLink RX4 126 "SlotStarModel" "least" "I") (List.mem_of_getElem? (i := 6) rfl)) (fun _ h9 => h9) rfl dX4_join_182 ?_
                        refine lv_icmp_ge (tgt := 198) hx hb dX4_join_185 (by decide) (fun c_7 => ?_) (fun c_7 => ?_)
                        · skip
                          refine lv_iinc (v := nI (sv + 1)) (lv' := [(2, .int (nI (sv + 1))), (0, .ref aO), (1, .int a), (3, .int (nI t)), (4, .int (nI j))]) hx hb dX4_join_198 hl (k := 2) rfl ((nI_succ sv).symm) (by decide) rfl (fun ls hl => ?_)
                          refine lv_goto (tgt := 120) hx hb dX4_join_201 (by decide) ?_
                          exact ih_120 (sv + 1) x2 y2 (by omega) (by rw [h6]; have h9 : wyS Q P M a sv = t := h8; first | (simp [mjL, h9, eq_true hs0, c_1, eq_true c_2, c_4, c_5, c_6, c_7]; done) | simp [mjL, h9, hs0, c_1, eq_true c_2, c_4, c_5, c_6, c_7]) _ _ hP hD hS ls (lv_sub hl [1, 2, 0] rfl)
                        · skip
                          refine lv_aload_n hx hb dX4_join_188 rfl (lv_at hl 0 rfl) ?_
                          refine lv_iload_n hx hb dX4_join_189 rfl (lv_at hl 3 rfl) ?_
                          refine va_put (D := D) (ci := 4) (v := .int (nI t)) (ty := .int) (C := RX4) (T := TX4) (N := 16) hx hb hts hi_X4_join_X4 tyX4 tyX4_ok nmX4 hown hT.1 hP hD hS 0 rfl rfl 12 (by decide) (hts (.fieldLink RX4 126 "SlotStarModel" "least" "I") (List.mem_of_getElem? (i := 6) rfl)) (fun _ h9 => h9) rfl (by decide +kernel) rfl rfl (Nat.le_of_ble_eq_true rfl) dX4_join_190 (fun H locs hP hD hS => ?_)
                          have hP : va_P D cls5 [(aO, .inr (4, [.int (nI Q), .int (nI P), .int (nI M), .int (nI Wd), .ref aOw, .ref aDg, .ref aWk, .ref aSm, .ref aFo, .ref aBk, .int (nI (fwN Q P M a)), .int (nI (bkN Q P M a)), .int (nI t), .int (nI x2), .ref aIm, .ref aKp])), (aFo, .inl (cI, 48, .inl ((clS Q P M a fFo fBk).2.2.1))), (aBk, .inl (cI, 48, .inl ((clS Q P M a fFo fBk).2.2.2)))] H := hP
                          have hD : va_D (va_M [(aO, .inr (4, [.int (nI Q), .int (nI P), .int (nI M), .int (nI Wd), .ref aOw, .ref aDg, .ref aWk, .ref aSm, .ref aFo, .ref aBk, .int (nI fo), .int (nI ba), .int (nI le), .int (nI sf), .ref aIm, .ref aKp])), (aFo, .inl (cI, 48, .inl fFo)), (aBk, .inl (cI, 48, .inl fBk))]) [(aO, .inr (4, [.int (nI Q), .int (nI P), .int (nI M), .int (nI Wd), .ref aOw, .ref aDg, .ref aWk, .ref aSm, .ref aFo, .ref aBk, .int (nI (fwN Q P M a)), .int (nI (bkN Q P M a)), .int (nI t), .int (nI x2), .ref aIm, .ref aKp])), (aFo, .inl (cI, 48, .inl ((clS Q P M a fFo fBk).2.2.1))), (aBk, .inl (cI, 48, .inl ((clS Q P M a fFo fBk).2.2.2)))] := hD
                          refine lv_aload_n hx hb dX4_join_193 rfl (lv_at hl 0 rfl) ?_
                          refine lv_iload_n hx hb dX4_join_194 rfl (lv_at hl 2 rfl) ?_
                          refine va_put (D := D) (ci := 4) (v := .int (nI sv)) (ty := .int) (C := RX4) (T := TX4) (N := 16) hx hb hts hi_X4_join_X4 tyX4 tyX4_ok nmX4 hown hT.1 hP hD hS 0 rfl rfl 13 (by decide) (hts (.fieldLink RX4 129 "SlotStarModel" "shift" "I") (List.mem_of_getElem? (i := 7) rfl)) (fun _ h9 => h9) rfl (by decide +kernel) rfl rfl (Nat.le_of_ble_eq_true rfl) dX4_join_195 (fun H locs hP hD hS => ?_)
                          have hP : va_P D cls5 [(aO, .inr (4, [.int (nI Q), .int (nI P), .int (nI M), .int (nI Wd), .ref aOw, .ref aDg, .ref aWk, .ref aSm, .ref aFo, .ref aBk, .int (nI (fwN Q P M a)), .int (nI (bkN Q P M a)), .int (nI t), .int (nI sv), .ref aIm, .ref aKp])), (aFo, .inl (cI, 48, .inl ((clS Q P M a fFo fBk).2.2.1))), (aBk, .inl (cI, 48, .inl ((clS Q P M a fFo fBk).2.2.2)))] H := hP
                          have hD : va_D (va_M [(aO, .inr (4, [.int (nI Q), .int (nI P), .int (nI M), .int (nI Wd), .ref aOw, .ref aDg, .ref aWk, .ref aSm, .ref aFo, .ref aBk, .int (nI fo), .int (nI ba), .int (nI le), .int (nI sf), .ref aIm, .ref aKp])), (aFo, .inl (cI, 48, .inl fFo)), (aBk, .inl (cI, 48, .inl fBk))]) [(aO, .inr (4, [.int (nI Q), .int (nI P), .int (nI M), .int (nI Wd), .ref aOw, .ref aDg, .ref aWk, .ref aSm, .ref aFo, .ref aBk, .int (nI (fwN Q P M a)), .int (nI (bkN Q P M a)), .int (nI t), .int (nI sv), .ref aIm, .ref aKp])), (aFo, .inl (cI, 48, .inl ((clS Q P M a fFo fBk).2.2.1))), (aBk, .inl (cI, 48, .inl ((clS Q P M a fFo fBk).2.2.2)))] := hD
                          refine lv_iinc (v := nI (sv + 1)) (lv' := [(2, .int (nI (sv + 1))), (0, .ref aO), (1, .int a), (3, .int (nI t)), (4, .int (nI j))]) hx hb dX4_join_198 hl (k := 2) rfl ((nI_succ sv).symm) (by decide) rfl (fun ls hl => ?_)
                          refine lv_goto (tgt := 120) hx hb dX4_join_201 (by decide) ?_
                          exact ih_120 (sv + 1) sv t (by omega) (by rw [h6]; have h9 : wyS Q P M a sv = t := h8; first | (simp [mjL, h9, eq_true hs0, c_1, eq_true c_2, c_4, c_5, c_6, c_7]; done) | simp [mjL, h9, hs0, c_1, eq_true c_2, c_4, c_5, c_6, c_7]) _ _ hP hD hS ls (lv_sub hl [1, 2, 0] rfl)
                    · exfalso; exact c_5 (nI_le (by omega) (by omega))
                  | succ f2 ih_133 =>
                    intro j t h7 h8 H locs hP hD hS ls hl
                    refine lv_iload hx hb dX4_join_133 (lv_at hl 4 rfl) ?_
                    refine lv_aload_n hx hb dX4_join_135 rfl (lv_at hl 0 rfl) ?_
                    refine va_get (D := D) (ci := 4) (v := .int (nI (fwN Q P M a))) (C := RX4) (T := TX4) (N := 16) hx hb hts hi_X4_join_X4 hown hT.1 hP 0 rfl rfl 10 (by decide) (hts (.fieldLink RX4 120 "SlotStarModel" "forths" "I") (List.mem_of_getElem? (i := 1) rfl)) (fun _ h9 => h9) rfl dX4_join_136 ?_
                    refine lv_icmp_ge (tgt := 176) hx hb dX4_join_139 (by decide) (fun c_8 => ?_) (fun c_8 => ?_)
                    · exfalso; exact nI_ge (show j < fwN Q P M a by omega) (by omega) c_8
                    · skip
                      have hsu := slR_u (P := P) (M := M) (show Q ≤ 48 by omega) a fFo fBk j (by omega)
                      have hmo : (j + sv) % fwN Q P M a < fwN Q P M a := Nat.mod_lt _ (by omega)
                      have hsw := slR_v (P := P) (M := M) (show Q ≤ 48 by omega) a fFo fBk ((j + sv) % fwN Q P M a) (by omega)
                      refine lv_iload_n hx hb dX4_join_142 rfl (lv_at hl 3 rfl) ?_
                      refine lv_aload_n hx hb dX4_join_143 rfl (lv_at hl 0 rfl) ?_
                      refine lv_aload_n hx hb dX4_join_144 rfl (lv_at hl 0 rfl) ?_
                      refine va_get (D := D) (ci := 4) (v := .ref aFo) (C := RX4) (T := TX4) (N := 16) hx hb hts hi_X4_join_X4 hown hT.1 hP 0 rfl rfl 8 (by decide) (hts (.fieldLink RX4 35 "SlotStarModel" "forth" "[I") (List.mem_of_getElem? (i := 4) rfl)) (fun _ h9 => h9) rfl dX4_join_145 ?_
                      refine lv_iload hx hb dX4_join_148 (lv_at hl 4 rfl) ?_
                      refine ld_i hx hb hT hP 1 rfl dX4_join_150 (k := j) rfl (by omega) (by decide) ?_
                      refine top_eq (z := (nI (cl ((clS Q P M a fFo fBk).2.2.1 j)))) (by exact hsu.1) ?_
                      refine lv_aload_n hx hb dX4_join_151 rfl (lv_at hl 0 rfl) ?_
                      refine va_get (D := D) (ci := 4) (v := .ref aBk) (C := RX4) (T := TX4) (N := 16) hx hb hts hi_X4_join_X4 hown hT.1 hP 0 rfl rfl 9 (by decide) (hts (.fieldLink RX4 38 "SlotStarModel" "back" "[I") (List.mem_of_getElem? (i := 5) rfl)) (fun _ h9 => h9) rfl dX4_join_152 ?_
                      refine lv_iload hx hb dX4_join_155 (lv_at hl 4 rfl) ?_
                      refine lv_iload_n hx hb dX4_join_157 rfl (lv_at hl 2 rfl) ?_
                      refine lv_iadd hx hb dX4_join_158 ?_
                      refine top_eq (z := (nI (j + sv))) (by exact nI_add _ _) ?_
                      refine lv_aload_n hx hb dX4_join_159 rfl (lv_at hl 0 rfl) ?_
                      refine va_get (D := D) (ci := 4) (v := .int (nI (bkN Q P M a))) (C := RX4) (T := TX4) (N := 16) hx hb hts hi_X4_join_X4 hown hT.1 hP 0 rfl rfl 11 (by decide) (hts (.fieldLink RX4 123 "SlotStarModel" "backs" "I") (List.mem_of_getElem? (i := 2) rfl)) (fun _ h9 => h9) rfl dX4_join_160 ?_
                      refine lv_irem hx hb dX4_join_163 (nI_ne0 (by omega) (by omega)) ?_
                      refine top_eq (z := (nI ((j + sv) % fwN Q P M a))) (by rw [hj]; exact pk_rem (by omega) (by omega) (by omega)) ?_
                      refine ld_i hx hb hT hP 2 rfl dX4_join_164 (k := ((j + sv) % fwN Q P M a)) rfl (by omega) (by decide) ?_
                      refine top_eq (z := (nI (cl ((clS Q P M a fFo fBk).2.2.2 ((j + sv) % fwN Q P M a))))) (by exact hsw.1) ?_
                      refine ro_V (As := [.int (nI (cl ((clS Q P M a fFo fBk).2.2.1 j))), .int (nI (cl ((clS Q P M a fFo fBk).2.2.2 ((j + sv) % fwN Q P M a))))]) (rest := [.int (nI t)]) ⟨hx, hb, hml, hown, hts⟩ hT hP (k_X4_wayOf l D cI cZ aO Q P M Wd aOw aDg aWk aSm aFo aBk (fwN Q P M a) (bkN Q P M a) y2 x2 aIm aKp (cl ((clS Q P M a fFo fBk).2.2.1 j)) (cl ((clS Q P M a fFo fBk).2.2.2 ((j + sv) % fwN Q P M a))) (by omega) (hsu.2) (hsw.2)) gX4_join_X4_wayOf rfl rfl nd_X4_wayOf [0] rfl (ci := 4) rfl rfl (q0 := 0) rfl hl.1 rfl rfl (Nat.le_of_ble_eq_true rfl) ⟨Nat.le_of_ble_eq_true rfl, Nat.le_of_ble_eq_true rfl⟩ ⟨rfl, rfl⟩ ⟨Nat.zero_le _, Nat.zero_le _⟩ dX4_join_165 ?_
                      refine lv_iadd hx hb dX4_join_168 ?_
                      refine top_eq (z := (nI (t + wB Q (cl ((clS Q P M a fFo fBk).2.2.1 j)) (cl ((clS Q P M a fFo fBk).2.2.2 ((j + sv) % fwN Q P M a)))))) (by exact nI_add _ _) ?_
                      refine lv_istore_n (lv' := [(3, .int (nI (t + wB Q (cl ((clS Q P M a fFo fBk).2.2.1 j)) (cl ((clS Q P M a fFo fBk).2.2.2 ((j + sv) % fwN Q P M a)))))), (0, .ref aO), (1, .int a), (2, .int (nI sv)), (4, .int (nI j))]) hx hb dX4_join_169 rfl hl (by decide) rfl (fun ls hl => ?_)
                      refine lv_iinc (v := nI (j + 1)) (lv' := [(4, .int (nI (j + 1))), (3, .int (nI (t + wB Q (cl ((clS Q P M a fFo fBk).2.2.1 j)) (cl ((clS Q P M a fFo fBk).2.2.2 ((j + sv) % fwN Q P M a)))))), (0, .ref aO), (1, .int a), (2, .int (nI sv))]) hx hb dX4_join_170 hl (k := 4) rfl ((nI_succ j).symm) (by decide) rfl (fun ls hl => ?_)
                      refine lv_goto (tgt := 133) hx hb dX4_join_173 (by decide) ?_
                      exact ih_133 (j + 1) (t + wB Q (cl ((clS Q P M a fFo fBk).2.2.1 j)) (cl ((clS Q P M a fFo fBk).2.2.2 ((j + sv) % fwN Q P M a)))) (by omega) (by rw [h8]; rfl) _ _ hP hD hS ls (lv_sub hl [2, 3, 4, 1, 0] rfl)
                exact L_133 (fwN Q P M a) 0 0 (by omega) ((wyS_of fFo fBk sv hj).symm) _ _ hP hD hS ls (lv_sub hl [2, 3, 4, 1, 0] rfl)
          exact L_120 (fwN Q P M a) 0 0 0 (by omega) rfl _ _ hP hD hS ls (lv_sub hl [1, 2, 0] rfl)
        · skip
          have hj : ¬ fwN Q P M a = bkN Q P M a := fun q => c_2 (by rw [q])
          refine lv_iconst (v := 0) hx hb dX4_join_106 (by decide) ?_
          exact mu_retz hx hb hr hlocks dX4_join_107 (by rw [if_neg hj, if_neg hj]; exact hP) hS (by unfold jnR; rw [if_neg hj]) (by exact jnR01 _ _ _ _)
      · exfalso; exact c_1 (nI_le (by omega) (by omega))
    | succ f ih_12 =>
      intro i x y u v h1 h3 h2 H locs hP hD hS ls hl
      refine lv_iload_n hx hb dX4_join_12 rfl (lv_at hl 2 rfl) ?_
      refine lv_aload_n hx hb dX4_join_13 rfl (lv_at hl 0 rfl) ?_
      refine va_get (D := D) (ci := 4) (v := .int (nI Q)) (C := RX4) (T := TX4) (N := 16) hx hb hts hi_X4_join_X4 hown hT.1 hP 0 rfl rfl 0 (by decide) (hts (.fieldLink RX4 7 "SlotStarModel" "slots" "I") (List.mem_of_getElem? (i := 3) rfl)) (fun _ h9 => h9) rfl dX4_join_14 ?_
      refine lv_icmp_ge (tgt := 95) hx hb dX4_join_17 (by decide) (fun c_9 => ?_) (fun c_9 => ?_)
      · exfalso; exact nI_ge (show i < Q by omega) (by omega) c_9
      · skip
        refine lv_aload_n hx hb dX4_join_20 rfl (lv_at hl 0 rfl) ?_
        refine lv_iload_n hx hb dX4_join_21 rfl (lv_at hl 2 rfl) ?_
        refine ro_V (As := [.int (nI i)]) (rest := []) ⟨hx, hb, hml, hown, hts⟩ hT hP (k_X4_phaseOf l D cI cZ aO Q P M Wd aOw aDg aWk aSm aFo aBk x y le sf aIm aKp i hv (by omega)) gX4_join_X4_phaseOf rfl rfl nd_X4_phaseOf [0] rfl (ci := 4) rfl rfl (q0 := 0) rfl hl.1 rfl rfl (Nat.le_of_ble_eq_true rfl) ⟨Nat.le_of_ble_eq_true rfl, Nat.le_of_ble_eq_true rfl⟩ ⟨rfl, rfl⟩ ⟨Nat.zero_le _, Nat.zero_le _⟩ dX4_join_22 ?_
        refine lv_iload_n hx hb dX4_join_25 rfl (lv_at hl 1 rfl) ?_
        refine lv_icmp_ne (tgt := 60) hx hb dX4_join_26 (by decide) (fun c_10 => ?_) (fun c_10 => ?_)
        · skip
          refine lv_aload_n hx hb dX4_join_60 rfl (lv_at hl 0 rfl) ?_
          refine lv_iload_n hx hb dX4_join_61 rfl (lv_at hl 2 rfl) ?_
          refine ro_V (As := [.int (nI i)]) (rest := []) ⟨hx, hb, hml, hown, hts⟩ hT hP (k_X4_phaseOf l D cI cZ aO Q P M Wd aOw aDg aWk aSm aFo aBk x y le sf aIm aKp i hv (by omega)) gX4_join_X4_phaseOf rfl rfl nd_X4_phaseOf [0] rfl (ci := 4) rfl rfl (q0 := 0) rfl hl.1 rfl rfl (Nat.le_of_ble_eq_true rfl) ⟨Nat.le_of_ble_eq_true rfl, Nat.le_of_ble_eq_true rfl⟩ ⟨rfl, rfl⟩ ⟨Nat.zero_le _, Nat.zero_le _⟩ dX4_join_62 ?_
          refine lv_iload_n hx hb dX4_join_65 rfl (lv_at hl 1 rfl) ?_
          refine lv_icmp_ne (tgt := 89) hx hb dX4_join_66 (by decide) (fun c_11 => ?_) (fun c_11 => ?_)
          · skip
            refine lv_iinc (v := nI (i + 1)) (lv' := [(2, .int (nI (i + 1))), (0, .ref aO), (1, .int a)]) hx hb dX4_join_89 hl (k := 2) rfl ((nI_succ i).symm) (by decide) rfl (fun ls hl => ?_)
            refine lv_goto (tgt := 12) hx hb dX4_join_92 (by decide) ?_
            exact ih_12 (i + 1) x y _ _ (by omega) (by omega) (by rw [h2]; simp [clL, c_9, c_10, c_11]) _ _ hP hD hS ls (lv_sub hl [1, 2, 0] rfl)
          · exfalso; exact c_10 c_11
        · skip
          refine lv_aload_n hx hb dX4_join_29 rfl (lv_at hl 0 rfl) ?_
          refine lv_iload_n hx hb dX4_join_30 rfl (lv_at hl 2 rfl) ?_
          refine ro_V (As := [.int (nI i)]) (rest := []) ⟨hx, hb, hml, hown, hts⟩ hT hP (k_X4_isForward l D cI cZ aO Q P M Wd aOw aDg aWk aSm aFo aBk x y le sf aIm aKp i hv (by omega)) gX4_join_X4_isForward rfl rfl nd_X4_isForward [0] rfl (ci := 4) rfl rfl (q0 := 0) rfl hl.1 rfl rfl (Nat.le_of_ble_eq_true rfl) ⟨Nat.le_of_ble_eq_true rfl, Nat.le_of_ble_eq_true rfl⟩ ⟨rfl, rfl⟩ ⟨Nat.zero_le _, Nat.zero_le _⟩ dX4_join_31 ?_
          refine lv_if_eq (tgt := 60) hx hb dX4_join_34 (by decide) (fun c_12 => ?_) (fun c_12 => ?_)
          · skip
            refine lv_aload_n hx hb dX4_join_60 rfl (lv_at hl 0 rfl) ?_
            refine lv_iload_n hx hb dX4_join_61 rfl (lv_at hl 2 rfl) ?_
            refine ro_V (As := [.int (nI i)]) (rest := []) ⟨hx, hb, hml, hown, hts⟩ hT hP (k_X4_phaseOf l D cI cZ aO Q P M Wd aOw aDg aWk aSm aFo aBk x y le sf aIm aKp i hv (by omega)) gX4_join_X4_phaseOf rfl rfl nd_X4_phaseOf [0] rfl (ci := 4) rfl rfl (q0 := 0) rfl hl.1 rfl rfl (Nat.le_of_ble_eq_true rfl) ⟨Nat.le_of_ble_eq_true rfl, Nat.le_of_ble_eq_true rfl⟩ ⟨rfl, rfl⟩ ⟨Nat.zero_le _, Nat.zero_le _⟩ dX4_join_62 ?_
            refine lv_iload_n hx hb dX4_join_65 rfl (lv_at hl 1 rfl) ?_
            refine lv_icmp_ne (tgt := 89) hx hb dX4_join_66 (by decide) (fun c_13 => ?_) (fun c_13 => ?_)
            · exfalso; exact c_13 c_10
            · skip
              refine lv_aload_n hx hb dX4_join_69 rfl (lv_at hl 0 rfl) ?_
              refine va_get (D := D) (ci := 4) (v := .ref aBk) (C := RX4) (T := TX4) (N := 16) hx hb hts hi_X4_join_X4 hown hT.1 hP 0 rfl rfl 9 (by decide) (hts (.fieldLink RX4 38 "SlotStarModel" "back" "[I") (List.mem_of_getElem? (i := 5) rfl)) (fun _ h9 => h9) rfl dX4_join_70 ?_
              refine lv_aload_n hx hb dX4_join_73 rfl (lv_at hl 0 rfl) ?_
              refine va_get (D := D) (ci := 4) (v := .int (nI y)) (C := RX4) (T := TX4) (N := 16) hx hb hts hi_X4_join_X4 hown hT.1 hP 0 rfl rfl 11 (by decide) (hts (.fieldLink RX4 123 "SlotStarModel" "backs" "I") (List.mem_of_getElem? (i := 2) rfl)) (fun _ h9 => h9) rfl dX4_join_74 ?_
              refine lv_iload_n hx hb dX4_join_77 rfl (lv_at hl 2 rfl) ?_
              refine st_i hx hb hT hP hD hS 2 rfl dX4_join_78 (k := y) (W1 := [(aO, .inr (4, [.int (nI Q), .int (nI P), .int (nI M), .int (nI Wd), .ref aOw, .ref aDg, .ref aWk, .ref aSm, .ref aFo, .ref aBk, .int (nI x), .int (nI y), .int (nI le), .int (nI sf), .ref aIm, .ref aKp])), (aFo, .inl (cI, 48, .inl u)), (aBk, .inl (cI, 48, .inl (upd v y (nI i))))]) rfl (by omega) (by decide) rfl (fun H locs hP hD hS => ?_)
              refine lv_aload_n hx hb dX4_join_79 rfl (lv_at hl 0 rfl) ?_
              refine lv_dup hx hb dX4_join_80 rfl ?_
              refine va_get (D := D) (ci := 4) (v := .int (nI y)) (C := RX4) (T := TX4) (N := 16) hx hb hts hi_X4_join_X4 hown hT.1 hP 0 rfl rfl 11 (by decide) (hts (.fieldLink RX4 123 "SlotStarModel" "backs" "I") (List.mem_of_getElem? (i := 2) rfl)) (fun _ h9 => h9) rfl dX4_join_81 ?_
              refine lv_iconst (v := 1) hx hb dX4_join_84 (by decide) ?_
              refine lv_iadd hx hb dX4_join_85 ?_
              refine top_eq (z := (nI (y + 1))) (by exact nI_1 y) ?_
              refine va_put (D := D) (ci := 4) (v := .int (nI (y + 1))) (ty := .int) (C := RX4) (T := TX4) (N := 16) hx hb hts hi_X4_join_X4 tyX4 tyX4_ok nmX4 hown hT.1 hP hD hS 0 rfl rfl 11 (by decide) (hts (.fieldLink RX4 123 "SlotStarModel" "backs" "I") (List.mem_of_getElem? (i := 2) rfl)) (fun _ h9 => h9) rfl (by decide +kernel) rfl rfl (Nat.le_of_ble_eq_true rfl) dX4_join_86 (fun H locs hP hD hS => ?_)
              have hP : va_P D cls5 [(aO, .inr (4, [.int (nI Q), .int (nI P), .int (nI M), .int (nI Wd), .ref aOw, .ref aDg, .ref aWk, .ref aSm, .ref aFo, .ref aBk, .int (nI x), .int (nI (y + 1)), .int (nI le), .int (nI sf), .ref aIm, .ref aKp])), (aFo, .inl (cI, 48, .inl u)), (aBk, .inl (cI, 48, .inl (upd v y (nI i))))] H := hP
              have hD : va_D (va_M [(aO, .inr (4, [.int (nI Q), .int (nI P), .int (nI M), .int (nI Wd), .ref aOw, .ref aDg, .ref aWk, .ref aSm, .ref aFo, .ref aBk, .int (nI fo), .int (nI ba), .int (nI le), .int (nI sf), .ref aIm, .ref aKp])), (aFo, .inl (cI, 48, .inl fFo)), (aBk, .inl (cI, 48, .inl fBk))]) [(aO, .inr (4, [.int (nI Q), .int (nI P), .int (nI M), .int (nI Wd), .ref aOw, .ref aDg, .ref aWk, .ref aSm, .ref aFo, .ref aBk, .int (nI x), .int (nI (y + 1)), .int (nI le), .int (nI sf), .ref aIm, .ref aKp])), (aFo, .inl (cI, 48, .inl u)), (aBk, .inl (cI, 48, .inl (upd v y (nI i))))] := hD
              refine lv_iinc (v := nI (i + 1)) (lv' := [(2, .int (nI (i + 1))), (0, .ref aO), (1, .int a)]) hx hb dX4_join_89 hl (k := 2) rfl ((nI_succ i).symm) (by decide) rfl (fun ls hl => ?_)
              refine lv_goto (tgt := 12) hx hb dX4_join_92 (by decide) ?_
              exact ih_12 (i + 1) x (y + 1) _ _ (by omega) (by omega) (by rw [h2]; simp [clL, c_9, c_10, c_12, c_13]) _ _ hP hD hS ls (lv_sub hl [1, 2, 0] rfl)
          · skip
            refine lv_aload_n hx hb dX4_join_37 rfl (lv_at hl 0 rfl) ?_
            refine va_get (D := D) (ci := 4) (v := .ref aFo) (C := RX4) (T := TX4) (N := 16) hx hb hts hi_X4_join_X4 hown hT.1 hP 0 rfl rfl 8 (by decide) (hts (.fieldLink RX4 35 "SlotStarModel" "forth" "[I") (List.mem_of_getElem? (i := 4) rfl)) (fun _ h9 => h9) rfl dX4_join_38 ?_
            refine lv_aload_n hx hb dX4_join_41 rfl (lv_at hl 0 rfl) ?_
            refine va_get (D := D) (ci := 4) (v := .int (nI x)) (C := RX4) (T := TX4) (N := 16) hx hb hts hi_X4_join_X4 hown hT.1 hP 0 rfl rfl 10 (by decide) (hts (.fieldLink RX4 120 "SlotStarModel" "forths" "I") (List.mem_of_getElem? (i := 1) rfl)) (fun _ h9 => h9) rfl dX4_join_42 ?_
            refine lv_iload_n hx hb dX4_join_45 rfl (lv_at hl 2 rfl) ?_
            refine st_i hx hb hT hP hD hS 1 rfl dX4_join_46 (k := x) (W1 := [(aO, .inr (4, [.int (nI Q), .int (nI P), .int (nI M), .int (nI Wd), .ref aOw, .ref aDg, .ref aWk, .ref aSm, .ref aFo, .ref aBk, .int (nI x), .int (nI y), .int (nI le), .int (nI sf), .ref aIm, .ref aKp])), (aFo, .inl (cI, 48, .inl (upd u x (nI i)))), (aBk, .inl (cI, 48, .inl v))]) rfl (by omega) (by decide) rfl (fun H locs hP hD hS => ?_)
            refine lv_aload_n hx hb dX4_join_47 rfl (lv_at hl 0 rfl) ?_
            refine lv_dup hx hb dX4_join_48 rfl ?_
            refine va_get (D := D) (ci := 4) (v := .int (nI x)) (C := RX4) (T := TX4) (N := 16) hx hb hts hi_X4_join_X4 hown hT.1 hP 0 rfl rfl 10 (by decide) (hts (.fieldLink RX4 120 "SlotStarModel" "forths" "I") (List.mem_of_getElem? (i := 1) rfl)) (fun _ h9 => h9) rfl dX4_join_49 ?_
            refine lv_iconst (v := 1) hx hb dX4_join_52 (by decide) ?_
            refine lv_iadd hx hb dX4_join_53 ?_
            refine top_eq (z := (nI (x + 1))) (by exact nI_1 x) ?_
            refine va_put (D := D) (ci := 4) (v := .int (nI (x + 1))) (ty := .int) (C := RX4) (T := TX4) (N := 16) hx hb hts hi_X4_join_X4 tyX4 tyX4_ok nmX4 hown hT.1 hP hD hS 0 rfl rfl 10 (by decide) (hts (.fieldLink RX4 120 "SlotStarModel" "forths" "I") (List.mem_of_getElem? (i := 1) rfl)) (fun _ h9 => h9) rfl (by decide +kernel) rfl rfl (Nat.le_of_ble_eq_true rfl) dX4_join_54 (fun H locs hP hD hS => ?_)
            have hP : va_P D cls5 [(aO, .inr (4, [.int (nI Q), .int (nI P), .int (nI M), .int (nI Wd), .ref aOw, .ref aDg, .ref aWk, .ref aSm, .ref aFo, .ref aBk, .int (nI (x + 1)), .int (nI y), .int (nI le), .int (nI sf), .ref aIm, .ref aKp])), (aFo, .inl (cI, 48, .inl (upd u x (nI i)))), (aBk, .inl (cI, 48, .inl v))] H := hP
            have hD : va_D (va_M [(aO, .inr (4, [.int (nI Q), .int (nI P), .int (nI M), .int (nI Wd), .ref aOw, .ref aDg, .ref aWk, .ref aSm, .ref aFo, .ref aBk, .int (nI fo), .int (nI ba), .int (nI le), .int (nI sf), .ref aIm, .ref aKp])), (aFo, .inl (cI, 48, .inl fFo)), (aBk, .inl (cI, 48, .inl fBk))]) [(aO, .inr (4, [.int (nI Q), .int (nI P), .int (nI M), .int (nI Wd), .ref aOw, .ref aDg, .ref aWk, .ref aSm, .ref aFo, .ref aBk, .int (nI (x + 1)), .int (nI y), .int (nI le), .int (nI sf), .ref aIm, .ref aKp])), (aFo, .inl (cI, 48, .inl (upd u x (nI i)))), (aBk, .inl (cI, 48, .inl v))] := hD
            refine lv_goto (tgt := 89) hx hb dX4_join_57 (by decide) ?_
            refine lv_iinc (v := nI (i + 1)) (lv' := [(2, .int (nI (i + 1))), (0, .ref aO), (1, .int a)]) hx hb dX4_join_89 hl (k := 2) rfl ((nI_succ i).symm) (by decide) rfl (fun ls hl => ?_)
            refine lv_goto (tgt := 12) hx hb dX4_join_92 (by decide) ?_
            exact ih_12 (i + 1) (x + 1) y _ _ (by omega) (by omega) (by rw [h2]; simp [clL, c_9, c_10, c_12]) _ _ hP hD hS ls (lv_sub hl [1, 2, 0] rfl)
  exact L_12 Q 0 0 0 fFo fBk (by omega) (by omega) rfl _ _ hP hD hS ls (lv_sub hl [1, 2, 0] rfl)

set_option maxRecDepth 20000 in
theorem hi_X4_joined_X4 : ∀ w ∈ wsX40, w ∈ wsX4_joined := by
  intro w h
  unfold wsX4_joined
  simp only [List.mem_cons, List.mem_append, h, or_true, true_or]
theorem nd_X4_joined : okName yX4_joined 2 := by decide +kernel
set_option maxHeartbeats 4000000 in
set_option maxRecDepth 100000 in
theorem k_X4_joined (l : Launch) (D : va_G) (cI cZ : ClassId) (aO : Nat) (Q : Nat) (P : Nat) (M : Nat) (Wd : Nat) (aOw : Nat) (aDg : Nat) (aWk : Nat) (aSm : Nat) (aFo : Nat) (aBk : Nat) (fo : Nat) (ba : Nat) (le : Nat) (sf : Nat) (aIm : Nat) (aKp : Nat) (fFo : Nat → Int32) (fBk : Nat → Int32) (a : Int32) (what : Int32) (hv : MV Q P M Wd) : ME l yX4_joined wsX4_joined ({ frames := 6, cells := 0, slots := 0, locals := 132 } : Room) D cI cZ [(aO, .inr (4, [.int (nI Q), .int (nI P), .int (nI M), .int (nI Wd), .ref aOw, .ref aDg, .ref aWk, .ref aSm, .ref aFo, .ref aBk, .int (nI fo), .int (nI ba), .int (nI le), .int (nI sf), .ref aIm, .ref aKp])), (aFo, .inl (cI, 48, .inl fFo)), (aBk, .inl (cI, 48, .inl fBk))] [.ref aO, .int a, .int what] (some (.int (sJoi Q P M a what))) (fun z => ∃ (fo' : Nat) (ba' : Nat) (le' : Nat) (sf' : Nat) (fFo' : Nat → Int32) (fBk' : Nat → Int32), z = [(aO, .inr (4, [.int (nI Q), .int (nI P), .int (nI M), .int (nI Wd), .ref aOw, .ref aDg, .ref aWk, .ref aSm, .ref aFo, .ref aBk, .int (nI fo'), .int (nI ba'), .int (nI le'), .int (nI sf'), .ref aIm, .ref aKp])), (aFo, .inl (cI, 48, .inl fFo')), (aBk, .inl (cI, 48, .inl fBk'))]) := by
  refine me_start (by decide) rfl (Nat.le_of_ble_eq_true rfl) ?_
  intro p e s m args below meth c hx hb hr hml hlocks hts hown hT hP hD hS ls hl
  have hown : s.vm.findClass RX4 = some m.cls := hown
  have hl : lv_has ls 3 [(0, .ref aO), (1, .int a), (2, .int what)] := hl
  refine lv_aload_n hx hb dX4_joined_0 rfl (lv_at hl 0 rfl) ?_
  refine lv_iload_n hx hb dX4_joined_1 rfl (lv_at hl 1 rfl) ?_
  refine ro_V (As := [.int a]) (rest := []) ⟨hx, hb, hml, hown, hts⟩ hT hP (k_X4_isPhase l D cI cZ aO Q P M Wd aOw aDg aWk aSm aFo aBk fo ba le sf aIm aKp a) gX4_joined_X4_isPhase rfl rfl nd_X4_isPhase [0] rfl (ci := 4) rfl rfl (q0 := 0) rfl hl.1 rfl rfl (Nat.le_of_ble_eq_true rfl) ⟨Nat.le_of_ble_eq_true rfl, Nat.le_of_ble_eq_true rfl⟩ ⟨rfl, rfl⟩ ⟨Nat.zero_le _, Nat.zero_le _⟩ dX4_joined_2 ?_
  refine lv_if_ne (tgt := 10) hx hb dX4_joined_5 (by decide) (fun c_1 => ?_) (fun c_1 => ?_)
  · skip
    refine lv_iload_n hx hb dX4_joined_10 rfl (lv_at hl 2 rfl) ?_
    refine lv_iconst (v := 0) hx hb dX4_joined_11 (by decide) ?_
    refine lv_iconst (v := 2) hx hb dX4_joined_12 (by decide) ?_
    refine ro_S (As := [.int what, .int 0, .int 2]) (rest := []) ⟨hx, hb, hml, hown, hts⟩ hT hP (k_X4_in l D cI cZ what 0 2) gX4_joined_X4_in rfl nd_X4_in [] rfl hl.1 rfl rfl (Nat.le_of_ble_eq_true rfl) ⟨Nat.le_of_ble_eq_true rfl, Nat.le_of_ble_eq_true rfl⟩ ⟨rfl, rfl⟩ ⟨Nat.zero_le _, Nat.zero_le _⟩ dX4_joined_13 ?_
    refine lv_if_ne (tgt := 22) hx hb dX4_joined_16 (by decide) (fun c_2 => ?_) (fun c_2 => ?_)
    · skip
      refine lv_aload_n hx hb dX4_joined_22 rfl (lv_at hl 0 rfl) ?_
      refine ro_V (As := []) (rest := []) ⟨hx, hb, hml, hown, hts⟩ hT hP (k_X4_isBalanced l D cI cZ aO Q P M Wd aOw aDg aWk aSm aFo aBk fo ba le sf aIm aKp hv) gX4_joined_X4_isBalanced rfl rfl nd_X4_isBalanced [0] rfl (ci := 4) rfl rfl (q0 := 0) rfl hl.1 rfl rfl (Nat.le_of_ble_eq_true rfl) ⟨Nat.le_of_ble_eq_true rfl, Nat.le_of_ble_eq_true rfl⟩ ⟨rfl, rfl⟩ ⟨Nat.zero_le _, Nat.zero_le _⟩ dX4_joined_23 ?_
      refine lv_if_ne (tgt := 32) hx hb dX4_joined_26 (by decide) (fun c_3 => ?_) (fun c_3 => ?_)
      · skip
        refine lv_aload_n hx hb dX4_joined_32 rfl (lv_at hl 0 rfl) ?_
        refine lv_iload_n hx hb dX4_joined_33 rfl (lv_at hl 1 rfl) ?_
        refine mu_V (As := [.int a]) (rest := []) (W1 := [(aO, .inr (4, [.int (nI Q), .int (nI P), .int (nI M), .int (nI Wd), .ref aOw, .ref aDg, .ref aWk, .ref aSm, .ref aFo, .ref aBk, .int (nI (fwN Q P M a)), .int (nI (bkN Q P M a)), .int (nI (if fwN Q P M a = bkN Q P M a then (joS Q P M a).2 else le)), .int (nI (if fwN Q P M a = bkN Q P M a then (joS Q P M a).1 else sf)), .ref aIm, .ref aKp])), (aFo, .inl (cI, 48, .inl ((clS Q P M a fFo fBk).2.2.1))), (aBk, .inl (cI, 48, .inl ((clS Q P M a fFo fBk).2.2.2)))]) (st1 := [.int (jnR Q P M a)]) ⟨hx, hb, hml, hown, hts⟩ hT hP hD hS (k_X4_join l D cI cZ aO Q P M Wd aOw aDg aWk aSm aFo aBk fo ba le sf aIm aKp fFo fBk a hv) gX4_joined_X4_join rfl rfl nd_X4_join [0, 1, 2] (by decide) rfl rfl rfl rfl (ci := 4) rfl rfl (q0 := 0) rfl hl.1 rfl rfl (Nat.le_of_ble_eq_true rfl) ⟨Nat.le_of_ble_eq_true rfl, Nat.le_of_ble_eq_true rfl⟩ ⟨rfl, rfl⟩ ⟨Nat.zero_le _, Nat.zero_le _⟩ dX4_joined_34 (fun H locs hP hD hS => ?_)
        refine lv_if_ne (tgt := 43) hx hb dX4_joined_37 (by decide) (fun c_4 => ?_) (fun c_4 => ?_)
        · skip
          have hj := jnR_ne c_4
          refine lv_iload_n hx hb dX4_joined_43 rfl (lv_at hl 2 rfl) ?_
          refine lv_if_ne (tgt := 54) hx hb dX4_joined_44 (by decide) (fun c_5 => ?_) (fun c_5 => ?_)
          · skip
            refine lv_iload_n hx hb dX4_joined_54 rfl (lv_at hl 2 rfl) ?_
            refine lv_iconst (v := 1) hx hb dX4_joined_55 (by decide) ?_
            refine lv_icmp_ne (tgt := 66) hx hb dX4_joined_56 (by decide) (fun c_6 => ?_) (fun c_6 => ?_)
            · skip
              refine lv_aload_n hx hb dX4_joined_66 rfl (lv_at hl 0 rfl) ?_
              refine va_get (D := D) (ci := 4) (v := .int (nI (fwN Q P M a))) (C := RX4) (T := TX4) (N := 16) hx hb hts hi_X4_joined_X4 hown hT.1 hP 0 rfl rfl 10 (by decide) (hts (.fieldLink RX4 120 "SlotStarModel" "forths" "I") (List.mem_of_getElem? (i := 3) rfl)) (fun _ h9 => h9) rfl dX4_joined_67 ?_
              exact me_ret hx hb hr hlocks dX4_joined_70 (hP) ⟨_, _, _, _, _, _, rfl⟩ hS (by first | simp [sJoi, c_1, c_2, c_3, c_4, c_5, c_6, hj] | simp [sJoi, c_1, c_2, c_3, c_4, c_5, c_6])
            · skip
              refine lv_aload_n hx hb dX4_joined_59 rfl (lv_at hl 0 rfl) ?_
              refine va_get (D := D) (ci := 4) (v := .int (nI (if fwN Q P M a = bkN Q P M a then (joS Q P M a).1 else sf))) (C := RX4) (T := TX4) (N := 16) hx hb hts hi_X4_joined_X4 hown hT.1 hP 0 rfl rfl 13 (by decide) (hts (.fieldLink RX4 129 "SlotStarModel" "shift" "I") (List.mem_of_getElem? (i := 2) rfl)) (fun _ h9 => h9) rfl dX4_joined_60 ?_
              refine lv_goto (tgt := 70) hx hb dX4_joined_63 (by decide) ?_
              exact me_ret hx hb hr hlocks dX4_joined_70 (hP) ⟨_, _, _, _, _, _, rfl⟩ hS (by first | simp [sJoi, c_1, c_2, c_3, c_4, c_5, eq_true c_6, hj] | simp [sJoi, c_1, c_2, c_3, c_4, c_5, eq_true c_6])
          · skip
            refine lv_aload_n hx hb dX4_joined_47 rfl (lv_at hl 0 rfl) ?_
            refine va_get (D := D) (ci := 4) (v := .int (nI (if fwN Q P M a = bkN Q P M a then (joS Q P M a).2 else le))) (C := RX4) (T := TX4) (N := 16) hx hb hts hi_X4_joined_X4 hown hT.1 hP 0 rfl rfl 12 (by decide) (hts (.fieldLink RX4 126 "SlotStarModel" "least" "I") (List.mem_of_getElem? (i := 1) rfl)) (fun _ h9 => h9) rfl dX4_joined_48 ?_
            refine lv_goto (tgt := 70) hx hb dX4_joined_51 (by decide) ?_
            exact me_ret hx hb hr hlocks dX4_joined_70 (hP) ⟨_, _, _, _, _, _, rfl⟩ hS (by first | simp [sJoi, c_1, c_2, c_3, c_4, eq_true c_5, hj] | simp [sJoi, c_1, c_2, c_3, c_4, eq_true c_5])
        · skip
          refine lv_bipush (v := (-5)) hx hb dX4_joined_40 (by decide) ?_
          exact me_ret hx hb hr hlocks dX4_joined_42 (hP) ⟨_, _, _, _, _, _, rfl⟩ hS (by first | simp [sJoi, c_1, c_2, c_3, eq_true c_4, hj] | simp [sJoi, c_1, c_2, c_3, eq_true c_4])
      · skip
        refine lv_bipush (v := (-3)) hx hb dX4_joined_29 (by decide) ?_
        exact me_ret hx hb hr hlocks dX4_joined_31 (hP) ⟨_, _, _, _, _, _, rfl⟩ hS (by first | simp [sJoi, c_1, c_2, eq_true c_3, hj] | simp [sJoi, c_1, c_2, eq_true c_3])
    · skip
      refine lv_bipush (v := (-2)) hx hb dX4_joined_19 (by decide) ?_
      exact me_ret hx hb hr hlocks dX4_joined_21 (hP) ⟨_, _, _, _, _, _, rfl⟩ hS (by first | simp [sJoi, c_1, eq_true c_2, hj] | simp [sJoi, c_1, eq_true c_2])
  · skip
    refine lv_iconst (v := (-1)) hx hb dX4_joined_8 (by decide) ?_
    exact me_ret hx hb hr hlocks dX4_joined_9 (hP) ⟨_, _, _, _, _, _, rfl⟩ hS (by first | simp [sJoi, eq_true c_1, hj] | simp [sJoi, eq_true c_1])

set_option maxRecDepth 20000 in
theorem hi_X4_partner_X4 : ∀ w ∈ wsX40, w ∈ wsX4_partner := by
  intro w h
  unfold wsX4_partner
  simp only [List.mem_cons, List.mem_append, h, or_true, true_or]
theorem nd_X4_partner : okName yX4_partner 1 := by decide +kernel
set_option maxHeartbeats 4000000 in
set_option maxRecDepth 100000 in
theorem k_X4_partner (l : Launch) (D : va_G) (cI cZ : ClassId) (aO : Nat) (Q : Nat) (P : Nat) (M : Nat) (Wd : Nat) (aOw : Nat) (aDg : Nat) (aWk : Nat) (aSm : Nat) (aFo : Nat) (aBk : Nat) (fo : Nat) (ba : Nat) (le : Nat) (sf : Nat) (aIm : Nat) (aKp : Nat) (fFo : Nat → Int32) (fBk : Nat → Int32) (k : Int32) (hv : MV Q P M Wd) : ME l yX4_partner wsX4_partner ({ frames := 6, cells := 0, slots := 0, locals := 132 } : Room) D cI cZ [(aO, .inr (4, [.int (nI Q), .int (nI P), .int (nI M), .int (nI Wd), .ref aOw, .ref aDg, .ref aWk, .ref aSm, .ref aFo, .ref aBk, .int (nI fo), .int (nI ba), .int (nI le), .int (nI sf), .ref aIm, .ref aKp])), (aFo, .inl (cI, 48, .inl fFo)), (aBk, .inl (cI, 48, .inl fBk))] [.ref aO, .int k] (some (.int (sPar Q P M k))) (fun z => ∃ (fo' : Nat) (ba' : Nat) (le' : Nat) (sf' : Nat) (fFo' : Nat → Int32) (fBk' : Nat → Int32), z = [(aO, .inr (4, [.int (nI Q), .int (nI P), .int (nI M), .int (nI Wd), .ref aOw, .ref aDg, .ref aWk, .ref aSm, .ref aFo, .ref aBk, .int (nI fo'), .int (nI ba'), .int (nI le'), .int (nI sf'), .ref aIm, .ref aKp])), (aFo, .inl (cI, 48, .inl fFo')), (aBk, .inl (cI, 48, .inl fBk'))]) := by
  refine me_start (by decide) rfl (Nat.le_of_ble_eq_true rfl) ?_
  intro p e s m args below meth c hx hb hr hml hlocks hts hown hT hP hD hS ls hl
  have hown : s.vm.findClass RX4 = some m.cls := hown
  have hl : lv_has ls 5 [(0, .ref aO), (1, .int k)] := hl
  have hv' := hv
  unfold MV at hv'
  refine lv_aload_n hx hb dX4_partner_0 rfl (lv_at hl 0 rfl) ?_
  refine lv_iload_n hx hb dX4_partner_1 rfl (lv_at hl 1 rfl) ?_
  refine ro_V (As := [.int k]) (rest := []) ⟨hx, hb, hml, hown, hts⟩ hT hP (k_X4_isSlot l D cI cZ aO Q P M Wd aOw aDg aWk aSm aFo aBk fo ba le sf aIm aKp k) gX4_partner_X4_isSlot rfl rfl nd_X4_isSlot [0] rfl (ci := 4) rfl rfl (q0 := 0) rfl hl.1 rfl rfl (Nat.le_of_ble_eq_true rfl) ⟨Nat.le_of_ble_eq_true rfl, Nat.le_of_ble_eq_true rfl⟩ ⟨rfl, rfl⟩ ⟨Nat.zero_le _, Nat.zero_le _⟩ dX4_partner_2 ?_
  refine lv_if_ne (tgt := 10) hx hb dX4_partner_5 (by decide) (fun c_1 => ?_) (fun c_1 => ?_)
  · skip
    obtain ⟨k2, hk2, rfl⟩ := jIn_sl (by omega) c_1
    have hcl : cl (nI k2) = k2 := cl_nI (by omega)
    refine lv_aload_n hx hb dX4_partner_10 rfl (lv_at hl 0 rfl) ?_
    refine ro_V (As := []) (rest := []) ⟨hx, hb, hml, hown, hts⟩ hT hP (k_X4_isBalanced l D cI cZ aO Q P M Wd aOw aDg aWk aSm aFo aBk fo ba le sf aIm aKp hv) gX4_partner_X4_isBalanced rfl rfl nd_X4_isBalanced [0] rfl (ci := 4) rfl rfl (q0 := 0) rfl hl.1 rfl rfl (Nat.le_of_ble_eq_true rfl) ⟨Nat.le_of_ble_eq_true rfl, Nat.le_of_ble_eq_true rfl⟩ ⟨rfl, rfl⟩ ⟨Nat.zero_le _, Nat.zero_le _⟩ dX4_partner_11 ?_
    refine lv_if_ne (tgt := 20) hx hb dX4_partner_14 (by decide) (fun c_2 => ?_) (fun c_2 => ?_)
    · skip
      refine lv_aload_n hx hb dX4_partner_20 rfl (lv_at hl 0 rfl) ?_
      refine lv_aload_n hx hb dX4_partner_21 rfl (lv_at hl 0 rfl) ?_
      refine lv_iload_n hx hb dX4_partner_22 rfl (lv_at hl 1 rfl) ?_
      refine ro_V (As := [.int (nI k2)]) (rest := [.ref aO]) ⟨hx, hb, hml, hown, hts⟩ hT hP (k_X4_phaseOf l D cI cZ aO Q P M Wd aOw aDg aWk aSm aFo aBk fo ba le sf aIm aKp k2 hv (by omega)) gX4_partner_X4_phaseOf rfl rfl nd_X4_phaseOf [0] rfl (ci := 4) rfl rfl (q0 := 0) rfl hl.1 rfl rfl (Nat.le_of_ble_eq_true rfl) ⟨Nat.le_of_ble_eq_true rfl, Nat.le_of_ble_eq_true rfl⟩ ⟨rfl, rfl⟩ ⟨Nat.zero_le _, Nat.zero_le _⟩ dX4_partner_23 ?_
      refine mu_V (As := [.int (nI (ph Q P M k2))]) (rest := []) (W1 := [(aO, .inr (4, [.int (nI Q), .int (nI P), .int (nI M), .int (nI Wd), .ref aOw, .ref aDg, .ref aWk, .ref aSm, .ref aFo, .ref aBk, .int (nI (fwN Q P M (nI (ph Q P M k2)))), .int (nI (bkN Q P M (nI (ph Q P M k2)))), .int (nI (if fwN Q P M (nI (ph Q P M k2)) = bkN Q P M (nI (ph Q P M k2)) then (joS Q P M (nI (ph Q P M k2))).2 else le)), .int (nI (if fwN Q P M (nI (ph Q P M k2)) = bkN Q P M (nI (ph Q P M k2)) then (joS Q P M (nI (ph Q P M k2))).1 else sf)), .ref aIm, .ref aKp])), (aFo, .inl (cI, 48, .inl ((clS Q P M (nI (ph Q P M k2)) fFo fBk).2.2.1))), (aBk, .inl (cI, 48, .inl ((clS Q P M (nI (ph Q P M k2)) fFo fBk).2.2.2)))]) (st1 := [.int (jnR Q P M (nI (ph Q P M k2)))]) ⟨hx, hb, hml, hown, hts⟩ hT hP hD hS (k_X4_join l D cI cZ aO Q P M Wd aOw aDg aWk aSm aFo aBk fo ba le sf aIm aKp fFo fBk (nI (ph Q P M k2)) hv) gX4_partner_X4_join rfl rfl nd_X4_join [0, 1, 2] (by decide) rfl rfl rfl rfl (ci := 4) rfl rfl (q0 := 0) rfl hl.1 rfl rfl (Nat.le_of_ble_eq_true rfl) ⟨Nat.le_of_ble_eq_true rfl, Nat.le_of_ble_eq_true rfl⟩ ⟨rfl, rfl⟩ ⟨Nat.zero_le _, Nat.zero_le _⟩ dX4_partner_26 (fun H locs hP hD hS => ?_)
      refine lv_if_ne (tgt := 35) hx hb dX4_partner_29 (by decide) (fun c_3 => ?_) (fun c_3 => ?_)
      · skip
        have hj := jnR_ne c_3
        have hfb := fb_le Q P M (nI (ph Q P M k2))
        have hjs := joS_lt hv (nI (ph Q P M k2))
        refine lv_bipush (v := (-6)) hx hb dX4_partner_35 (by decide) ?_
        refine lv_istore_n (lv' := [(2, .int (-6)), (0, .ref aO), (1, .int (nI k2))]) hx hb dX4_partner_37 rfl hl (by decide) rfl (fun ls hl => ?_)
        refine lv_iconst (v := 0) hx hb dX4_partner_38 (by decide) ?_
        refine lv_istore_n (lv' := [(3, .int 0), (2, .int (-6)), (0, .ref aO), (1, .int (nI k2))]) hx hb dX4_partner_39 rfl hl (by decide) rfl (fun ls hl => ?_)
        have L_40 : ∀ (f : Nat) (i : Nat) (fd : Int32), i + f = fwN Q P M (nI (ph Q P M k2)) → pfL (clS Q P M (nI (ph Q P M k2)) fFo fBk).2.2.1 (clS Q P M (nI (ph Q P M k2)) fFo fBk).2.2.2 (fwN Q P M (nI (ph Q P M k2))) (joS Q P M (nI (ph Q P M k2))).1 (nI k2) (fwN Q P M (nI (ph Q P M k2))) 0 (-6) = pfL (clS Q P M (nI (ph Q P M k2)) fFo fBk).2.2.1 (clS Q P M (nI (ph Q P M k2)) fFo fBk).2.2.2 (fwN Q P M (nI (ph Q P M k2))) (joS Q P M (nI (ph Q P M k2))).1 (nI k2) f i fd → ∀ (H : Heap) (locs : List Loc), va_P D cls5 [(aO, .inr (4, [.int (nI Q), .int (nI P), .int (nI M), .int (nI Wd), .ref aOw, .ref aDg, .ref aWk, .ref aSm, .ref aFo, .ref aBk, .int (nI (fwN Q P M (nI (ph Q P M k2)))), .int (nI (bkN Q P M (nI (ph Q P M k2)))), .int (nI (if fwN Q P M (nI (ph Q P M k2)) = bkN Q P M (nI (ph Q P M k2)) then (joS Q P M (nI (ph Q P M k2))).2 else le)), .int (nI (if fwN Q P M (nI (ph Q P M k2)) = bkN Q P M (nI (ph Q P M k2)) then (joS Q P M (nI (ph Q P M k2))).1 else sf)), .ref aIm, .ref aKp])), (aFo, .inl (cI, 48, .inl ((clS Q P M (nI (ph Q P M k2)) fFo fBk).2.2.1))), (aBk, .inl (cI, 48, .inl ((clS Q P M (nI (ph Q P M k2)) fFo fBk).2.2.2)))] H → va_D (va_M [(aO, .inr (4, [.int (nI Q), .int (nI P), .int (nI M), .int (nI Wd), .ref aOw, .ref aDg, .ref aWk, .ref aSm, .ref aFo, .ref aBk, .int (nI fo), .int (nI ba), .int (nI le), .int (nI sf), .ref aIm, .ref aKp])), (aFo, .inl (cI, 48, .inl fFo)), (aBk, .inl (cI, 48, .inl fBk))]) [(aO, .inr (4, [.int (nI Q), .int (nI P), .int (nI M), .int (nI Wd), .ref aOw, .ref aDg, .ref aWk, .ref aSm, .ref aFo, .ref aBk, .int (nI (fwN Q P M (nI (ph Q P M k2)))), .int (nI (bkN Q P M (nI (ph Q P M k2)))), .int (nI (if fwN Q P M (nI (ph Q P M k2)) = bkN Q P M (nI (ph Q P M k2)) then (joS Q P M (nI (ph Q P M k2))).2 else le)), .int (nI (if fwN Q P M (nI (ph Q P M k2)) = bkN Q P M (nI (ph Q P M k2)) then (joS Q P M (nI (ph Q P M k2))).1 else sf)), .ref aIm, .ref aKp])), (aFo, .inl (cI, 48, .inl ((clS Q P M (nI (ph Q P M k2)) fFo fBk).2.2.1))), (aBk, .inl (cI, 48, .inl ((clS Q P M (nI (ph Q P M k2)) fFo fBk).2.2.2)))] → va_S (va_M [(aO, .inr (4, [.int (nI Q), .int (nI P), .int (nI M), .int (nI Wd), .ref aOw, .ref aDg, .ref aWk, .ref aSm, .ref aFo, .ref aBk, .int (nI fo), .int (nI ba), .int (nI le), .int (nI sf), .ref aIm, .ref aKp])), (aFo, .inl (cI, 48, .inl fFo)), (aBk, .inl (cI, 48, .inl fBk))]) s.heap H locs → ∀ ls : Array Slot, lv_has ls 5 [(0, .ref aO), (1, .int (nI k2)), (2, .int fd), (3, .int (nI i))] → W p l e (headSpec wsX4_partner ({ frames := 6, cells := 0, slots := 0, locals := 132 } : Room)).room s m args below meth c H locs 0 0 (MQ below (QcE D [(aO, .inr (4, [.int (nI Q), .int (nI P), .int (nI M), .int (nI Wd), .ref aOw, .ref aDg, .ref aWk, .ref aSm, .ref aFo, .ref aBk, .int (nI fo), .int (nI ba), .int (nI le), .int (nI sf), .ref aIm, .ref aKp])), (aFo, .inl (cI, 48, .inl fFo)), (aBk, .inl (cI, 48, .inl fBk))] (some (.int (sPar Q P M (nI k2)))) (fun z => ∃ (fo' : Nat) (ba' : Nat) (le' : Nat) (sf' : Nat) (fFo' : Nat → Int32) (fBk' : Nat → Int32), z = [(aO, .inr (4, [.int (nI Q), .int (nI P), .int (nI M), .int (nI Wd), .ref aOw, .ref aDg, .ref aWk, .ref aSm, .ref aFo, .ref aBk, .int (nI fo'), .int (nI ba'), .int (nI le'), .int (nI sf'), .ref aIm, .ref aKp])), (aFo, .inl (cI, 48, .inl fFo')), (aBk, .inl (cI, 48, .inl fBk'))])) args s 0 0 (va_M [(aO, .inr (4, [.int (nI Q), .int (nI P), .int (nI M), .int (nI Wd), .ref aOw, .ref aDg, .ref aWk, .ref aSm, .ref aFo, .ref aBk, .int (nI fo), .int (nI ba), .int (nI le), .int (nI sf), .ref aIm, .ref aKp])), (aFo, .inl (cI, 48, .inl fFo)), (aBk, .inl (cI, 48, .inl fBk))])) (F0 m 40 ls []) := by
          intro f
          induction f with
          | zero =>
            intro i fd h1 h2 H locs hP hD hS ls hl
            refine lv_iload_n hx hb dX4_partner_40 rfl (lv_at hl 3 rfl) ?_
            refine lv_aload_n hx hb dX4_partner_41 rfl (lv_at hl 0 rfl) ?_
            refine va_get (D := D) (ci := 4) (v := .int (nI (fwN Q P M (nI (ph Q P M k2))))) (C := RX4) (T := TX4) (N := 16) hx hb hts hi_X4_partner_X4 hown hT.1 hP 0 rfl rfl 10 (by decide) (hts (.fieldLink RX4 120 "SlotStarModel" "forths" "I") (List.mem_of_getElem? (i := 1) rfl)) (fun _ h9 => h9) rfl dX4_partner_42 ?_
            refine lv_icmp_ge (tgt := 104) hx hb dX4_partner_45 (by decide) (fun c_4 => ?_) (fun c_4 => ?_)
            · skip
              refine lv_iload_n hx hb dX4_partner_104 rfl (lv_at hl 2 rfl) ?_
              exact me_ret hx hb hr hlocks dX4_partner_105 (hP) ⟨_, _, _, _, _, _, rfl⟩ hS (by have h9 : fd = ooS Q P M k2 := (by rw [← m_par2 hv hk2 hj fFo fBk, h2]; rfl); simp [sPar, c_1, c_2, c_3, c_4, hcl, h9])
            · exfalso; exact c_4 (nI_le (by omega) (by omega))
          | succ f ih_40 =>
            intro i fd h1 h2 H locs hP hD hS ls hl
            refine lv_iload_n hx hb dX4_partner_40 rfl (lv_at hl 3 rfl) ?_
            refine lv_aload_n hx hb dX4_partner_41 rfl (lv_at hl 0 rfl) ?_
            refine va_get (D := D) (ci := 4) (v := .int (nI (fwN Q P M (nI (ph Q P M k2))))) (C := RX4) (T := TX4) (N := 16) hx hb hts hi_X4_partner_X4 hown hT.1 hP 0 rfl rfl 10 (by decide) (hts (.fieldLink RX4 120 "SlotStarModel" "forths" "I") (List.mem_of_getElem? (i := 1) rfl)) (fun _ h9 => h9) rfl dX4_partner_42 ?_
            refine lv_icmp_ge (tgt := 104) hx hb dX4_partner_45 (by decide) (fun c_5 => ?_) (fun c_5 => ?_)
            · exfalso; exact nI_ge (show i < fwN Q P M (nI (ph Q P M k2)) by omega) (by omega) c_5
            · skip
              have hmo : ((i + (joS Q P M (nI (ph Q P M k2))).1) % fwN Q P M (nI (ph Q P M k2))) < fwN Q P M (nI (ph Q P M k2)) := Nat.mod_lt _ (by omega)
              refine lv_aload_n hx hb dX4_partner_48 rfl (lv_at hl 0 rfl) ?_
              refine va_get (D := D) (ci := 4) (v := .ref aBk) (C := RX4) (T := TX4) (N := 16) hx hb hts hi_X4_partner_X4 hown hT.1 hP 0 rfl rfl 9 (by decide) (hts (.fieldLink RX4 38 "SlotStarModel" "back" "[I") (List.mem_of_getElem? (i := 2) rfl)) (fun _ h9 => h9) rfl dX4_partner_49 ?_
              refine lv_iload_n hx hb dX4_partner_52 rfl (lv_at hl 3 rfl) ?_
              refine lv_aload_n hx hb dX4_partner_53 rfl (lv_at hl 0 rfl) ?_
              refine va_get (D := D) (ci := 4) (v := .int (nI (if fwN Q P M (nI (ph Q P M k2)) = bkN Q P M (nI (ph Q P M k2)) then (joS Q P M (nI (ph Q P M k2))).1 else sf))) (C := RX4) (T := TX4) (N := 16) hx hb hts hi_X4_partner_X4 hown hT.1 hP 0 rfl rfl 13 (by decide) (hts (.fieldLink RX4 129 "SlotStarModel" "shift" "I") (List.mem_of_getElem? (i := 3) rfl)) (fun _ h9 => h9) rfl dX4_partner_54 ?_
              refine top_eq (z := (nI (joS Q P M (nI (ph Q P M k2))).1)) (by rw [if_pos hj]) ?_
              refine lv_iadd hx hb dX4_partner_57 ?_
              refine top_eq (z := (nI (i + (joS Q P M (nI (ph Q P M k2))).1))) (by exact nI_add _ _) ?_
              refine lv_aload_n hx hb dX4_partner_58 rfl (lv_at hl 0 rfl) ?_
              refine va_get (D := D) (ci := 4) (v := .int (nI (bkN Q P M (nI (ph Q P M k2))))) (C := RX4) (T := TX4) (N := 16) hx hb hts hi_X4_partner_X4 hown hT.1 hP 0 rfl rfl 11 (by decide) (hts (.fieldLink RX4 123 "SlotStarModel" "backs" "I") (List.mem_of_getElem? (i := 4) rfl)) (fun _ h9 => h9) rfl dX4_partner_59 ?_
              refine lv_irem hx hb dX4_partner_62 (nI_ne0 (by omega) (by omega)) ?_
              refine top_eq (z := (nI ((i + (joS Q P M (nI (ph Q P M k2))).1) % fwN Q P M (nI (ph Q P M k2))))) (by rw [hj]; exact pk_rem (by omega) (by omega) (by omega)) ?_
              refine ld_i hx hb hT hP 2 rfl dX4_partner_63 (k := ((i + (joS Q P M (nI (ph Q P M k2))).1) % fwN Q P M (nI (ph Q P M k2)))) rfl (by omega) (by decide) ?_
              refine lv_istore (lv' := [(4, .int (((clS Q P M (nI (ph Q P M k2)) fFo fBk).2.2.2) ((i + (joS Q P M (nI (ph Q P M k2))).1) % fwN Q P M (nI (ph Q P M k2))))), (0, .ref aO), (1, .int (nI k2)), (2, .int fd), (3, .int (nI i))]) hx hb dX4_partner_64 hl (by decide) rfl (fun ls hl => ?_)
              refine lv_aload_n hx hb dX4_partner_66 rfl (lv_at hl 1 rfl) ?_
              refine va_get (D := D) (ci := 4) (v := .ref aFo) (C := RX4) (T := TX4) (N := 16) hx hb hts hi_X4_partner_X4 hown hT.1 hP 0 rfl rfl 8 (by decide) (hts (.fieldLink RX4 35 "SlotStarModel" "forth" "[I") (List.mem_of_getElem? (i := 5) rfl)) (fun _ h9 => h9) rfl dX4_partner_67 ?_
              refine lv_iload_n hx hb dX4_partner_70 rfl (lv_at hl 4 rfl) ?_
              refine ld_i hx hb hT hP 1 rfl dX4_partner_71 (k := i) rfl (by omega) (by decide) ?_
              refine lv_iload_n hx hb dX4_partner_72 rfl (lv_at hl 2 rfl) ?_
              refine lv_icmp_ne (tgt := 81) hx hb dX4_partner_73 (by decide) (fun c_6 => ?_) (fun c_6 => ?_)
              · skip
                refine lv_iload hx hb dX4_partner_81 (lv_at hl 0 rfl) ?_
                refine lv_iload_n hx hb dX4_partner_83 rfl (lv_at hl 2 rfl) ?_
                refine lv_icmp_ne (tgt := 96) hx hb dX4_partner_84 (by decide) (fun c_7 => ?_) (fun c_7 => ?_)
                · skip
                  refine lv_iload_n hx hb dX4_partner_96 rfl (lv_at hl 3 rfl) ?_
                  refine lv_istore_n (lv' := [(2, .int fd), (4, .int (((clS Q P M (nI (ph Q P M k2)) fFo fBk).2.2.2) ((i + (joS Q P M (nI (ph Q P M k2))).1) % fwN Q P M (nI (ph Q P M k2))))), (0, .ref aO), (1, .int (nI k2)), (3, .int (nI i))]) hx hb dX4_partner_97 rfl hl (by decide) rfl (fun ls hl => ?_)
                  refine lv_iinc (v := nI (i + 1)) (lv' := [(3, .int (nI (i + 1))), (2, .int fd), (4, .int (((clS Q P M (nI (ph Q P M k2)) fFo fBk).2.2.2) ((i + (joS Q P M (nI (ph Q P M k2))).1) % fwN Q P M (nI (ph Q P M k2))))), (0, .ref aO), (1, .int (nI k2))]) hx hb dX4_partner_98 hl (k := 4) rfl ((nI_succ i).symm) (by decide) rfl (fun ls hl => ?_)
                  refine lv_goto (tgt := 40) hx hb dX4_partner_101 (by decide) ?_
                  exact ih_40 (i + 1) fd (by omega) (by rw [h2]; simp [pfL, c_1, c_2, c_3, c_5, c_6, c_7]) _ _ hP hD hS ls (lv_sub hl [3, 4, 1, 0] rfl)
                · skip
                  refine lv_aload_n hx hb dX4_partner_87 rfl (lv_at hl 1 rfl) ?_
                  refine va_get (D := D) (ci := 4) (v := .ref aFo) (C := RX4) (T := TX4) (N := 16) hx hb hts hi_X4_partner_X4 hown hT.1 hP 0 rfl rfl 8 (by decide) (hts (.fieldLink RX4 35 "SlotStarModel" "forth" "[I") (List.mem_of_getElem? (i := 5) rfl)) (fun _ h9 => h9) rfl dX4_partner_88 ?_
                  refine lv_iload_n hx hb dX4_partner_91 rfl (lv_at hl 4 rfl) ?_
                  refine ld_i hx hb hT hP 1 rfl dX4_partner_92 (k := i) rfl (by omega) (by decide) ?_
                  refine lv_goto (tgt := 97) hx hb dX4_partner_93 (by decide) ?_
                  refine lv_istore_n (lv' := [(2, .int (((clS Q P M (nI (ph Q P M k2)) fFo fBk).2.2.1) i)), (4, .int (((clS Q P M (nI (ph Q P M k2)) fFo fBk).2.2.2) ((i + (joS Q P M (nI (ph Q P M k2))).1) % fwN Q P M (nI (ph Q P M k2))))), (0, .ref aO), (1, .int (nI k2)), (3, .int (nI i))]) hx hb dX4_partner_97 rfl hl (by decide) rfl (fun ls hl => ?_)
                  refine lv_iinc (v := nI (i + 1)) (lv' := [(3, .int (nI (i + 1))), (2, .int (((clS Q P M (nI (ph Q P M k2)) fFo fBk).2.2.1) i)), (4, .int (((clS Q P M (nI (ph Q P M k2)) fFo fBk).2.2.2) ((i + (joS Q P M (nI (ph Q P M k2))).1) % fwN Q P M (nI (ph Q P M k2))))), (0, .ref aO), (1, .int (nI k2))]) hx hb dX4_partner_98 hl (k := 4) rfl ((nI_succ i).symm) (by decide) rfl (fun ls hl => ?_)
                  refine lv_goto (tgt := 40) hx hb dX4_partner_101 (by decide) ?_
                  exact ih_40 (i + 1) (((clS Q P M (nI (ph Q P M k2)) fFo fBk).2.2.1) i) (by omega) (by rw [h2]; simp [pfL, c_1, c_2, c_3, c_5, c_6, eq_true c_7]) _ _ hP hD hS ls (lv_sub hl [3, 4, 1, 0] rfl)
              · skip
                refine lv_iload hx hb dX4_partner_76 (lv_at hl 0 rfl) ?_
                refine lv_goto (tgt := 97) hx hb dX4_partner_78 (by decide) ?_
                refine lv_istore_n (lv' := [(2, .int (((clS Q P M (nI (ph Q P M k2)) fFo fBk).2.2.2) ((i + (joS Q P M (nI (ph Q P M k2))).1) % fwN Q P M (nI (ph Q P M k2))))), (4, .int (((clS Q P M (nI (ph Q P M k2)) fFo fBk).2.2.2) ((i + (joS Q P M (nI (ph Q P M k2))).1) % fwN Q P M (nI (ph Q P M k2))))), (0, .ref aO), (1, .int (nI k2)), (3, .int (nI i))]) hx hb dX4_partner_97 rfl hl (by decide) rfl (fun ls hl => ?_)
                refine lv_iinc (v := nI (i + 1)) (lv' := [(3, .int (nI (i + 1))), (2, .int (((clS Q P M (nI (ph Q P M k2)) fFo fBk).2.2.2) ((i + (joS Q P M (nI (ph Q P M k2))).1) % fwN Q P M (nI (ph Q P M k2))))), (4, .int (((clS Q P M (nI (ph Q P M k2)) fFo fBk).2.2.2) ((i + (joS Q P M (nI (ph Q P M k2))).1) % fwN Q P M (nI (ph Q P M k2))))), (0, .ref aO), (1, .int (nI k2))]) hx hb dX4_partner_98 hl (k := 4) rfl ((nI_succ i).symm) (by decide) rfl (fun ls hl => ?_)
                refine lv_goto (tgt := 40) hx hb dX4_partner_101 (by decide) ?_
                exact ih_40 (i + 1) (((clS Q P M (nI (ph Q P M k2)) fFo fBk).2.2.2) ((i + (joS Q P M (nI (ph Q P M k2))).1) % fwN Q P M (nI (ph Q P M k2)))) (by omega) (by rw [h2]; simp [pfL, c_1, c_2, c_3, c_5, eq_true c_6]) _ _ hP hD hS ls (lv_sub hl [3, 4, 1, 0] rfl)
        exact L_40 (fwN Q P M (nI (ph Q P M k2))) 0 (-6) (by omega) rfl _ _ hP hD hS ls (lv_sub hl [2, 3, 1, 0] rfl)
      · skip
        refine lv_bipush (v := (-5)) hx hb dX4_partner_32 (by decide) ?_
        exact me_ret hx hb hr hlocks dX4_partner_34 (hP) ⟨_, _, _, _, _, _, rfl⟩ hS (by first | simp [sPar, c_1, c_2, eq_true c_3, hcl] | simp [sPar, c_1, c_2, eq_true c_3])
    · skip
      refine lv_bipush (v := (-3)) hx hb dX4_partner_17 (by decide) ?_
      exact me_ret hx hb hr hlocks dX4_partner_19 (hP) ⟨_, _, _, _, _, _, rfl⟩ hS (by first | simp [sPar, c_1, eq_true c_2, hcl] | simp [sPar, c_1, eq_true c_2])
  · skip
    refine lv_iconst (v := (-1)) hx hb dX4_partner_8 (by decide) ?_
    exact me_ret hx hb hr hlocks dX4_partner_9 (hP) ⟨_, _, _, _, _, _, rfl⟩ hS (by first | simp [sPar, eq_true c_1, hcl] | simp [sPar, eq_true c_1])
