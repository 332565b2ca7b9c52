set_option maxRecDepth 20000 in
theorem hi_X3_isSlot_X1 : ∀ w ∈ wsX10, w ∈ wsX3_isSlot := by
  intro w h
  unfold wsX3_isSlot
  simp only [List.mem_cons, List.mem_append, h, or_true, true_or]
set_option maxRecDepth 20000 in
theorem hi_X3_isSlot_X3 : ∀ w ∈ wsX30, w ∈ wsX3_isSlot := by
  intro w h
  unfold wsX3_isSlot
  simp only [List.mem_cons, List.mem_append, h, or_true, true_or]
theorem nd_X3_isSlot : okName yX3_isSlot 1 := by decide +kernel
set_option maxHeartbeats 4000000 in
set_option maxRecDepth 100000 in
theorem k_X3_isSlot (l : Launch) (D : va_G) (cI cZ : ClassId) (aS : Nat) (aM : Nat) (aR : Nat) (aJ : Nat) (aF : Nat) (aG : Nat) (aI : Nat) (Q : Nat) (P : Nat) (M : Nat) (Wd : Nat) (k : Int32) : RO l yX3_isSlot wsX3_isSlot ({ frames := 1, cells := 0, slots := 0, locals := 22 } : Room) D cI cZ [(aS, .inr (3, [.ref aM, .ref aR, .ref aJ, .ref aF, .ref aG, .ref aI])), (aM, .inr (1, [.int (nI Q), .int (nI P), .int (nI M), .int (nI Wd), .int (nI (tT Q P)), .int (nI (tN Q P))]))] [.ref aS, .int k] (jIn k 0 (nI Q - 1)) := by
  refine ro_start (by decide) rfl (Nat.le_of_ble_eq_true rfl) ?_
  intro p e s m args below meth c hx hb hr hml hlocks hts hown hT hP ls hl
  have hown : s.vm.findClass RX3 = some m.cls := hown
  have hl : lv_has ls 2 [(0, .ref aS), (1, .int k)] := hl
  refine lv_iload_n hx hb dX3_isSlot_0 rfl (lv_at hl 1 rfl) ?_
  refine lv_iconst (v := 0) hx hb dX3_isSlot_1 (by decide) ?_
  refine lv_aload_n hx hb dX3_isSlot_2 rfl (lv_at hl 0 rfl) ?_
  refine va_get (D := D) (ci := 3) (v := .ref aM) (C := RX3) (T := TX3) (N := 6) hx hb hts hi_X3_isSlot_X3 hown hT.1 hP 0 rfl rfl 0 (by decide) (hts (.fieldLink RX3 10 "SlotStar" "star" "LSlotStar$Machine;") (List.mem_of_getElem? (i := 1) rfl)) (fun _ h9 => h9) rfl dX3_isSlot_3 ?_
  refine va_get (D := D) (ci := 1) (v := .int (nI Q)) (C := RX1) (T := TX1) (N := 6) hx hb hts hi_X3_isSlot_X1 hown hT.1 hP 1 rfl rfl 0 (by decide) (hts (.fieldLink RX3 56 "SlotStar$Machine" "slots" "I") (List.mem_of_getElem? (i := 2) rfl)) (fun _ h9 => h9) rfl dX3_isSlot_6 ?_
  refine lv_iconst (v := 1) hx hb dX3_isSlot_9 (by decide) ?_
  refine lv_isub hx hb dX3_isSlot_10 ?_
  refine ro_S (As := [.int k, .int 0, .int ((nI Q) - 1)]) (rest := []) ⟨hx, hb, hml, hown, hts⟩ hT hP (k_X3_isWithin l D cI cZ k 0 ((nI Q) - 1)) gX3_isSlot_X3_isWithin rfl nd_X3_isWithin [] rfl hl.1 rfl rfl (Nat.le_of_ble_eq_true rfl) ⟨Nat.le_of_ble_eq_true rfl, Nat.le_of_ble_eq_true rfl⟩ ⟨rfl, rfl⟩ ⟨Nat.zero_le _, Nat.zero_le _⟩ dX3_isSlot_11 ?_
  exact ro_retz hx hb hr hlocks dX3_isSlot_14 (by rfl) (by exact jIn01 _ _ _)

set_option maxRecDepth 20000 in
theorem hi_X3_isPhase_X1 : ∀ w ∈ wsX10, w ∈ wsX3_isPhase := by
  intro w h
  unfold wsX3_isPhase
  simp only [List.mem_cons, List.mem_append, h, or_true, true_or]
set_option maxRecDepth 20000 in
theorem hi_X3_isPhase_X3 : ∀ w ∈ wsX30, w ∈ wsX3_isPhase := by
  intro w h
  unfold wsX3_isPhase
  simp only [List.mem_cons, List.mem_append, h, or_true, true_or]
theorem nd_X3_isPhase : okName yX3_isPhase 1 := by decide +kernel
set_option maxHeartbeats 4000000 in
set_option maxRecDepth 100000 in
theorem k_X3_isPhase (l : Launch) (D : va_G) (cI cZ : ClassId) (aS : Nat) (aM : Nat) (aR : Nat) (aJ : Nat) (aF : Nat) (aG : Nat) (aI : Nat) (Q : Nat) (P : Nat) (M : Nat) (Wd : Nat) (a : Int32) : RO l yX3_isPhase wsX3_isPhase ({ frames := 1, cells := 0, slots := 0, locals := 22 } : Room) D cI cZ [(aS, .inr (3, [.ref aM, .ref aR, .ref aJ, .ref aF, .ref aG, .ref aI])), (aM, .inr (1, [.int (nI Q), .int (nI P), .int (nI M), .int (nI Wd), .int (nI (tT Q P)), .int (nI (tN Q P))]))] [.ref aS, .int a] (jIn a 0 (nI M - 1)) := by
  refine ro_start (by decide) rfl (Nat.le_of_ble_eq_true rfl) ?_
  intro p e s m args below meth c hx hb hr hml hlocks hts hown hT hP ls hl
  have hown : s.vm.findClass RX3 = some m.cls := hown
  have hl : lv_has ls 2 [(0, .ref aS), (1, .int a)] := hl
  refine lv_iload_n hx hb dX3_isPhase_0 rfl (lv_at hl 1 rfl) ?_
  refine lv_iconst (v := 0) hx hb dX3_isPhase_1 (by decide) ?_
  refine lv_aload_n hx hb dX3_isPhase_2 rfl (lv_at hl 0 rfl) ?_
  refine va_get (D := D) (ci := 3) (v := .ref aM) (C := RX3) (T := TX3) (N := 6) hx hb hts hi_X3_isPhase_X3 hown hT.1 hP 0 rfl rfl 0 (by decide) (hts (.fieldLink RX3 10 "SlotStar" "star" "LSlotStar$Machine;") (List.mem_of_getElem? (i := 1) rfl)) (fun _ h9 => h9) rfl dX3_isPhase_3 ?_
  refine va_get (D := D) (ci := 1) (v := .int (nI M)) (C := RX1) (T := TX1) (N := 6) hx hb hts hi_X3_isPhase_X1 hown hT.1 hP 1 rfl rfl 2 (by decide) (hts (.fieldLink RX3 106 "SlotStar$Machine" "phases" "I") (List.mem_of_getElem? (i := 2) rfl)) (fun _ h9 => h9) rfl dX3_isPhase_6 ?_
  refine lv_iconst (v := 1) hx hb dX3_isPhase_9 (by decide) ?_
  refine lv_isub hx hb dX3_isPhase_10 ?_
  refine ro_S (As := [.int a, .int 0, .int ((nI M) - 1)]) (rest := []) ⟨hx, hb, hml, hown, hts⟩ hT hP (k_X3_isWithin l D cI cZ a 0 ((nI M) - 1)) gX3_isPhase_X3_isWithin rfl nd_X3_isWithin [] rfl hl.1 rfl rfl (Nat.le_of_ble_eq_true rfl) ⟨Nat.le_of_ble_eq_true rfl, Nat.le_of_ble_eq_true rfl⟩ ⟨rfl, rfl⟩ ⟨Nat.zero_le _, Nat.zero_le _⟩ dX3_isPhase_11 ?_
  exact ro_retz hx hb hr hlocks dX3_isPhase_14 (by rfl) (by exact jIn01 _ _ _)

set_option maxRecDepth 20000 in
theorem hi_X3_lacking_X3 : ∀ w ∈ wsX30, w ∈ wsX3_lacking := by
  intro w h
  unfold wsX3_lacking
  simp only [List.mem_cons, List.mem_append, h, or_true, true_or]
theorem nd_X3_lacking : okName yX3_lacking 0 := by decide +kernel
set_option maxHeartbeats 4000000 in
set_option maxRecDepth 100000 in
theorem k_X3_lacking (l : Launch) (D : va_G) (cI cZ : ClassId) (aS : Nat) (aM : Nat) (aR : Nat) (aJ : Nat) (aF : Nat) (aG : Nat) (aI : Nat) (Q : Nat) (P : Nat) (M : Nat) (Wd : Nat) (hv : MV Q P M Wd) : RO l yX3_lacking wsX3_lacking ({ frames := 3, cells := 0, slots := 0, locals := 64 } : Room) D cI cZ [(aS, .inr (3, [.ref aM, .ref aR, .ref aJ, .ref aF, .ref aG, .ref aI])), (aM, .inr (1, [.int (nI Q), .int (nI P), .int (nI M), .int (nI Wd), .int (nI (tT Q P)), .int (nI (tN Q P))]))] [.ref aS] (nI (lck Q P M)) := by
  refine ro_start (by decide) rfl (Nat.le_of_ble_eq_true rfl) ?_
  intro p e s m args below meth c hx hb hr hml hlocks hts hown hT hP ls hl
  have hown : s.vm.findClass RX3 = some m.cls := hown
  have hl : lv_has ls 1 [(0, .ref aS)] := hl
  refine lv_aload_n hx hb dX3_lacking_0 rfl (lv_at hl 0 rfl) ?_
  refine va_get (D := D) (ci := 3) (v := .ref aM) (C := RX3) (T := TX3) (N := 6) hx hb hts hi_X3_lacking_X3 hown hT.1 hP 0 rfl rfl 0 (by decide) (hts (.fieldLink RX3 10 "SlotStar" "star" "LSlotStar$Machine;") (List.mem_of_getElem? (i := 1) rfl)) (fun _ h9 => h9) rfl dX3_lacking_1 ?_
  refine ro_V (As := []) (rest := []) ⟨hx, hb, hml, hown, hts⟩ hT hP (k_X1_lackingDivisor l D cI cZ aM Q P M Wd hv) gX3_lacking_X1_lackingDivisor rfl rfl nd_X1_lackingDivisor [1] rfl (ci := 1) rfl rfl (q0 := 1) rfl hl.1 rfl rfl (Nat.le_of_ble_eq_true rfl) ⟨Nat.le_of_ble_eq_true rfl, Nat.le_of_ble_eq_true rfl⟩ ⟨rfl, rfl⟩ ⟨Nat.zero_le _, Nat.zero_le _⟩ dX3_lacking_4 ?_
  exact ro_ret hx hb hr hlocks dX3_lacking_7 (by rfl)

set_option maxRecDepth 20000 in
theorem hi_X3_slot_X1 : ∀ w ∈ wsX10, w ∈ wsX3_slot := by
  intro w h
  unfold wsX3_slot
  simp only [List.mem_cons, List.mem_append, h, or_true, true_or]
set_option maxRecDepth 20000 in
theorem hi_X3_slot_X3 : ∀ w ∈ wsX30, w ∈ wsX3_slot := by
  intro w h
  unfold wsX3_slot
  simp only [List.mem_cons, List.mem_append, h, or_true, true_or]
theorem nd_X3_slot : okName yX3_slot 2 := by decide +kernel
set_option maxHeartbeats 4000000 in
set_option maxRecDepth 100000 in
theorem k_X3_slot (l : Launch) (D : va_G) (cI cZ : ClassId) (aS : Nat) (aM : Nat) (aR : Nat) (aJ : Nat) (aF : Nat) (aG : Nat) (aI : Nat) (Q : Nat) (P : Nat) (M : Nat) (Wd : Nat) (k : Int32) (what : Int32) (hv : MV Q P M Wd) : RO l yX3_slot wsX3_slot ({ frames := 4, cells := 0, slots := 0, locals := 86 } : Room) D cI cZ [(aS, .inr (3, [.ref aM, .ref aR, .ref aJ, .ref aF, .ref aG, .ref aI])), (aM, .inr (1, [.int (nI Q), .int (nI P), .int (nI M), .int (nI Wd), .int (nI (tT Q P)), .int (nI (tN Q P))]))] [.ref aS, .int k, .int what] (sSlot Q P M Wd k what) := by
  refine ro_start (by decide) rfl (Nat.le_of_ble_eq_true rfl) ?_
  intro p e s m args below meth c hx hb hr hml hlocks hts hown hT hP ls hl
  have hown : s.vm.findClass RX3 = some m.cls := hown
  have hl : lv_has ls 3 [(0, .ref aS), (1, .int k), (2, .int what)] := hl
  have hv' := hv
  unfold MV at hv'
  refine lv_aload_n hx hb dX3_slot_0 rfl (lv_at hl 0 rfl) ?_
  refine lv_iload_n hx hb dX3_slot_1 rfl (lv_at hl 1 rfl) ?_
  refine ro_V (As := [.int k]) (rest := []) ⟨hx, hb, hml, hown, hts⟩ hT hP (k_X3_isSlot l D cI cZ aS aM aR aJ aF aG aI Q P M Wd k) gX3_slot_X3_isSlot rfl rfl nd_X3_isSlot [0, 1] rfl (ci := 3) rfl rfl (q0 := 0) rfl hl.1 rfl rfl (Nat.le_of_ble_eq_true rfl) ⟨Nat.le_of_ble_eq_true rfl, Nat.le_of_ble_eq_true rfl⟩ ⟨rfl, rfl⟩ ⟨Nat.zero_le _, Nat.zero_le _⟩ dX3_slot_2 ?_
  refine lv_if_ne (tgt := 10) hx hb dX3_slot_5 (by decide) (fun c_1 => ?_) (fun c_1 => ?_)
  · skip
    obtain ⟨k2, hk2, rfl⟩ := jIn_sl (by omega) c_1
    have hcl : cl (nI k2) = k2 := cl_nI (by omega)
    refine lv_iload_n hx hb dX3_slot_10 rfl (lv_at hl 2 rfl) ?_
    refine lv_iconst (v := 0) hx hb dX3_slot_11 (by decide) ?_
    refine lv_bipush (v := 6) hx hb dX3_slot_12 (by decide) ?_
    refine ro_S (As := [.int what, .int 0, .int 6]) (rest := []) ⟨hx, hb, hml, hown, hts⟩ hT hP (k_X3_isWithin l D cI cZ what 0 6) gX3_slot_X3_isWithin rfl nd_X3_isWithin [] rfl hl.1 rfl rfl (Nat.le_of_ble_eq_true rfl) ⟨Nat.le_of_ble_eq_true rfl, Nat.le_of_ble_eq_true rfl⟩ ⟨rfl, rfl⟩ ⟨Nat.zero_le _, Nat.zero_le _⟩ dX3_slot_14 ?_
    refine lv_if_ne (tgt := 23) hx hb dX3_slot_17 (by decide) (fun c_2 => ?_) (fun c_2 => ?_)
    · skip
      refine lv_iload_n hx hb dX3_slot_23 rfl (lv_at hl 2 rfl) ?_
      refine lv_iconst (v := 2) hx hb dX3_slot_24 (by decide) ?_
      refine lv_iconst (v := 4) hx hb dX3_slot_25 (by decide) ?_
      refine ro_S (As := [.int what, .int 2, .int 4]) (rest := []) ⟨hx, hb, hml, hown, hts⟩ hT hP (k_X3_isWithin l D cI cZ what 2 4) gX3_slot_X3_isWithin rfl nd_X3_isWithin [] rfl hl.1 rfl rfl (Nat.le_of_ble_eq_true rfl) ⟨Nat.le_of_ble_eq_true rfl, Nat.le_of_ble_eq_true rfl⟩ ⟨rfl, rfl⟩ ⟨Nat.zero_le _, Nat.zero_le _⟩ dX3_slot_26 ?_
      refine lv_if_eq (tgt := 45) hx hb dX3_slot_29 (by decide) (fun c_3 => ?_) (fun c_3 => ?_)
      · skip
        refine lv_iload_n hx hb dX3_slot_45 rfl (lv_at hl 2 rfl) ?_
        by_cases w_4 : what = 0
        · refine lv_tableIn (off := 38) (tgt := 84) hx hb dX3_slot_46 (by rw [w_4]; decide) (by rw [w_4]; decide) (by rw [w_4]; decide) (by decide) ?_
          refine lv_aload_n hx hb dX3_slot_84 rfl (lv_at hl 0 rfl) ?_
          refine va_get (D := D) (ci := 3) (v := .ref aM) (C := RX3) (T := TX3) (N := 6) hx hb hts hi_X3_slot_X3 hown hT.1 hP 0 rfl rfl 0 (by decide) (hts (.fieldLink RX3 10 "SlotStar" "star" "LSlotStar$Machine;") (List.mem_of_getElem? (i := 1) rfl)) (fun _ h9 => h9) rfl dX3_slot_85 ?_
          refine lv_iload_n hx hb dX3_slot_88 rfl (lv_at hl 1 rfl) ?_
          refine ro_V (As := [.int (nI k2)]) (rest := []) ⟨hx, hb, hml, hown, hts⟩ hT hP (k_X1_turnOf l D cI cZ aM Q P M Wd k2 hv (by omega)) gX3_slot_X1_turnOf rfl rfl nd_X1_turnOf [1] rfl (ci := 1) rfl rfl (q0 := 1) rfl hl.1 rfl rfl (Nat.le_of_ble_eq_true rfl) ⟨Nat.le_of_ble_eq_true rfl, Nat.le_of_ble_eq_true rfl⟩ ⟨rfl, rfl⟩ ⟨Nat.zero_le _, Nat.zero_le _⟩ dX3_slot_89 ?_
          exact ro_ret hx hb hr hlocks dX3_slot_92 (by first | simp [sSlot, c_1, c_2, eq_true c_3, eq_true w_4, hcl, hf1] | simp [sSlot, c_1, c_2, eq_true c_3, eq_true w_4, hcl])
        by_cases w_5 : what = 1
        · refine lv_tableIn (off := 47) (tgt := 93) hx hb dX3_slot_46 (by rw [w_5]; decide) (by rw [w_5]; decide) (by rw [w_5]; decide) (by decide) ?_
          refine lv_aload_n hx hb dX3_slot_93 rfl (lv_at hl 0 rfl) ?_
          refine va_get (D := D) (ci := 3) (v := .ref aM) (C := RX3) (T := TX3) (N := 6) hx hb hts hi_X3_slot_X3 hown hT.1 hP 0 rfl rfl 0 (by decide) (hts (.fieldLink RX3 10 "SlotStar" "star" "LSlotStar$Machine;") (List.mem_of_getElem? (i := 1) rfl)) (fun _ h9 => h9) rfl dX3_slot_94 ?_
          refine lv_iload_n hx hb dX3_slot_97 rfl (lv_at hl 1 rfl) ?_
          refine ro_V (As := [.int (nI k2)]) (rest := []) ⟨hx, hb, hml, hown, hts⟩ hT hP (k_X1_copyOf l D cI cZ aM Q P M Wd k2 hv (by omega)) gX3_slot_X1_copyOf rfl rfl nd_X1_copyOf [1] rfl (ci := 1) rfl rfl (q0 := 1) rfl hl.1 rfl rfl (Nat.le_of_ble_eq_true rfl) ⟨Nat.le_of_ble_eq_true rfl, Nat.le_of_ble_eq_true rfl⟩ ⟨rfl, rfl⟩ ⟨Nat.zero_le _, Nat.zero_le _⟩ dX3_slot_98 ?_
          exact ro_ret hx hb hr hlocks dX3_slot_101 (by first | simp [sSlot, c_1, c_2, eq_true c_3, w_4, eq_true w_5, hcl, hf1] | simp [sSlot, c_1, c_2, eq_true c_3, w_4, eq_true w_5, hcl])
        by_cases w_6 : what = 2
        · refine lv_tableIn (off := 56) (tgt := 102) hx hb dX3_slot_46 (by rw [w_6]; decide) (by rw [w_6]; decide) (by rw [w_6]; decide) (by decide) ?_
          refine lv_aload_n hx hb dX3_slot_102 rfl (lv_at hl 0 rfl) ?_
          refine va_get (D := D) (ci := 3) (v := .ref aM) (C := RX3) (T := TX3) (N := 6) hx hb hts hi_X3_slot_X3 hown hT.1 hP 0 rfl rfl 0 (by decide) (hts (.fieldLink RX3 10 "SlotStar" "star" "LSlotStar$Machine;") (List.mem_of_getElem? (i := 1) rfl)) (fun _ h9 => h9) rfl dX3_slot_103 ?_
          refine lv_iload_n hx hb dX3_slot_106 rfl (lv_at hl 1 rfl) ?_
          refine ro_V (As := [.int (nI k2)]) (rest := []) ⟨hx, hb, hml, hown, hts⟩ hT hP (k_X1_zoneOf l D cI cZ aM Q P M Wd k2 hv (by omega)) gX3_slot_X1_zoneOf rfl rfl nd_X1_zoneOf [1] rfl (ci := 1) rfl rfl (q0 := 1) rfl hl.1 rfl rfl (Nat.le_of_ble_eq_true rfl) ⟨Nat.le_of_ble_eq_true rfl, Nat.le_of_ble_eq_true rfl⟩ ⟨rfl, rfl⟩ ⟨Nat.zero_le _, Nat.zero_le _⟩ dX3_slot_107 ?_
          exact ro_ret hx hb hr hlocks dX3_slot_110 (by first | simp [sSlot, c_1, c_2, eq_true c_3, w_4, w_5, eq_true w_6, hcl, hf1] | simp [sSlot, c_1, c_2, eq_true c_3, w_4, w_5, eq_true w_6, hcl])
        by_cases w_7 : what = 3
        · refine lv_tableIn (off := 65) (tgt := 111) hx hb dX3_slot_46 (by rw [w_7]; decide) (by rw [w_7]; decide) (by rw [w_7]; decide) (by decide) ?_
          refine lv_aload_n hx hb dX3_slot_111 rfl (lv_at hl 0 rfl) ?_
          refine va_get (D := D) (ci := 3) (v := .ref aM) (C := RX3) (T := TX3) (N := 6) hx hb hts hi_X3_slot_X3 hown hT.1 hP 0 rfl rfl 0 (by decide) (hts (.fieldLink RX3 10 "SlotStar" "star" "LSlotStar$Machine;") (List.mem_of_getElem? (i := 1) rfl)) (fun _ h9 => h9) rfl dX3_slot_112 ?_
          refine lv_iload_n hx hb dX3_slot_115 rfl (lv_at hl 1 rfl) ?_
          refine ro_V (As := [.int (nI k2)]) (rest := []) ⟨hx, hb, hml, hown, hts⟩ hT hP (k_X1_phaseOf l D cI cZ aM Q P M Wd k2 hv (by omega)) gX3_slot_X1_phaseOf rfl rfl nd_X1_phaseOf [1] rfl (ci := 1) rfl rfl (q0 := 1) rfl hl.1 rfl rfl (Nat.le_of_ble_eq_true rfl) ⟨Nat.le_of_ble_eq_true rfl, Nat.le_of_ble_eq_true rfl⟩ ⟨rfl, rfl⟩ ⟨Nat.zero_le _, Nat.zero_le _⟩ dX3_slot_116 ?_
          exact ro_ret hx hb hr hlocks dX3_slot_119 (by first | simp [sSlot, c_1, c_2, eq_true c_3, w_4, w_5, w_6, eq_true w_7, hcl, hf1] | simp [sSlot, c_1, c_2, eq_true c_3, w_4, w_5, w_6, eq_true w_7, hcl])
        by_cases w_8 : what = 4
        · refine lv_tableIn (off := 74) (tgt := 120) hx hb dX3_slot_46 (by rw [w_8]; decide) (by rw [w_8]; decide) (by rw [w_8]; decide) (by decide) ?_
          refine lv_aload_n hx hb dX3_slot_120 rfl (lv_at hl 0 rfl) ?_
          refine va_get (D := D) (ci := 3) (v := .ref aM) (C := RX3) (T := TX3) (N := 6) hx hb hts hi_X3_slot_X3 hown hT.1 hP 0 rfl rfl 0 (by decide) (hts (.fieldLink RX3 10 "SlotStar" "star" "LSlotStar$Machine;") (List.mem_of_getElem? (i := 1) rfl)) (fun _ h9 => h9) rfl dX3_slot_121 ?_
          refine lv_iload_n hx hb dX3_slot_124 rfl (lv_at hl 1 rfl) ?_
          refine ro_V (As := [.int (nI k2)]) (rest := []) ⟨hx, hb, hml, hown, hts⟩ hT hP (k_X1_isForward l D cI cZ aM Q P M Wd k2 hv (by omega)) gX3_slot_X1_isForward rfl rfl nd_X1_isForward [1] rfl (ci := 1) rfl rfl (q0 := 1) rfl hl.1 rfl rfl (Nat.le_of_ble_eq_true rfl) ⟨Nat.le_of_ble_eq_true rfl, Nat.le_of_ble_eq_true rfl⟩ ⟨rfl, rfl⟩ ⟨Nat.zero_le _, Nat.zero_le _⟩ dX3_slot_125 ?_
          refine lv_if_eq (tgt := 135) hx hb dX3_slot_128 (by decide) (fun c_9 => ?_) (fun c_9 => ?_)
          · skip
            have hf1 := c_9
            refine lv_iconst (v := 0) hx hb dX3_slot_135 (by decide) ?_
            exact ro_ret hx hb hr hlocks dX3_slot_136 (by first | simp [sSlot, c_1, c_2, eq_true c_3, w_4, w_5, w_6, w_7, eq_true w_8, eq_true c_9, hcl, hf1] | simp [sSlot, c_1, c_2, eq_true c_3, w_4, w_5, w_6, w_7, eq_true w_8, eq_true c_9, hcl])
          · skip
            have hf1 : fwd Q P M k2 = 1 := (fwd01 _ _ _ _).resolve_left c_9
            refine lv_iconst (v := 1) hx hb dX3_slot_131 (by decide) ?_
            refine lv_goto (tgt := 136) hx hb dX3_slot_132 (by decide) ?_
            exact ro_ret hx hb hr hlocks dX3_slot_136 (by first | simp [sSlot, c_1, c_2, eq_true c_3, w_4, w_5, w_6, w_7, eq_true w_8, c_9, hcl, hf1] | simp [sSlot, c_1, c_2, eq_true c_3, w_4, w_5, w_6, w_7, eq_true w_8, c_9, hcl])
        by_cases w_10 : what = 5
        · refine lv_tableIn (off := 91) (tgt := 137) hx hb dX3_slot_46 (by rw [w_10]; decide) (by rw [w_10]; decide) (by rw [w_10]; decide) (by decide) ?_
          refine lv_aload_n hx hb dX3_slot_137 rfl (lv_at hl 0 rfl) ?_
          refine va_get (D := D) (ci := 3) (v := .ref aM) (C := RX3) (T := TX3) (N := 6) hx hb hts hi_X3_slot_X3 hown hT.1 hP 0 rfl rfl 0 (by decide) (hts (.fieldLink RX3 10 "SlotStar" "star" "LSlotStar$Machine;") (List.mem_of_getElem? (i := 1) rfl)) (fun _ h9 => h9) rfl dX3_slot_138 ?_
          refine lv_iload_n hx hb dX3_slot_141 rfl (lv_at hl 1 rfl) ?_
          refine lv_aload_n hx hb dX3_slot_142 rfl (lv_at hl 0 rfl) ?_
          refine va_get (D := D) (ci := 3) (v := .ref aM) (C := RX3) (T := TX3) (N := 6) hx hb hts hi_X3_slot_X3 hown hT.1 hP 0 rfl rfl 0 (by decide) (hts (.fieldLink RX3 10 "SlotStar" "star" "LSlotStar$Machine;") (List.mem_of_getElem? (i := 1) rfl)) (fun _ h9 => h9) rfl dX3_slot_143 ?_
          refine va_get (D := D) (ci := 1) (v := .int (nI Wd)) (C := RX1) (T := TX1) (N := 6) hx hb hts hi_X3_slot_X1 hown hT.1 hP 1 rfl rfl 3 (by decide) (hts (.fieldLink RX3 59 "SlotStar$Machine" "width" "I") (List.mem_of_getElem? (i := 2) rfl)) (fun _ h9 => h9) rfl dX3_slot_146 ?_
          refine ro_V (As := [.int (nI k2), .int (nI Wd)]) (rest := []) ⟨hx, hb, hml, hown, hts⟩ hT hP (k_X1_endOf l D cI cZ aM Q P M Wd k2 Wd hv (by omega) (by omega)) gX3_slot_X1_endOf rfl rfl nd_X1_endOf [1] rfl (ci := 1) rfl rfl (q0 := 1) rfl hl.1 rfl rfl (Nat.le_of_ble_eq_true rfl) ⟨Nat.le_of_ble_eq_true rfl, Nat.le_of_ble_eq_true rfl⟩ ⟨rfl, rfl⟩ ⟨Nat.zero_le _, Nat.zero_le _⟩ dX3_slot_149 ?_
          exact ro_ret hx hb hr hlocks dX3_slot_152 (by first | simp [sSlot, c_1, c_2, eq_true c_3, w_4, w_5, w_6, w_7, w_8, eq_true w_10, hcl, hf1] | simp [sSlot, c_1, c_2, eq_true c_3, w_4, w_5, w_6, w_7, w_8, eq_true w_10, hcl])
        refine lv_tableOut (tgt := 153) hx hb dX3_slot_46 (sw_out6 w_4 w_5 w_6 w_7 w_8 w_10) (by decide) ?_
        refine lv_aload_n hx hb dX3_slot_153 rfl (lv_at hl 0 rfl) ?_
        refine va_get (D := D) (ci := 3) (v := .ref aM) (C := RX3) (T := TX3) (N := 6) hx hb hts hi_X3_slot_X3 hown hT.1 hP 0 rfl rfl 0 (by decide) (hts (.fieldLink RX3 10 "SlotStar" "star" "LSlotStar$Machine;") (List.mem_of_getElem? (i := 1) rfl)) (fun _ h9 => h9) rfl dX3_slot_154 ?_
        refine lv_iload_n hx hb dX3_slot_157 rfl (lv_at hl 1 rfl) ?_
        refine ro_V (As := [.int (nI k2)]) (rest := []) ⟨hx, hb, hml, hown, hts⟩ hT hP (k_X1_coilEndingIn l D cI cZ aM Q P M Wd k2 hv (by omega)) gX3_slot_X1_coilEndingIn rfl rfl nd_X1_coilEndingIn [1] rfl (ci := 1) rfl rfl (q0 := 1) rfl hl.1 rfl rfl (Nat.le_of_ble_eq_true rfl) ⟨Nat.le_of_ble_eq_true rfl, Nat.le_of_ble_eq_true rfl⟩ ⟨rfl, rfl⟩ ⟨Nat.zero_le _, Nat.zero_le _⟩ dX3_slot_158 ?_
        exact ro_ret hx hb hr hlocks dX3_slot_161 (by first | simp [sSlot, c_1, c_2, eq_true c_3, w_4, w_5, w_6, w_7, w_8, w_10, hcl, hf1] | simp [sSlot, c_1, c_2, eq_true c_3, w_4, w_5, w_6, w_7, w_8, w_10, hcl])
      · skip
        refine lv_aload_n hx hb dX3_slot_32 rfl (lv_at hl 0 rfl) ?_
        refine va_get (D := D) (ci := 3) (v := .ref aM) (C := RX3) (T := TX3) (N := 6) hx hb hts hi_X3_slot_X3 hown hT.1 hP 0 rfl rfl 0 (by decide) (hts (.fieldLink RX3 10 "SlotStar" "star" "LSlotStar$Machine;") (List.mem_of_getElem? (i := 1) rfl)) (fun _ h9 => h9) rfl dX3_slot_33 ?_
        refine ro_V (As := []) (rest := []) ⟨hx, hb, hml, hown, hts⟩ hT hP (k_X1_isBalanced l D cI cZ aM Q P M Wd hv) gX3_slot_X1_isBalanced rfl rfl nd_X1_isBalanced [1] rfl (ci := 1) rfl rfl (q0 := 1) rfl hl.1 rfl rfl (Nat.le_of_ble_eq_true rfl) ⟨Nat.le_of_ble_eq_true rfl, Nat.le_of_ble_eq_true rfl⟩ ⟨rfl, rfl⟩ ⟨Nat.zero_le _, Nat.zero_le _⟩ dX3_slot_36 ?_
        refine lv_if_ne (tgt := 45) hx hb dX3_slot_39 (by decide) (fun c_11 => ?_) (fun c_11 => ?_)
        · skip
          refine lv_iload_n hx hb dX3_slot_45 rfl (lv_at hl 2 rfl) ?_
          by_cases w_12 : what = 0
          · refine lv_tableIn (off := 38) (tgt := 84) hx hb dX3_slot_46 (by rw [w_12]; decide) (by rw [w_12]; decide) (by rw [w_12]; decide) (by decide) ?_
            refine lv_aload_n hx hb dX3_slot_84 rfl (lv_at hl 0 rfl) ?_
            refine va_get (D := D) (ci := 3) (v := .ref aM) (C := RX3) (T := TX3) (N := 6) hx hb hts hi_X3_slot_X3 hown hT.1 hP 0 rfl rfl 0 (by decide) (hts (.fieldLink RX3 10 "SlotStar" "star" "LSlotStar$Machine;") (List.mem_of_getElem? (i := 1) rfl)) (fun _ h9 => h9) rfl dX3_slot_85 ?_
            refine lv_iload_n hx hb dX3_slot_88 rfl (lv_at hl 1 rfl) ?_
            refine ro_V (As := [.int (nI k2)]) (rest := []) ⟨hx, hb, hml, hown, hts⟩ hT hP (k_X1_turnOf l D cI cZ aM Q P M Wd k2 hv (by omega)) gX3_slot_X1_turnOf rfl rfl nd_X1_turnOf [1] rfl (ci := 1) rfl rfl (q0 := 1) rfl hl.1 rfl rfl (Nat.le_of_ble_eq_true rfl) ⟨Nat.le_of_ble_eq_true rfl, Nat.le_of_ble_eq_true rfl⟩ ⟨rfl, rfl⟩ ⟨Nat.zero_le _, Nat.zero_le _⟩ dX3_slot_89 ?_
            exact ro_ret hx hb hr hlocks dX3_slot_92 (by first | simp [sSlot, c_1, c_2, c_3, c_11, eq_true w_12, hcl, hf1] | simp [sSlot, c_1, c_2, c_3, c_11, eq_true w_12, hcl])
          by_cases w_13 : what = 1
          · refine lv_tableIn (off := 47) (tgt := 93) hx hb dX3_slot_46 (by rw [w_13]; decide) (by rw [w_13]; decide) (by rw [w_13]; decide) (by decide) ?_
            refine lv_aload_n hx hb dX3_slot_93 rfl (lv_at hl 0 rfl) ?_
            refine va_get (D := D) (ci := 3) (v := .ref aM) (C := RX3) (T := TX3) (N := 6) hx hb hts hi_X3_slot_X3 hown hT.1 hP 0 rfl rfl 0 (by decide) (hts (.fieldLink RX3 10 "SlotStar" "star" "LSlotStar$Machine;") (List.mem_of_getElem? (i := 1) rfl)) (fun _ h9 => h9) rfl dX3_slot_94 ?_
            refine lv_iload_n hx hb dX3_slot_97 rfl (lv_at hl 1 rfl) ?_
            refine ro_V (As := [.int (nI k2)]) (rest := []) ⟨hx, hb, hml, hown, hts⟩ hT hP (k_X1_copyOf l D cI cZ aM Q P M Wd k2 hv (by omega)) gX3_slot_X1_copyOf rfl rfl nd_X1_copyOf [1] rfl (ci := 1) rfl rfl (q0 := 1) rfl hl.1 rfl rfl (Nat.le_of_ble_eq_true rfl) ⟨Nat.le_of_ble_eq_true rfl, Nat.le_of_ble_eq_true rfl⟩ ⟨rfl, rfl⟩ ⟨Nat.zero_le _, Nat.zero_le _⟩ dX3_slot_98 ?_
            exact ro_ret hx hb hr hlocks dX3_slot_101 (by first | simp [sSlot, c_1, c_2, c_3, c_11, w_12, eq_true w_13, hcl, hf1] | simp [sSlot, c_1, c_2, c_3, c_11, w_12, eq_true w_13, hcl])
          by_cases w_14 : what = 2
          · refine lv_tableIn (off := 56) (tgt := 102) hx hb dX3_slot_46 (by rw [w_14]; decide) (by rw [w_14]; decide) (by rw [w_14]; decide) (by decide) ?_
            refine lv_aload_n hx hb dX3_slot_102 rfl (lv_at hl 0 rfl) ?_
            refine va_get (D := D) (ci := 3) (v := .ref aM) (C := RX3) (T := TX3) (N := 6) hx hb hts hi_X3_slot_X3 hown hT.1 hP 0 rfl rfl 0 (by decide) (hts (.fieldLink RX3 10 "SlotStar" "star" "LSlotStar$Machine;") (List.mem_of_getElem? (i := 1) rfl)) (fun _ h9 => h9) rfl dX3_slot_103 ?_
            refine lv_iload_n hx hb dX3_slot_106 rfl (lv_at hl 1 rfl) ?_
            refine ro_V (As := [.int (nI k2)]) (rest := []) ⟨hx, hb, hml, hown, hts⟩ hT hP (k_X1_zoneOf l D cI cZ aM Q P M Wd k2 hv (by omega)) gX3_slot_X1_zoneOf rfl rfl nd_X1_zoneOf [1] rfl (ci := 1) rfl rfl (q0 := 1) rfl hl.1 rfl rfl (Nat.le_of_ble_eq_true rfl) ⟨Nat.le_of_ble_eq_true rfl, Nat.le_of_ble_eq_true rfl⟩ ⟨rfl, rfl⟩ ⟨Nat.zero_le _, Nat.zero_le _⟩ dX3_slot_107 ?_
            exact ro_ret hx hb hr hlocks dX3_slot_110 (by first | simp [sSlot, c_1, c_2, c_3, c_11, w_12, w_13, eq_true w_14, hcl, hf1] | simp [sSlot, c_1, c_2, c_3, c_11, w_12, w_13, eq_true w_14, hcl])
          by_cases w_15 : what = 3
          · refine lv_tableIn (off := 65) (tgt := 111) hx hb dX3_slot_46 (by rw [w_15]; decide) (by rw [w_15]; decide) (by rw [w_15]; decide) (by decide) ?_
            refine lv_aload_n hx hb dX3_slot_111 rfl (lv_at hl 0 rfl) ?_
            refine va_get (D := D) (ci := 3) (v := .ref aM) (C := RX3) (T := TX3) (N := 6) hx hb hts hi_X3_slot_X3 hown hT.1 hP 0 rfl rfl 0 (by decide) (hts (.fieldLink RX3 10 "SlotStar" "star" "LSlotStar$Machine;") (List.mem_of_getElem? (i := 1) rfl)) (fun _ h9 => h9) rfl dX3_slot_112 ?_
            refine lv_iload_n hx hb dX3_slot_115 rfl (lv_at hl 1 rfl) ?_
            refine ro_V (As := [.int (nI k2)]) (rest := []) ⟨hx, hb, hml, hown, hts⟩ hT hP (k_X1_phaseOf l D cI cZ aM Q P M Wd k2 hv (by omega)) gX3_slot_X1_phaseOf rfl rfl nd_X1_phaseOf [1] rfl (ci := 1) rfl rfl (q0 := 1) rfl hl.1 rfl rfl (Nat.le_of_ble_eq_true rfl) ⟨Nat.le_of_ble_eq_true rfl, Nat.le_of_ble_eq_true rfl⟩ ⟨rfl, rfl⟩ ⟨Nat.zero_le _, Nat.zero_le _⟩ dX3_slot_116 ?_
            exact ro_ret hx hb hr hlocks dX3_slot_119 (by first | simp [sSlot, c_1, c_2, c_3, c_11, w_12, w_13, w_14, eq_true w_15, hcl, hf1] | simp [sSlot, c_1, c_2, c_3, c_11, w_12, w_13, w_14, eq_true w_15, hcl])
          by_cases w_16 : what = 4
          · refine lv_tableIn (off := 74) (tgt := 120) hx hb dX3_slot_46 (by rw [w_16]; decide) (by rw [w_16]; decide) (by rw [w_16]; decide) (by decide) ?_
            refine lv_aload_n hx hb dX3_slot_120 rfl (lv_at hl 0 rfl) ?_
            refine va_get (D := D) (ci := 3) (v := .ref aM) (C := RX3) (T := TX3) (N := 6) hx hb hts hi_X3_slot_X3 hown hT.1 hP 0 rfl rfl 0 (by decide) (hts (.fieldLink RX3 10 "SlotStar" "star" "LSlotStar$Machine;") (List.mem_of_getElem? (i := 1) rfl)) (fun _ h9 => h9) rfl dX3_slot_121 ?_
            refine lv_iload_n hx hb dX3_slot_124 rfl (lv_at hl 1 rfl) ?_
            refine ro_V (As := [.int (nI k2)]) (rest := []) ⟨hx, hb, hml, hown, hts⟩ hT hP (k_X1_isForward l D cI cZ aM Q P M Wd k2 hv (by omega)) gX3_slot_X1_isForward rfl rfl nd_X1_isForward [1] rfl (ci := 1) rfl rfl (q0 := 1) rfl hl.1 rfl rfl (Nat.le_of_ble_eq_true rfl) ⟨Nat.le_of_ble_eq_true rfl, Nat.le_of_ble_eq_true rfl⟩ ⟨rfl, rfl⟩ ⟨Nat.zero_le _, Nat.zero_le _⟩ dX3_slot_125 ?_
            refine lv_if_eq (tgt := 135) hx hb dX3_slot_128 (by decide) (fun c_17 => ?_) (fun c_17 => ?_)
            · skip
              have hf1 := c_17
              refine lv_iconst (v := 0) hx hb dX3_slot_135 (by decide) ?_
              exact ro_ret hx hb hr hlocks dX3_slot_136 (by first | simp [sSlot, c_1, c_2, c_3, c_11, w_12, w_13, w_14, w_15, eq_true w_16, eq_true c_17, hcl, hf1] | simp [sSlot, c_1, c_2, c_3, c_11, w_12, w_13, w_14, w_15, eq_true w_16, eq_true c_17, hcl])
            · skip
              have hf1 : fwd Q P M k2 = 1 := (fwd01 _ _ _ _).resolve_left c_17
              refine lv_iconst (v := 1) hx hb dX3_slot_131 (by decide) ?_
              refine lv_goto (tgt := 136) hx hb dX3_slot_132 (by decide) ?_
              exact ro_ret hx hb hr hlocks dX3_slot_136 (by first | simp [sSlot, c_1, c_2, c_3, c_11, w_12, w_13, w_14, w_15, eq_true w_16, c_17, hcl, hf1] | simp [sSlot, c_1, c_2, c_3, c_11, w_12, w_13, w_14, w_15, eq_true w_16, c_17, hcl])
          by_cases w_18 : what = 5
          · refine lv_tableIn (off := 91) (tgt := 137) hx hb dX3_slot_46 (by rw [w_18]; decide) (by rw [w_18]; decide) (by rw [w_18]; decide) (by decide) ?_
            refine lv_aload_n hx hb dX3_slot_137 rfl (lv_at hl 0 rfl) ?_
            refine va_get (D := D) (ci := 3) (v := .ref aM) (C := RX3) (T := TX3) (N := 6) hx hb hts hi_X3_slot_X3 hown hT.1 hP 0 rfl rfl 0 (by decide) (hts (.fieldLink RX3 10 "SlotStar" "star" "LSlotStar$Machine;") (List.mem_of_getElem? (i := 1) rfl)) (fun _ h9 => h9) rfl dX3_slot_138 ?_
            refine lv_iload_n hx hb dX3_slot_141 rfl (lv_at hl 1 rfl) ?_
            refine lv_aload_n hx hb dX3_slot_142 rfl (lv_at hl 0 rfl) ?_
            refine va_get (D := D) (ci := 3) (v := .ref aM) (C := RX3) (T := TX3) (N := 6) hx hb hts hi_X3_slot_X3 hown hT.1 hP 0 rfl rfl 0 (by decide) (hts (.fieldLink RX3 10 "SlotStar" "star" "LSlotStar$Machine;") (List.mem_of_getElem? (i := 1) rfl)) (fun _ h9 => h9) rfl dX3_slot_143 ?_
            refine va_get (D := D) (ci := 1) (v := .int (nI Wd)) (C := RX1) (T := TX1) (N := 6) hx hb hts hi_X3_slot_X1 hown hT.1 hP 1 rfl rfl 3 (by decide) (hts (.fieldLink RX3 59 "SlotStar$Machine" "width" "I") (List.mem_of_getElem? (i := 2) rfl)) (fun _ h9 => h9) rfl dX3_slot_146 ?_
            refine ro_V (As := [.int (nI k2), .int (nI Wd)]) (rest := []) ⟨hx, hb, hml, hown, hts⟩ hT hP (k_X1_endOf l D cI cZ aM Q P M Wd k2 Wd hv (by omega) (by omega)) gX3_slot_X1_endOf rfl rfl nd_X1_endOf [1] rfl (ci := 1) rfl rfl (q0 := 1) rfl hl.1 rfl rfl (Nat.le_of_ble_eq_true rfl) ⟨Nat.le_of_ble_eq_true rfl, Nat.le_of_ble_eq_true rfl⟩ ⟨rfl, rfl⟩ ⟨Nat.zero_le _, Nat.zero_le _⟩ dX3_slot_149 ?_
            exact ro_ret hx hb hr hlocks dX3_slot_152 (by first | simp [sSlot, c_1, c_2, c_3, c_11, w_12, w_13, w_14, w_15, w_16, eq_true w_18, hcl, hf1] | simp [sSlot, c_1, c_2, c_3, c_11, w_12, w_13, w_14, w_15, w_16, eq_true w_18, hcl])
          refine lv_tableOut (tgt := 153) hx hb dX3_slot_46 (sw_out6 w_12 w_13 w_14 w_15 w_16 w_18) (by decide) ?_
          refine lv_aload_n hx hb dX3_slot_153 rfl (lv_at hl 0 rfl) ?_
          refine va_get (D := D) (ci := 3) (v := .ref aM) (C := RX3) (T := TX3) (N := 6) hx hb hts hi_X3_slot_X3 hown hT.1 hP 0 rfl rfl 0 (by decide) (hts (.fieldLink RX3 10 "SlotStar" "star" "LSlotStar$Machine;") (List.mem_of_getElem? (i := 1) rfl)) (fun _ h9 => h9) rfl dX3_slot_154 ?_
          refine lv_iload_n hx hb dX3_slot_157 rfl (lv_at hl 1 rfl) ?_
          refine ro_V (As := [.int (nI k2)]) (rest := []) ⟨hx, hb, hml, hown, hts⟩ hT hP (k_X1_coilEndingIn l D cI cZ aM Q P M Wd k2 hv (by omega)) gX3_slot_X1_coilEndingIn rfl rfl nd_X1_coilEndingIn [1] rfl (ci := 1) rfl rfl (q0 := 1) rfl hl.1 rfl rfl (Nat.le_of_ble_eq_true rfl) ⟨Nat.le_of_ble_eq_true rfl, Nat.le_of_ble_eq_true rfl⟩ ⟨rfl, rfl⟩ ⟨Nat.zero_le _, Nat.zero_le _⟩ dX3_slot_158 ?_
          exact ro_ret hx hb hr hlocks dX3_slot_161 (by first | simp [sSlot, c_1, c_2, c_3, c_11, w_12, w_13, w_14, w_15, w_16, w_18, hcl, hf1] | simp [sSlot, c_1, c_2, c_3, c_11, w_12, w_13, w_14, w_15, w_16, w_18, hcl])
        · skip
          refine lv_bipush (v := (-3)) hx hb dX3_slot_42 (by decide) ?_
          exact ro_ret hx hb hr hlocks dX3_slot_44 (by first | simp [sSlot, c_1, c_2, c_3, eq_true c_11, hcl, hf1] | simp [sSlot, c_1, c_2, c_3, eq_true c_11, hcl])
    · skip
      refine lv_bipush (v := (-2)) hx hb dX3_slot_20 (by decide) ?_
      exact ro_ret hx hb hr hlocks dX3_slot_22 (by first | simp [sSlot, c_1, eq_true c_2, hcl, hf1] | simp [sSlot, c_1, eq_true c_2, hcl])
  · skip
    refine lv_iconst (v := (-1)) hx hb dX3_slot_8 (by decide) ?_
    exact ro_ret hx hb hr hlocks dX3_slot_9 (by simp [sSlot, eq_true c_1])

set_option maxRecDepth 20000 in
theorem hi_X3_phase_X3 : ∀ w ∈ wsX30, w ∈ wsX3_phase := by
  intro w h
  unfold wsX3_phase
  simp only [List.mem_cons, List.mem_append, h, or_true, true_or]
theorem nd_X3_phase : okName yX3_phase 2 := by decide +kernel
set_option maxHeartbeats 4000000 in
set_option maxRecDepth 100000 in
theorem k_X3_phase (l : Launch) (D : va_G) (cI cZ : ClassId) (aS : Nat) (aM : Nat) (aR : Nat) (aJ : Nat) (aF : Nat) (aG : Nat) (aI : Nat) (Q : Nat) (P : Nat) (M : Nat) (Wd : Nat) (a : Int32) (what : Int32) (hv : MV Q P M Wd) : RO l yX3_phase wsX3_phase ({ frames := 5, cells := 0, slots := 0, locals := 110 } : Room) D cI cZ [(aS, .inr (3, [.ref aM, .ref aR, .ref aJ, .ref aF, .ref aG, .ref aI])), (aM, .inr (1, [.int (nI Q), .int (nI P), .int (nI M), .int (nI Wd), .int (nI (tT Q P)), .int (nI (tN Q P))]))] [.ref aS, .int a, .int what] (sPhase Q P M a what) := by
  refine ro_start (by decide) rfl (Nat.le_of_ble_eq_true rfl) ?_
  intro p e s m args below meth c hx hb hr hml hlocks hts hown hT hP ls hl
  have hown : s.vm.findClass RX3 = some m.cls := hown
  have hl : lv_has ls 3 [(0, .ref aS), (1, .int a), (2, .int what)] := hl
  refine lv_aload_n hx hb dX3_phase_0 rfl (lv_at hl 0 rfl) ?_
  refine lv_iload_n hx hb dX3_phase_1 rfl (lv_at hl 1 rfl) ?_
  refine ro_V (As := [.int a]) (rest := []) ⟨hx, hb, hml, hown, hts⟩ hT hP (k_X3_isPhase l D cI cZ aS aM aR aJ aF aG aI Q P M Wd a) gX3_phase_X3_isPhase rfl rfl nd_X3_isPhase [0, 1] rfl (ci := 3) rfl rfl (q0 := 0) rfl hl.1 rfl rfl (Nat.le_of_ble_eq_true rfl) ⟨Nat.le_of_ble_eq_true rfl, Nat.le_of_ble_eq_true rfl⟩ ⟨rfl, rfl⟩ ⟨Nat.zero_le _, Nat.zero_le _⟩ dX3_phase_2 ?_
  refine lv_if_ne (tgt := 10) hx hb dX3_phase_5 (by decide) (fun c_1 => ?_) (fun c_1 => ?_)
  · skip
    refine lv_iload_n hx hb dX3_phase_10 rfl (lv_at hl 2 rfl) ?_
    refine lv_iconst (v := 0) hx hb dX3_phase_11 (by decide) ?_
    refine lv_iconst (v := 2) hx hb dX3_phase_12 (by decide) ?_
    refine ro_S (As := [.int what, .int 0, .int 2]) (rest := []) ⟨hx, hb, hml, hown, hts⟩ hT hP (k_X3_isWithin l D cI cZ what 0 2) gX3_phase_X3_isWithin rfl nd_X3_isWithin [] rfl hl.1 rfl rfl (Nat.le_of_ble_eq_true rfl) ⟨Nat.le_of_ble_eq_true rfl, Nat.le_of_ble_eq_true rfl⟩ ⟨rfl, rfl⟩ ⟨Nat.zero_le _, Nat.zero_le _⟩ dX3_phase_13 ?_
    refine lv_if_ne (tgt := 22) hx hb dX3_phase_16 (by decide) (fun c_2 => ?_) (fun c_2 => ?_)
    · skip
      refine lv_aload_n hx hb dX3_phase_22 rfl (lv_at hl 0 rfl) ?_
      refine va_get (D := D) (ci := 3) (v := .ref aM) (C := RX3) (T := TX3) (N := 6) hx hb hts hi_X3_phase_X3 hown hT.1 hP 0 rfl rfl 0 (by decide) (hts (.fieldLink RX3 10 "SlotStar" "star" "LSlotStar$Machine;") (List.mem_of_getElem? (i := 1) rfl)) (fun _ h9 => h9) rfl dX3_phase_23 ?_
      refine ro_V (As := []) (rest := []) ⟨hx, hb, hml, hown, hts⟩ hT hP (k_X1_isBalanced l D cI cZ aM Q P M Wd hv) gX3_phase_X1_isBalanced rfl rfl nd_X1_isBalanced [1] rfl (ci := 1) rfl rfl (q0 := 1) rfl hl.1 rfl rfl (Nat.le_of_ble_eq_true rfl) ⟨Nat.le_of_ble_eq_true rfl, Nat.le_of_ble_eq_true rfl⟩ ⟨rfl, rfl⟩ ⟨Nat.zero_le _, Nat.zero_le _⟩ dX3_phase_26 ?_
      refine lv_if_ne (tgt := 35) hx hb dX3_phase_29 (by decide) (fun c_3 => ?_) (fun c_3 => ?_)
      · skip
        refine lv_iload_n hx hb dX3_phase_35 rfl (lv_at hl 2 rfl) ?_
        by_cases w_4 : what = 0
        · refine lv_lookup (off := 28) (tgt := 64) hx hb dX3_phase_36 (by decide) (by rw [w_4]; decide) (by decide) ?_
          refine lv_aload_n hx hb dX3_phase_64 rfl (lv_at hl 0 rfl) ?_
          refine va_get (D := D) (ci := 3) (v := .ref aM) (C := RX3) (T := TX3) (N := 6) hx hb hts hi_X3_phase_X3 hown hT.1 hP 0 rfl rfl 0 (by decide) (hts (.fieldLink RX3 10 "SlotStar" "star" "LSlotStar$Machine;") (List.mem_of_getElem? (i := 1) rfl)) (fun _ h9 => h9) rfl dX3_phase_65 ?_
          refine lv_iload_n hx hb dX3_phase_68 rfl (lv_at hl 1 rfl) ?_
          refine lv_iconst (v := 1) hx hb dX3_phase_69 (by decide) ?_
          refine ro_V (As := [.int a, .int 1]) (rest := []) ⟨hx, hb, hml, hown, hts⟩ hT hP (k_X1_countSides l D cI cZ aM Q P M Wd a 1 hv) gX3_phase_X1_countSides rfl rfl nd_X1_countSides [1] rfl (ci := 1) rfl rfl (q0 := 1) rfl hl.1 rfl rfl (Nat.le_of_ble_eq_true rfl) ⟨Nat.le_of_ble_eq_true rfl, Nat.le_of_ble_eq_true rfl⟩ ⟨rfl, rfl⟩ ⟨Nat.zero_le _, Nat.zero_le _⟩ dX3_phase_70 ?_
          refine lv_aload_n hx hb dX3_phase_73 rfl (lv_at hl 0 rfl) ?_
          refine va_get (D := D) (ci := 3) (v := .ref aM) (C := RX3) (T := TX3) (N := 6) hx hb hts hi_X3_phase_X3 hown hT.1 hP 0 rfl rfl 0 (by decide) (hts (.fieldLink RX3 10 "SlotStar" "star" "LSlotStar$Machine;") (List.mem_of_getElem? (i := 1) rfl)) (fun _ h9 => h9) rfl dX3_phase_74 ?_
          refine lv_iload_n hx hb dX3_phase_77 rfl (lv_at hl 1 rfl) ?_
          refine lv_iconst (v := 0) hx hb dX3_phase_78 (by decide) ?_
          refine ro_V (As := [.int a, .int 0]) (rest := [.int (csL Q P M a 1 Q 0 0)]) ⟨hx, hb, hml, hown, hts⟩ hT hP (k_X1_countSides l D cI cZ aM Q P M Wd a 0 hv) gX3_phase_X1_countSides rfl rfl nd_X1_countSides [1] rfl (ci := 1) rfl rfl (q0 := 1) rfl hl.1 rfl rfl (Nat.le_of_ble_eq_true rfl) ⟨Nat.le_of_ble_eq_true rfl, Nat.le_of_ble_eq_true rfl⟩ ⟨rfl, rfl⟩ ⟨Nat.zero_le _, Nat.zero_le _⟩ dX3_phase_79 ?_
          refine lv_iadd hx hb dX3_phase_82 ?_
          exact ro_ret hx hb hr hlocks dX3_phase_83 (by simp [sPhase, c_1, c_2, c_3, eq_true w_4])
        by_cases w_5 : what = 1
        · refine lv_lookup (off := 48) (tgt := 84) hx hb dX3_phase_36 (by decide) (by rw [w_5]; decide) (by decide) ?_
          refine lv_aload_n hx hb dX3_phase_84 rfl (lv_at hl 0 rfl) ?_
          refine va_get (D := D) (ci := 3) (v := .ref aM) (C := RX3) (T := TX3) (N := 6) hx hb hts hi_X3_phase_X3 hown hT.1 hP 0 rfl rfl 0 (by decide) (hts (.fieldLink RX3 10 "SlotStar" "star" "LSlotStar$Machine;") (List.mem_of_getElem? (i := 1) rfl)) (fun _ h9 => h9) rfl dX3_phase_85 ?_
          refine lv_iload_n hx hb dX3_phase_88 rfl (lv_at hl 1 rfl) ?_
          refine lv_iconst (v := 1) hx hb dX3_phase_89 (by decide) ?_
          refine ro_V (As := [.int a, .int 1]) (rest := []) ⟨hx, hb, hml, hown, hts⟩ hT hP (k_X1_countSides l D cI cZ aM Q P M Wd a 1 hv) gX3_phase_X1_countSides rfl rfl nd_X1_countSides [1] rfl (ci := 1) rfl rfl (q0 := 1) rfl hl.1 rfl rfl (Nat.le_of_ble_eq_true rfl) ⟨Nat.le_of_ble_eq_true rfl, Nat.le_of_ble_eq_true rfl⟩ ⟨rfl, rfl⟩ ⟨Nat.zero_le _, Nat.zero_le _⟩ dX3_phase_90 ?_
          exact ro_ret hx hb hr hlocks dX3_phase_93 (by simp [sPhase, c_1, c_2, c_3, w_4, eq_true w_5])
        refine lv_lookup (off := 58) (tgt := 94) hx hb dX3_phase_36 (by decide) (lk_out2 w_4 w_5) (by decide) ?_
        refine lv_aload_n hx hb dX3_phase_94 rfl (lv_at hl 0 rfl) ?_
        refine va_get (D := D) (ci := 3) (v := .ref aM) (C := RX3) (T := TX3) (N := 6) hx hb hts hi_X3_phase_X3 hown hT.1 hP 0 rfl rfl 0 (by decide) (hts (.fieldLink RX3 10 "SlotStar" "star" "LSlotStar$Machine;") (List.mem_of_getElem? (i := 1) rfl)) (fun _ h9 => h9) rfl dX3_phase_95 ?_
        refine lv_iload_n hx hb dX3_phase_98 rfl (lv_at hl 1 rfl) ?_
        refine lv_iconst (v := 0) hx hb dX3_phase_99 (by decide) ?_
        refine ro_V (As := [.int a, .int 0]) (rest := []) ⟨hx, hb, hml, hown, hts⟩ hT hP (k_X1_countSides l D cI cZ aM Q P M Wd a 0 hv) gX3_phase_X1_countSides rfl rfl nd_X1_countSides [1] rfl (ci := 1) rfl rfl (q0 := 1) rfl hl.1 rfl rfl (Nat.le_of_ble_eq_true rfl) ⟨Nat.le_of_ble_eq_true rfl, Nat.le_of_ble_eq_true rfl⟩ ⟨rfl, rfl⟩ ⟨Nat.zero_le _, Nat.zero_le _⟩ dX3_phase_100 ?_
        exact ro_ret hx hb hr hlocks dX3_phase_103 (by simp [sPhase, c_1, c_2, c_3, w_4, w_5])
      · skip
        refine lv_bipush (v := (-3)) hx hb dX3_phase_32 (by decide) ?_
        exact ro_ret hx hb hr hlocks dX3_phase_34 (by simp [sPhase, c_1, c_2, eq_true c_3])
    · skip
      refine lv_bipush (v := (-2)) hx hb dX3_phase_19 (by decide) ?_
      exact ro_ret hx hb hr hlocks dX3_phase_21 (by simp [sPhase, c_1, eq_true c_2])
  · skip
    refine lv_iconst (v := (-1)) hx hb dX3_phase_8 (by decide) ?_
    exact ro_ret hx hb hr hlocks dX3_phase_9 (by simp [sPhase, eq_true c_1])

set_option maxRecDepth 20000 in
theorem hi_X3_layer_X3 : ∀ w ∈ wsX30, w ∈ wsX3_layer := by
  intro w h
  unfold wsX3_layer
  simp only [List.mem_cons, List.mem_append, h, or_true, true_or]
theorem nd_X3_layer : okName yX3_layer 2 := by decide +kernel
set_option maxHeartbeats 4000000 in
set_option maxRecDepth 100000 in
theorem k_X3_layer (l : Launch) (D : va_G) (cI cZ : ClassId) (aS : Nat) (aM : Nat) (aR : Nat) (aJ : Nat) (aF : Nat) (aG : Nat) (aI : Nat) (Q : Nat) (P : Nat) (M : Nat) (Wd : Nat) (k : Int32) (layer : Int32) (hv : MV Q P M Wd) : RO l yX3_layer wsX3_layer ({ frames := 4, cells := 0, slots := 0, locals := 86 } : Room) D cI cZ [(aS, .inr (3, [.ref aM, .ref aR, .ref aJ, .ref aF, .ref aG, .ref aI])), (aM, .inr (1, [.int (nI Q), .int (nI P), .int (nI M), .int (nI Wd), .int (nI (tT Q P)), .int (nI (tN Q P))]))] [.ref aS, .int k, .int layer] (sLayer Q P M Wd k layer) := by
  refine ro_start (by decide) rfl (Nat.le_of_ble_eq_true rfl) ?_
  intro p e s m args below meth c hx hb hr hml hlocks hts hown hT hP ls hl
  have hown : s.vm.findClass RX3 = some m.cls := hown
  have hl : lv_has ls 6 [(0, .ref aS), (1, .int k), (2, .int layer)] := hl
  have hv' := hv
  unfold MV at hv'
  refine lv_aload_n hx hb dX3_layer_0 rfl (lv_at hl 0 rfl) ?_
  refine lv_iload_n hx hb dX3_layer_1 rfl (lv_at hl 1 rfl) ?_
  refine ro_V (As := [.int k]) (rest := []) ⟨hx, hb, hml, hown, hts⟩ hT hP (k_X3_isSlot l D cI cZ aS aM aR aJ aF aG aI Q P M Wd k) gX3_layer_X3_isSlot rfl rfl nd_X3_isSlot [0, 1] rfl (ci := 3) rfl rfl (q0 := 0) rfl hl.1 rfl rfl (Nat.le_of_ble_eq_true rfl) ⟨Nat.le_of_ble_eq_true rfl, Nat.le_of_ble_eq_true rfl⟩ ⟨rfl, rfl⟩ ⟨Nat.zero_le _, Nat.zero_le _⟩ dX3_layer_2 ?_
  refine lv_if_ne (tgt := 10) hx hb dX3_layer_5 (by decide) (fun c_1 => ?_) (fun c_1 => ?_)
  · skip
    obtain ⟨k2, hk2, rfl⟩ := jIn_sl (by omega) c_1
    have hcl : cl (nI k2) = k2 := cl_nI (by omega)
    have hbe : be Q Wd k2 < 1000 := Nat.lt_of_lt_of_le (Nat.mod_lt _ (by omega)) (by omega)
    refine lv_iload_n hx hb dX3_layer_10 rfl (lv_at hl 2 rfl) ?_
    refine lv_iconst (v := 0) hx hb dX3_layer_11 (by decide) ?_
    refine lv_iconst (v := 1) hx hb dX3_layer_12 (by decide) ?_
    refine ro_S (As := [.int layer, .int 0, .int 1]) (rest := []) ⟨hx, hb, hml, hown, hts⟩ hT hP (k_X3_isWithin l D cI cZ layer 0 1) gX3_layer_X3_isWithin rfl nd_X3_isWithin [] rfl hl.1 rfl rfl (Nat.le_of_ble_eq_true rfl) ⟨Nat.le_of_ble_eq_true rfl, Nat.le_of_ble_eq_true rfl⟩ ⟨rfl, rfl⟩ ⟨Nat.zero_le _, Nat.zero_le _⟩ dX3_layer_13 ?_
    refine lv_if_ne (tgt := 22) hx hb dX3_layer_16 (by decide) (fun c_2 => ?_) (fun c_2 => ?_)
    · skip
      refine lv_aload_n hx hb dX3_layer_22 rfl (lv_at hl 0 rfl) ?_
      refine va_get (D := D) (ci := 3) (v := .ref aM) (C := RX3) (T := TX3) (N := 6) hx hb hts hi_X3_layer_X3 hown hT.1 hP 0 rfl rfl 0 (by decide) (hts (.fieldLink RX3 10 "SlotStar" "star" "LSlotStar$Machine;") (List.mem_of_getElem? (i := 1) rfl)) (fun _ h9 => h9) rfl dX3_layer_23 ?_
      refine ro_V (As := []) (rest := []) ⟨hx, hb, hml, hown, hts⟩ hT hP (k_X1_isBalanced l D cI cZ aM Q P M Wd hv) gX3_layer_X1_isBalanced rfl rfl nd_X1_isBalanced [1] rfl (ci := 1) rfl rfl (q0 := 1) rfl hl.1 rfl rfl (Nat.le_of_ble_eq_true rfl) ⟨Nat.le_of_ble_eq_true rfl, Nat.le_of_ble_eq_true rfl⟩ ⟨rfl, rfl⟩ ⟨Nat.zero_le _, Nat.zero_le _⟩ dX3_layer_26 ?_
      refine lv_if_ne (tgt := 35) hx hb dX3_layer_29 (by decide) (fun c_3 => ?_) (fun c_3 => ?_)
      · skip
        refine lv_iload_n hx hb dX3_layer_35 rfl (lv_at hl 2 rfl) ?_
        refine lv_if_ne (tgt := 43) hx hb dX3_layer_36 (by decide) (fun c_4 => ?_) (fun c_4 => ?_)
        · skip
          refine lv_iconst (v := 0) hx hb dX3_layer_43 (by decide) ?_
          refine lv_istore_n (lv' := [(3, .int 0), (0, .ref aS), (1, .int (nI k2)), (2, .int layer)]) hx hb dX3_layer_44 rfl hl (by decide) rfl (fun ls hl => ?_)
          refine lv_iload_n hx hb dX3_layer_45 rfl (lv_at hl 0 rfl) ?_
          refine lv_if_eq (tgt := 53) hx hb dX3_layer_46 (by decide) (fun c_5 => ?_) (fun c_5 => ?_)
          · skip
            refine lv_aload_n hx hb dX3_layer_53 rfl (lv_at hl 1 rfl) ?_
            refine va_get (D := D) (ci := 3) (v := .ref aM) (C := RX3) (T := TX3) (N := 6) hx hb hts hi_X3_layer_X3 hown hT.1 hP 0 rfl rfl 0 (by decide) (hts (.fieldLink RX3 10 "SlotStar" "star" "LSlotStar$Machine;") (List.mem_of_getElem? (i := 1) rfl)) (fun _ h9 => h9) rfl dX3_layer_54 ?_
            refine lv_iload_n hx hb dX3_layer_57 rfl (lv_at hl 2 rfl) ?_
            refine ro_V (As := [.int (nI k2)]) (rest := []) ⟨hx, hb, hml, hown, hts⟩ hT hP (k_X1_coilEndingIn l D cI cZ aM Q P M Wd k2 hv (by omega)) gX3_layer_X1_coilEndingIn rfl rfl nd_X1_coilEndingIn [1] rfl (ci := 1) rfl rfl (q0 := 1) rfl hl.1 rfl rfl (Nat.le_of_ble_eq_true rfl) ⟨Nat.le_of_ble_eq_true rfl, Nat.le_of_ble_eq_true rfl⟩ ⟨rfl, rfl⟩ ⟨Nat.zero_le _, Nat.zero_le _⟩ dX3_layer_58 ?_
            refine lv_istore (lv' := [(4, .int (nI (be Q Wd k2))), (3, .int 0), (0, .ref aS), (1, .int (nI k2)), (2, .int layer)]) hx hb dX3_layer_61 hl (by decide) rfl (fun ls hl => ?_)
            refine lv_aload_n hx hb dX3_layer_63 rfl (lv_at hl 2 rfl) ?_
            refine va_get (D := D) (ci := 3) (v := .ref aM) (C := RX3) (T := TX3) (N := 6) hx hb hts hi_X3_layer_X3 hown hT.1 hP 0 rfl rfl 0 (by decide) (hts (.fieldLink RX3 10 "SlotStar" "star" "LSlotStar$Machine;") (List.mem_of_getElem? (i := 1) rfl)) (fun _ h9 => h9) rfl dX3_layer_64 ?_
            refine lv_iload hx hb dX3_layer_67 (lv_at hl 0 rfl) ?_
            refine ro_V (As := [.int (nI (be Q Wd k2))]) (rest := []) ⟨hx, hb, hml, hown, hts⟩ hT hP (k_X1_isForward l D cI cZ aM Q P M Wd (be Q Wd k2) hv (by omega)) gX3_layer_X1_isForward rfl rfl nd_X1_isForward [1] rfl (ci := 1) rfl rfl (q0 := 1) rfl hl.1 rfl rfl (Nat.le_of_ble_eq_true rfl) ⟨Nat.le_of_ble_eq_true rfl, Nat.le_of_ble_eq_true rfl⟩ ⟨rfl, rfl⟩ ⟨Nat.zero_le _, Nat.zero_le _⟩ dX3_layer_69 ?_
            refine lv_iload_n hx hb dX3_layer_72 rfl (lv_at hl 1 rfl) ?_
            refine lv_icmp_ne (tgt := 80) hx hb dX3_layer_73 (by decide) (fun c_6 => ?_) (fun c_6 => ?_)
            · skip
              refine lv_iconst (v := 0) hx hb dX3_layer_80 (by decide) ?_
              refine lv_istore (lv' := [(5, .int 0), (4, .int (nI (be Q Wd k2))), (3, .int 0), (0, .ref aS), (1, .int (nI k2)), (2, .int layer)]) hx hb dX3_layer_81 hl (by decide) rfl (fun ls hl => ?_)
              refine lv_bipush (v := 10) hx hb dX3_layer_83 (by decide) ?_
              refine lv_aload_n hx hb dX3_layer_85 rfl (lv_at hl 3 rfl) ?_
              refine va_get (D := D) (ci := 3) (v := .ref aM) (C := RX3) (T := TX3) (N := 6) hx hb hts hi_X3_layer_X3 hown hT.1 hP 0 rfl rfl 0 (by decide) (hts (.fieldLink RX3 10 "SlotStar" "star" "LSlotStar$Machine;") (List.mem_of_getElem? (i := 1) rfl)) (fun _ h9 => h9) rfl dX3_layer_86 ?_
              refine lv_iload hx hb dX3_layer_89 (lv_at hl 1 rfl) ?_
              refine ro_V (As := [.int (nI (be Q Wd k2))]) (rest := [.int 10]) ⟨hx, hb, hml, hown, hts⟩ hT hP (k_X1_phaseOf l D cI cZ aM Q P M Wd (be Q Wd k2) hv (by omega)) gX3_layer_X1_phaseOf rfl rfl nd_X1_phaseOf [1] rfl (ci := 1) rfl rfl (q0 := 1) rfl hl.1 rfl rfl (Nat.le_of_ble_eq_true rfl) ⟨Nat.le_of_ble_eq_true rfl, Nat.le_of_ble_eq_true rfl⟩ ⟨rfl, rfl⟩ ⟨Nat.zero_le _, Nat.zero_le _⟩ dX3_layer_91 ?_
              refine lv_imul hx hb dX3_layer_94 ?_
              refine lv_iload hx hb dX3_layer_95 (lv_at hl 0 rfl) ?_
              refine lv_if_eq (tgt := 104) hx hb dX3_layer_97 (by decide) (fun c_7 => ?_) (fun c_7 => ?_)
              · skip
                refine lv_iconst (v := 0) hx hb dX3_layer_104 (by decide) ?_
                refine lv_iadd hx hb dX3_layer_105 ?_
                exact ro_ret hx hb hr hlocks dX3_layer_106 (by simp_all [sLayer, lyC])
              · skip
                refine lv_iconst (v := 1) hx hb dX3_layer_100 (by decide) ?_
                refine lv_goto (tgt := 105) hx hb dX3_layer_101 (by decide) ?_
                refine lv_iadd hx hb dX3_layer_105 ?_
                exact ro_ret hx hb hr hlocks dX3_layer_106 (by simp_all [sLayer, lyC])
            · skip
              refine lv_iconst (v := 1) hx hb dX3_layer_76 (by decide) ?_
              refine lv_goto (tgt := 81) hx hb dX3_layer_77 (by decide) ?_
              refine lv_istore (lv' := [(5, .int 1), (4, .int (nI (be Q Wd k2))), (3, .int 0), (0, .ref aS), (1, .int (nI k2)), (2, .int layer)]) hx hb dX3_layer_81 hl (by decide) rfl (fun ls hl => ?_)
              refine lv_bipush (v := 10) hx hb dX3_layer_83 (by decide) ?_
              refine lv_aload_n hx hb dX3_layer_85 rfl (lv_at hl 3 rfl) ?_
              refine va_get (D := D) (ci := 3) (v := .ref aM) (C := RX3) (T := TX3) (N := 6) hx hb hts hi_X3_layer_X3 hown hT.1 hP 0 rfl rfl 0 (by decide) (hts (.fieldLink RX3 10 "SlotStar" "star" "LSlotStar$Machine;") (List.mem_of_getElem? (i := 1) rfl)) (fun _ h9 => h9) rfl dX3_layer_86 ?_
              refine lv_iload hx hb dX3_layer_89 (lv_at hl 1 rfl) ?_
              refine ro_V (As := [.int (nI (be Q Wd k2))]) (rest := [.int 10]) ⟨hx, hb, hml, hown, hts⟩ hT hP (k_X1_phaseOf l D cI cZ aM Q P M Wd (be Q Wd k2) hv (by omega)) gX3_layer_X1_phaseOf rfl rfl nd_X1_phaseOf [1] rfl (ci := 1) rfl rfl (q0 := 1) rfl hl.1 rfl rfl (Nat.le_of_ble_eq_true rfl) ⟨Nat.le_of_ble_eq_true rfl, Nat.le_of_ble_eq_true rfl⟩ ⟨rfl, rfl⟩ ⟨Nat.zero_le _, Nat.zero_le _⟩ dX3_layer_91 ?_
              refine lv_imul hx hb dX3_layer_94 ?_
              refine lv_iload hx hb dX3_layer_95 (lv_at hl 0 rfl) ?_
              refine lv_if_eq (tgt := 104) hx hb dX3_layer_97 (by decide) (fun c_8 => ?_) (fun c_8 => ?_)
              · skip
                refine lv_iconst (v := 0) hx hb dX3_layer_104 (by decide) ?_
                refine lv_iadd hx hb dX3_layer_105 ?_
                exact ro_ret hx hb hr hlocks dX3_layer_106 (by simp_all [sLayer, lyC])
              · skip
                refine lv_iconst (v := 1) hx hb dX3_layer_100 (by decide) ?_
                refine lv_goto (tgt := 105) hx hb dX3_layer_101 (by decide) ?_
                refine lv_iadd hx hb dX3_layer_105 ?_
                exact ro_ret hx hb hr hlocks dX3_layer_106 (by simp_all [sLayer, lyC])
          · skip
            refine lv_iload_n hx hb dX3_layer_49 rfl (lv_at hl 2 rfl) ?_
            refine lv_goto (tgt := 61) hx hb dX3_layer_50 (by decide) ?_
            refine lv_istore (lv' := [(4, .int (nI k2)), (3, .int 0), (0, .ref aS), (1, .int (nI k2)), (2, .int layer)]) hx hb dX3_layer_61 hl (by decide) rfl (fun ls hl => ?_)
            refine lv_aload_n hx hb dX3_layer_63 rfl (lv_at hl 2 rfl) ?_
            refine va_get (D := D) (ci := 3) (v := .ref aM) (C := RX3) (T := TX3) (N := 6) hx hb hts hi_X3_layer_X3 hown hT.1 hP 0 rfl rfl 0 (by decide) (hts (.fieldLink RX3 10 "SlotStar" "star" "LSlotStar$Machine;") (List.mem_of_getElem? (i := 1) rfl)) (fun _ h9 => h9) rfl dX3_layer_64 ?_
            refine lv_iload hx hb dX3_layer_67 (lv_at hl 0 rfl) ?_
            refine ro_V (As := [.int (nI k2)]) (rest := []) ⟨hx, hb, hml, hown, hts⟩ hT hP (k_X1_isForward l D cI cZ aM Q P M Wd k2 hv (by omega)) gX3_layer_X1_isForward rfl rfl nd_X1_isForward [1] rfl (ci := 1) rfl rfl (q0 := 1) rfl hl.1 rfl rfl (Nat.le_of_ble_eq_true rfl) ⟨Nat.le_of_ble_eq_true rfl, Nat.le_of_ble_eq_true rfl⟩ ⟨rfl, rfl⟩ ⟨Nat.zero_le _, Nat.zero_le _⟩ dX3_layer_69 ?_
            refine lv_iload_n hx hb dX3_layer_72 rfl (lv_at hl 1 rfl) ?_
            refine lv_icmp_ne (tgt := 80) hx hb dX3_layer_73 (by decide) (fun c_9 => ?_) (fun c_9 => ?_)
            · skip
              refine lv_iconst (v := 0) hx hb dX3_layer_80 (by decide) ?_
              refine lv_istore (lv' := [(5, .int 0), (4, .int (nI k2)), (3, .int 0), (0, .ref aS), (1, .int (nI k2)), (2, .int layer)]) hx hb dX3_layer_81 hl (by decide) rfl (fun ls hl => ?_)
              refine lv_bipush (v := 10) hx hb dX3_layer_83 (by decide) ?_
              refine lv_aload_n hx hb dX3_layer_85 rfl (lv_at hl 3 rfl) ?_
              refine va_get (D := D) (ci := 3) (v := .ref aM) (C := RX3) (T := TX3) (N := 6) hx hb hts hi_X3_layer_X3 hown hT.1 hP 0 rfl rfl 0 (by decide) (hts (.fieldLink RX3 10 "SlotStar" "star" "LSlotStar$Machine;") (List.mem_of_getElem? (i := 1) rfl)) (fun _ h9 => h9) rfl dX3_layer_86 ?_
              refine lv_iload hx hb dX3_layer_89 (lv_at hl 1 rfl) ?_
              refine ro_V (As := [.int (nI k2)]) (rest := [.int 10]) ⟨hx, hb, hml, hown, hts⟩ hT hP (k_X1_phaseOf l D cI cZ aM Q P M Wd k2 hv (by omega)) gX3_layer_X1_phaseOf rfl rfl nd_X1_phaseOf [1] rfl (ci := 1) rfl rfl (q0 := 1) rfl hl.1 rfl rfl (Nat.le_of_ble_eq_true rfl) ⟨Nat.le_of_ble_eq_true rfl, Nat.le_of_ble_eq_true rfl⟩ ⟨rfl, rfl⟩ ⟨Nat.zero_le _, Nat.zero_le _⟩ dX3_layer_91 ?_
              refine lv_imul hx hb dX3_layer_94 ?_
              refine lv_iload hx hb dX3_layer_95 (lv_at hl 0 rfl) ?_
              refine lv_if_eq (tgt := 104) hx hb dX3_layer_97 (by decide) (fun c_10 => ?_) (fun c_10 => ?_)
              · skip
                refine lv_iconst (v := 0) hx hb dX3_layer_104 (by decide) ?_
                refine lv_iadd hx hb dX3_layer_105 ?_
                exact ro_ret hx hb hr hlocks dX3_layer_106 (by simp_all [sLayer, lyC])
              · skip
                refine lv_iconst (v := 1) hx hb dX3_layer_100 (by decide) ?_
                refine lv_goto (tgt := 105) hx hb dX3_layer_101 (by decide) ?_
                refine lv_iadd hx hb dX3_layer_105 ?_
                exact ro_ret hx hb hr hlocks dX3_layer_106 (by simp_all [sLayer, lyC])
            · skip
              refine lv_iconst (v := 1) hx hb dX3_layer_76 (by decide) ?_
              refine lv_goto (tgt := 81) hx hb dX3_layer_77 (by decide) ?_
              refine lv_istore (lv' := [(5, .int 1), (4, .int (nI k2)), (3, .int 0), (0, .ref aS), (1, .int (nI k2)), (2, .int layer)]) hx hb dX3_layer_81 hl (by decide) rfl (fun ls hl => ?_)
              refine lv_bipush (v := 10) hx hb dX3_layer_83 (by decide) ?_
              refine lv_aload_n hx hb dX3_layer_85 rfl (lv_at hl 3 rfl) ?_
              refine va_get (D := D) (ci := 3) (v := .ref aM) (C := RX3) (T := TX3) (N := 6) hx hb hts hi_X3_layer_X3 hown hT.1 hP 0 rfl rfl 0 (by decide) (hts (.fieldLink RX3 10 "SlotStar" "star" "LSlotStar$Machine;") (List.mem_of_getElem? (i := 1) rfl)) (fun _ h9 => h9) rfl dX3_layer_86 ?_
              refine lv_iload hx hb dX3_layer_89 (lv_at hl 1 rfl) ?_
              refine ro_V (As := [.int (nI k2)]) (rest := [.int 10]) ⟨hx, hb, hml, hown, hts⟩ hT hP (k_X1_phaseOf l D cI cZ aM Q P M Wd k2 hv (by omega)) gX3_layer_X1_phaseOf rfl rfl nd_X1_phaseOf [1] rfl (ci := 1) rfl rfl (q0 := 1) rfl hl.1 rfl rfl (Nat.le_of_ble_eq_true rfl) ⟨Nat.le_of_ble_eq_true rfl, Nat.le_of_ble_eq_true rfl⟩ ⟨rfl, rfl⟩ ⟨Nat.zero_le _, Nat.zero_le _⟩ dX3_layer_91 ?_
              refine lv_imul hx hb dX3_layer_94 ?_
              refine lv_iload hx hb dX3_layer_95 (lv_at hl 0 rfl) ?_
              refine lv_if_eq (tgt := 104) hx hb dX3_layer_97 (by decide) (fun c_11 => ?_) (fun c_11 => ?_)
              · skip
                refine lv_iconst (v := 0) hx hb dX3_layer_104 (by decide) ?_
                refine lv_iadd hx hb dX3_layer_105 ?_
                exact ro_ret hx hb hr hlocks dX3_layer_106 (by simp_all [sLayer, lyC])
              · skip
                refine lv_iconst (v := 1) hx hb dX3_layer_100 (by decide) ?_
                refine lv_goto (tgt := 105) hx hb dX3_layer_101 (by decide) ?_
                refine lv_iadd hx hb dX3_layer_105 ?_
                exact ro_ret hx hb hr hlocks dX3_layer_106 (by simp_all [sLayer, lyC])
        · skip
          refine lv_iconst (v := 1) hx hb dX3_layer_39 (by decide) ?_
          refine lv_goto (tgt := 44) hx hb dX3_layer_40 (by decide) ?_
          refine lv_istore_n (lv' := [(3, .int 1), (0, .ref aS), (1, .int (nI k2)), (2, .int layer)]) hx hb dX3_layer_44 rfl hl (by decide) rfl (fun ls hl => ?_)
          refine lv_iload_n hx hb dX3_layer_45 rfl (lv_at hl 0 rfl) ?_
          refine lv_if_eq (tgt := 53) hx hb dX3_layer_46 (by decide) (fun c_12 => ?_) (fun c_12 => ?_)
          · skip
            refine lv_aload_n hx hb dX3_layer_53 rfl (lv_at hl 1 rfl) ?_
            refine va_get (D := D) (ci := 3) (v := .ref aM) (C := RX3) (T := TX3) (N := 6) hx hb hts hi_X3_layer_X3 hown hT.1 hP 0 rfl rfl 0 (by decide) (hts (.fieldLink RX3 10 "SlotStar" "star" "LSlotStar$Machine;") (List.mem_of_getElem? (i := 1) rfl)) (fun _ h9 => h9) rfl dX3_layer_54 ?_
            refine lv_iload_n hx hb dX3_layer_57 rfl (lv_at hl 2 rfl) ?_
            refine ro_V (As := [.int (nI k2)]) (rest := []) ⟨hx, hb, hml, hown, hts⟩ hT hP (k_X1_coilEndingIn l D cI cZ aM Q P M Wd k2 hv (by omega)) gX3_layer_X1_coilEndingIn rfl rfl nd_X1_coilEndingIn [1] rfl (ci := 1) rfl rfl (q0 := 1) rfl hl.1 rfl rfl (Nat.le_of_ble_eq_true rfl) ⟨Nat.le_of_ble_eq_true rfl, Nat.le_of_ble_eq_true rfl⟩ ⟨rfl, rfl⟩ ⟨Nat.zero_le _, Nat.zero_le _⟩ dX3_layer_58 ?_
            refine lv_istore (lv' := [(4, .int (nI (be Q Wd k2))), (3, .int 1), (0, .ref aS), (1, .int (nI k2)), (2, .int layer)]) hx hb dX3_layer_61 hl (by decide) rfl (fun ls hl => ?_)
            refine lv_aload_n hx hb dX3_layer_63 rfl (lv_at hl 2 rfl) ?_
            refine va_get (D := D) (ci := 3) (v := .ref aM) (C := RX3) (T := TX3) (N := 6) hx hb hts hi_X3_layer_X3 hown hT.1 hP 0 rfl rfl 0 (by decide) (hts (.fieldLink RX3 10 "SlotStar" "star" "LSlotStar$Machine;") (List.mem_of_getElem? (i := 1) rfl)) (fun _ h9 => h9) rfl dX3_layer_64 ?_
            refine lv_iload hx hb dX3_layer_67 (lv_at hl 0 rfl) ?_
            refine ro_V (As := [.int (nI (be Q Wd k2))]) (rest := []) ⟨hx, hb, hml, hown, hts⟩ hT hP (k_X1_isForward l D cI cZ aM Q P M Wd (be Q Wd k2) hv (by omega)) gX3_layer_X1_isForward rfl rfl nd_X1_isForward [1] rfl (ci := 1) rfl rfl (q0 := 1) rfl hl.1 rfl rfl (Nat.le_of_ble_eq_true rfl) ⟨Nat.le_of_ble_eq_true rfl, Nat.le_of_ble_eq_true rfl⟩ ⟨rfl, rfl⟩ ⟨Nat.zero_le _, Nat.zero_le _⟩ dX3_layer_69 ?_
            refine lv_iload_n hx hb dX3_layer_72 rfl (lv_at hl 1 rfl) ?_
            refine lv_icmp_ne (tgt := 80) hx hb dX3_layer_73 (by decide) (fun c_13 => ?_) (fun c_13 => ?_)
            · skip
              refine lv_iconst (v := 0) hx hb dX3_layer_80 (by decide) ?_
              refine lv_istore (lv' := [(5, .int 0), (4, .int (nI (be Q Wd k2))), (3, .int 1), (0, .ref aS), (1, .int (nI k2)), (2, .int layer)]) hx hb dX3_layer_81 hl (by decide) rfl (fun ls hl => ?_)
              refine lv_bipush (v := 10) hx hb dX3_layer_83 (by decide) ?_
              refine lv_aload_n hx hb dX3_layer_85 rfl (lv_at hl 3 rfl) ?_
              refine va_get (D := D) (ci := 3) (v := .ref aM) (C := RX3) (T := TX3) (N := 6) hx hb hts hi_X3_layer_X3 hown hT.1 hP 0 rfl rfl 0 (by decide) (hts (.fieldLink RX3 10 "SlotStar" "star" "LSlotStar$Machine;") (List.mem_of_getElem? (i := 1) rfl)) (fun _ h9 => h9) rfl dX3_layer_86 ?_
              refine lv_iload hx hb dX3_layer_89 (lv_at hl 1 rfl) ?_
              refine ro_V (As := [.int (nI (be Q Wd k2))]) (rest := [.int 10]) ⟨hx, hb, hml, hown, hts⟩ hT hP (k_X1_phaseOf l D cI cZ aM Q P M Wd (be Q Wd k2) hv (by omega)) gX3_layer_X1_phaseOf rfl rfl nd_X1_phaseOf [1] rfl (ci := 1) rfl rfl (q0 := 1) rfl hl.1 rfl rfl (Nat.le_of_ble_eq_true rfl) ⟨Nat.le_of_ble_eq_true rfl, Nat.le_of_ble_eq_true rfl⟩ ⟨rfl, rfl⟩ ⟨Nat.zero_le _, Nat.zero_le _⟩ dX3_layer_91 ?_
              refine lv_imul hx hb dX3_layer_94 ?_
              refine lv_iload hx hb dX3_layer_95 (lv_at hl 0 rfl) ?_
              refine lv_if_eq (tgt := 104) hx hb dX3_layer_97 (by decide) (fun c_14 => ?_) (fun c_14 => ?_)
              · skip
                refine lv_iconst (v := 0) hx hb dX3_layer_104 (by decide) ?_
                refine lv_iadd hx hb dX3_layer_105 ?_
                exact ro_ret hx hb hr hlocks dX3_layer_106 (by simp_all [sLayer, lyC])
              · skip
                refine lv_iconst (v := 1) hx hb dX3_layer_100 (by decide) ?_
                refine lv_goto (tgt := 105) hx hb dX3_layer_101 (by decide) ?_
                refine lv_iadd hx hb dX3_layer_105 ?_
                exact ro_ret hx hb hr hlocks dX3_layer_106 (by simp_all [sLayer, lyC])
            · skip
              refine lv_iconst (v := 1) hx hb dX3_layer_76 (by decide) ?_
              refine lv_goto (tgt := 81) hx hb dX3_layer_77 (by decide) ?_
              refine lv_istore (lv' := [(5, .int 1), (4, .int (nI (be Q Wd k2))), (3, .int 1), (0, .ref aS), (1, .int (nI k2)), (2, .int layer)]) hx hb dX3_layer_81 hl (by decide) rfl (fun ls hl => ?_)
              refine lv_bipush (v := 10) hx hb dX3_layer_83 (by decide) ?_
              refine lv_aload_n hx hb dX3_layer_85 rfl (lv_at hl 3 rfl) ?_
              refine va_get (D := D) (ci := 3) (v := .ref aM) (C := RX3) (T := TX3) (N := 6) hx hb hts hi_X3_layer_X3 hown hT.1 hP 0 rfl rfl 0 (by decide) (hts (.fieldLink RX3 10 "SlotStar" "star" "LSlotStar$Machine;") (List.mem_of_getElem? (i := 1) rfl)) (fun _ h9 => h9) rfl dX3_layer_86 ?_
              refine lv_iload hx hb dX3_layer_89 (lv_at hl 1 rfl) ?_
              refine ro_V (As := [.int (nI (be Q Wd k2))]) (rest := [.int 10]) ⟨hx, hb, hml, hown, hts⟩ hT hP (k_X1_phaseOf l D cI cZ aM Q P M Wd (be Q Wd k2) hv (by omega)) gX3_layer_X1_phaseOf rfl rfl nd_X1_phaseOf [1] rfl (ci := 1) rfl rfl (q0 := 1) rfl hl.1 rfl rfl (Nat.le_of_ble_eq_true rfl) ⟨Nat.le_of_ble_eq_true rfl, Nat.le_of_ble_eq_true rfl⟩ ⟨rfl, rfl⟩ ⟨Nat.zero_le _, Nat.zero_le _⟩ dX3_layer_91 ?_
              refine lv_imul hx hb dX3_layer_94 ?_
              refine lv_iload hx hb dX3_layer_95 (lv_at hl 0 rfl) ?_
              refine lv_if_eq (tgt := 104) hx hb dX3_layer_97 (by decide) (fun c_15 => ?_) (fun c_15 => ?_)
              · skip
                refine lv_iconst (v := 0) hx hb dX3_layer_104 (by decide) ?_
                refine lv_iadd hx hb dX3_layer_105 ?_
                exact ro_ret hx hb hr hlocks dX3_layer_106 (by simp_all [sLayer, lyC])
              · skip
                refine lv_iconst (v := 1) hx hb dX3_layer_100 (by decide) ?_
                refine lv_goto (tgt := 105) hx hb dX3_layer_101 (by decide) ?_
                refine lv_iadd hx hb dX3_layer_105 ?_
                exact ro_ret hx hb hr hlocks dX3_layer_106 (by simp_all [sLayer, lyC])
          · skip
            refine lv_iload_n hx hb dX3_layer_49 rfl (lv_at hl 2 rfl) ?_
            refine lv_goto (tgt := 61) hx hb dX3_layer_50 (by decide) ?_
            refine lv_istore (lv' := [(4, .int (nI k2)), (3, .int 1), (0, .ref aS), (1, .int (nI k2)), (2, .int layer)]) hx hb dX3_layer_61 hl (by decide) rfl (fun ls hl => ?_)
            refine lv_aload_n hx hb dX3_layer_63 rfl (lv_at hl 2 rfl) ?_
            refine va_get (D := D) (ci := 3) (v := .ref aM) (C := RX3) (T := TX3) (N := 6) hx hb hts hi_X3_layer_X3 hown hT.1 hP 0 rfl rfl 0 (by decide) (hts (.fieldLink RX3 10 "SlotStar" "star" "LSlotStar$Machine;") (List.mem_of_getElem? (i := 1) rfl)) (fun _ h9 => h9) rfl dX3_layer_64 ?_
            refine lv_iload hx hb dX3_layer_67 (lv_at hl 0 rfl) ?_
            refine ro_V (As := [.int (nI k2)]) (rest := []) ⟨hx, hb, hml, hown, hts⟩ hT hP (k_X1_isForward l D cI cZ aM Q P M Wd k2 hv (by omega)) gX3_layer_X1_isForward rfl rfl nd_X1_isForward [1] rfl (ci := 1) rfl rfl (q0 := 1) rfl hl.1 rfl rfl (Nat.le_of_ble_eq_true rfl) ⟨Nat.le_of_ble_eq_true rfl, Nat.le_of_ble_eq_true rfl⟩ ⟨rfl, rfl⟩ ⟨Nat.zero_le _, Nat.zero_le _⟩ dX3_layer_69 ?_
            refine lv_iload_n hx hb dX3_layer_72 rfl (lv_at hl 1 rfl) ?_
            refine lv_icmp_ne (tgt := 80) hx hb dX3_layer_73 (by decide) (fun c_16 => ?_) (fun c_16 => ?_)
            · skip
              refine lv_iconst (v := 0) hx hb dX3_layer_80 (by decide) ?_
              refine lv_istore (lv' := [(5, .int 0), (4, .int (nI k2)), (3, .int 1), (0, .ref aS), (1, .int (nI k2)), (2, .int layer)]) hx hb dX3_layer_81 hl (by decide) rfl (fun ls hl => ?_)
              refine lv_bipush (v := 10) hx hb dX3_layer_83 (by decide) ?_
              refine lv_aload_n hx hb dX3_layer_85 rfl (lv_at hl 3 rfl) ?_
              refine va_get (D := D) (ci := 3) (v := .ref aM) (C := RX3) (T := TX3) (N := 6) hx hb hts hi_X3_layer_X3 hown hT.1 hP 0 rfl rfl 0 (by decide) (hts (.fieldLink RX3 10 "SlotStar" "star" "LSlotStar$Machine;") (List.mem_of_getElem? (i := 1) rfl)) (fun _ h9 => h9) rfl dX3_layer_86 ?_
              refine lv_iload hx hb dX3_layer_89 (lv_at hl 1 rfl) ?_
              refine ro_V (As := [.int (nI k2)]) (rest := [.int 10]) ⟨hx, hb, hml, hown, hts⟩ hT hP (k_X1_phaseOf l D cI cZ aM Q P M Wd k2 hv (by omega)) gX3_layer_X1_phaseOf rfl rfl nd_X1_phaseOf [1] rfl (ci := 1) rfl rfl (q0 := 1) rfl hl.1 rfl rfl (Nat.le_of_ble_eq_true rfl) ⟨Nat.le_of_ble_eq_true rfl, Nat.le_of_ble_eq_true rfl⟩ ⟨rfl, rfl⟩ ⟨Nat.zero_le _, Nat.zero_le _⟩ dX3_layer_91 ?_
              refine lv_imul hx hb dX3_layer_94 ?_
              refine lv_iload hx hb dX3_layer_95 (lv_at hl 0 rfl) ?_
              refine lv_if_eq (tgt := 104) hx hb dX3_layer_97 (by decide) (fun c_17 => ?_) (fun c_17 => ?_)
              · skip
                refine lv_iconst (v := 0) hx hb dX3_layer_104 (by decide) ?_
                refine lv_iadd hx hb dX3_layer_105 ?_
                exact ro_ret hx hb hr hlocks dX3_layer_106 (by simp_all [sLayer, lyC])
              · skip
                refine lv_iconst (v := 1) hx hb dX3_layer_100 (by decide) ?_
                refine lv_goto (tgt := 105) hx hb dX3_layer_101 (by decide) ?_
                refine lv_iadd hx hb dX3_layer_105 ?_
                exact ro_ret hx hb hr hlocks dX3_layer_106 (by simp_all [sLayer, lyC])
            · skip
              refine lv_iconst (v := 1) hx hb dX3_layer_76 (by decide) ?_
              refine lv_goto (tgt := 81) hx hb dX3_layer_77 (by decide) ?_
              refine lv_istore (lv' := [(5, .int 1), (4, .int (nI k2)), (3, .int 1), (0, .ref aS), (1, .int (nI k2)), (2, .int layer)]) hx hb dX3_layer_81 hl (by decide) rfl (fun ls hl => ?_)
              refine lv_bipush (v := 10) hx hb dX3_layer_83 (by decide) ?_
              refine lv_aload_n hx hb dX3_layer_85 rfl (lv_at hl 3 rfl) ?_
              refine va_get (D := D) (ci := 3) (v := .ref aM) (C := RX3) (T := TX3) (N := 6) hx hb hts hi_X3_layer_X3 hown hT.1 hP 0 rfl rfl 0 (by decide) (hts (.fieldLink RX3 10 "SlotStar" "star" "LSlotStar$Machine;") (List.mem_of_getElem? (i := 1) rfl)) (fun _ h9 => h9) rfl dX3_layer_86 ?_
              refine lv_iload hx hb dX3_layer_89 (lv_at hl 1 rfl) ?_
              refine ro_V (As := [.int (nI k2)]) (rest := [.int 10]) ⟨hx, hb, hml, hown, hts⟩ hT hP (k_X1_phaseOf l D cI cZ aM Q P M Wd k2 hv (by omega)) gX3_layer_X1_phaseOf rfl rfl nd_X1_phaseOf [1] rfl (ci := 1) rfl rfl (q0 := 1) rfl hl.1 rfl rfl (Nat.le_of_ble_eq_true rfl) ⟨Nat.le_of_ble_eq_true rfl, Nat.le_of_ble_eq_true rfl⟩ ⟨rfl, rfl⟩ ⟨Nat.zero_le _, Nat.zero_le _⟩ dX3_layer_91 ?_
              refine lv_imul hx hb dX3_layer_94 ?_
              refine lv_iload hx hb dX3_layer_95 (lv_at hl 0 rfl) ?_
              refine lv_if_eq (tgt := 104) hx hb dX3_layer_97 (by decide) (fun c_18 => ?_) (fun c_18 => ?_)
              · skip
                refine lv_iconst (v := 0) hx hb dX3_layer_104 (by decide) ?_
                refine lv_iadd hx hb dX3_layer_105 ?_
                exact ro_ret hx hb hr hlocks dX3_layer_106 (by simp_all [sLayer, lyC])
              · skip
                refine lv_iconst (v := 1) hx hb dX3_layer_100 (by decide) ?_
                refine lv_goto (tgt := 105) hx hb dX3_layer_101 (by decide) ?_
                refine lv_iadd hx hb dX3_layer_105 ?_
                exact ro_ret hx hb hr hlocks dX3_layer_106 (by simp_all [sLayer, lyC])
      · skip
        refine lv_bipush (v := (-3)) hx hb dX3_layer_32 (by decide) ?_
        exact ro_ret hx hb hr hlocks dX3_layer_34 (by simp_all [sLayer, lyC])
    · skip
      refine lv_bipush (v := (-2)) hx hb dX3_layer_19 (by decide) ?_
      exact ro_ret hx hb hr hlocks dX3_layer_21 (by simp_all [sLayer, lyC])
  · skip
    refine lv_iconst (v := (-1)) hx hb dX3_layer_8 (by decide) ?_
    exact ro_ret hx hb hr hlocks dX3_layer_9 (by simp [sLayer, eq_true c_1])

set_option maxRecDepth 20000 in
theorem hi_X3_each_X1 : ∀ w ∈ wsX10, w ∈ wsX3_each := by
  intro w h
  unfold wsX3_each
  simp only [List.mem_cons, List.mem_append, h, or_true, true_or]
set_option maxRecDepth 20000 in
theorem hi_X3_each_X3 : ∀ w ∈ wsX30, w ∈ wsX3_each := by
  intro w h
  unfold wsX3_each
  simp only [List.mem_cons, List.mem_append, h, or_true, true_or]
theorem nd_X3_each : okName yX3_each 1 := by decide +kernel
set_option maxHeartbeats 4000000 in
set_option maxRecDepth 100000 in
theorem k_X3_each (l : Launch) (D : va_G) (cI cZ : ClassId) (aS : Nat) (aM : Nat) (aR : Nat) (aJ : Nat) (aF : Nat) (aG : Nat) (aI : Nat) (Q : Nat) (P : Nat) (M : Nat) (Wd : Nat) (what : Int32) (hv : MV Q P M Wd) : RO l yX3_each wsX3_each ({ frames := 2, cells := 0, slots := 0, locals := 44 } : Room) D cI cZ [(aS, .inr (3, [.ref aM, .ref aR, .ref aJ, .ref aF, .ref aG, .ref aI])), (aM, .inr (1, [.int (nI Q), .int (nI P), .int (nI M), .int (nI Wd), .int (nI (tT Q P)), .int (nI (tN Q P))]))] [.ref aS, .int what] (sEach Q P M what) := by
  refine ro_start (by decide) rfl (Nat.le_of_ble_eq_true rfl) ?_
  intro p e s m args below meth c hx hb hr hml hlocks hts hown hT hP ls hl
  have hown : s.vm.findClass RX3 = some m.cls := hown
  have hl : lv_has ls 4 [(0, .ref aS), (1, .int what)] := hl
  refine lv_iload_n hx hb dX3_each_0 rfl (lv_at hl 1 rfl) ?_
  refine lv_iconst (v := 0) hx hb dX3_each_1 (by decide) ?_
  refine lv_iconst (v := 1) hx hb dX3_each_2 (by decide) ?_
  refine ro_S (As := [.int what, .int 0, .int 1]) (rest := []) ⟨hx, hb, hml, hown, hts⟩ hT hP (k_X3_isWithin l D cI cZ what 0 1) gX3_each_X3_isWithin rfl nd_X3_isWithin [] rfl hl.1 rfl rfl (Nat.le_of_ble_eq_true rfl) ⟨Nat.le_of_ble_eq_true rfl, Nat.le_of_ble_eq_true rfl⟩ ⟨rfl, rfl⟩ ⟨Nat.zero_le _, Nat.zero_le _⟩ dX3_each_3 ?_
  refine lv_if_ne (tgt := 12) hx hb dX3_each_6 (by decide) (fun c_1 => ?_) (fun c_1 => ?_)
  · skip
    refine lv_iconst (v := 2) hx hb dX3_each_12 (by decide) ?_
    refine lv_aload_n hx hb dX3_each_13 rfl (lv_at hl 0 rfl) ?_
    refine va_get (D := D) (ci := 3) (v := .ref aM) (C := RX3) (T := TX3) (N := 6) hx hb hts hi_X3_each_X3 hown hT.1 hP 0 rfl rfl 0 (by decide) (hts (.fieldLink RX3 10 "SlotStar" "star" "LSlotStar$Machine;") (List.mem_of_getElem? (i := 1) rfl)) (fun _ h9 => h9) rfl dX3_each_14 ?_
    refine va_get (D := D) (ci := 1) (v := .int (nI P)) (C := RX1) (T := TX1) (N := 6) hx hb hts hi_X3_each_X1 hown hT.1 hP 1 rfl rfl 1 (by decide) (hts (.fieldLink RX3 103 "SlotStar$Machine" "pairs" "I") (List.mem_of_getElem? (i := 2) rfl)) (fun _ h9 => h9) rfl dX3_each_17 ?_
    refine lv_imul hx hb dX3_each_20 ?_
    refine lv_aload_n hx hb dX3_each_21 rfl (lv_at hl 0 rfl) ?_
    refine va_get (D := D) (ci := 3) (v := .ref aM) (C := RX3) (T := TX3) (N := 6) hx hb hts hi_X3_each_X3 hown hT.1 hP 0 rfl rfl 0 (by decide) (hts (.fieldLink RX3 10 "SlotStar" "star" "LSlotStar$Machine;") (List.mem_of_getElem? (i := 1) rfl)) (fun _ h9 => h9) rfl dX3_each_22 ?_
    refine va_get (D := D) (ci := 1) (v := .int (nI M)) (C := RX1) (T := TX1) (N := 6) hx hb hts hi_X3_each_X1 hown hT.1 hP 1 rfl rfl 2 (by decide) (hts (.fieldLink RX3 106 "SlotStar$Machine" "phases" "I") (List.mem_of_getElem? (i := 3) rfl)) (fun _ h9 => h9) rfl dX3_each_25 ?_
    refine lv_imul hx hb dX3_each_28 ?_
    refine lv_istore_n (lv' := [(2, .int ((2 * (nI P)) * (nI M))), (0, .ref aS), (1, .int what)]) hx hb dX3_each_29 rfl hl (by decide) rfl (fun ls hl => ?_)
    refine lv_aload_n hx hb dX3_each_30 rfl (lv_at hl 1 rfl) ?_
    refine va_get (D := D) (ci := 3) (v := .ref aM) (C := RX3) (T := TX3) (N := 6) hx hb hts hi_X3_each_X3 hown hT.1 hP 0 rfl rfl 0 (by decide) (hts (.fieldLink RX3 10 "SlotStar" "star" "LSlotStar$Machine;") (List.mem_of_getElem? (i := 1) rfl)) (fun _ h9 => h9) rfl dX3_each_31 ?_
    refine va_get (D := D) (ci := 1) (v := .int (nI Q)) (C := RX1) (T := TX1) (N := 6) hx hb hts hi_X3_each_X1 hown hT.1 hP 1 rfl rfl 0 (by decide) (hts (.fieldLink RX3 56 "SlotStar$Machine" "slots" "I") (List.mem_of_getElem? (i := 4) rfl)) (fun _ h9 => h9) rfl dX3_each_34 ?_
    refine lv_iload_n hx hb dX3_each_37 rfl (lv_at hl 0 rfl) ?_
    refine ro_S (As := [.int (nI Q), .int ((2 * (nI P)) * (nI M))]) (rest := []) ⟨hx, hb, hml, hown, hts⟩ hT hP (k_X3_commonDivisor l D cI cZ (nI Q) ((2 * (nI P)) * (nI M))) gX3_each_X3_commonDivisor rfl nd_X3_commonDivisor [] rfl hl.1 rfl rfl (Nat.le_of_ble_eq_true rfl) ⟨Nat.le_of_ble_eq_true rfl, Nat.le_of_ble_eq_true rfl⟩ ⟨rfl, rfl⟩ ⟨Nat.zero_le _, Nat.zero_le _⟩ dX3_each_38 ?_
    refine top_eq (z := (nI (Nat.gcd Q (2 * P * M)))) (by exact j_eachg hv) ?_
    refine lv_istore_n (lv' := [(3, .int (nI (Nat.gcd Q (2 * P * M)))), (2, .int ((2 * (nI P)) * (nI M))), (0, .ref aS), (1, .int what)]) hx hb dX3_each_41 rfl hl (by decide) rfl (fun ls hl => ?_)
    refine lv_iload_n hx hb dX3_each_42 rfl (lv_at hl 3 rfl) ?_
    refine lv_if_ne (tgt := 60) hx hb dX3_each_43 (by decide) (fun c_2 => ?_) (fun c_2 => ?_)
    · skip
      refine lv_iload_n hx hb dX3_each_60 rfl (lv_at hl 1 rfl) ?_
      refine lv_iload_n hx hb dX3_each_61 rfl (lv_at hl 0 rfl) ?_
      refine ro_S (As := [.int ((2 * (nI P)) * (nI M)), .int (nI (Nat.gcd Q (2 * P * M)))]) (rest := []) ⟨hx, hb, hml, hown, hts⟩ hT hP (k_X3_cut l D cI cZ ((2 * (nI P)) * (nI M)) (nI (Nat.gcd Q (2 * P * M)))) gX3_each_X3_cut rfl nd_X3_cut [] rfl hl.1 rfl rfl (Nat.le_of_ble_eq_true rfl) ⟨Nat.le_of_ble_eq_true rfl, Nat.le_of_ble_eq_true rfl⟩ ⟨rfl, rfl⟩ ⟨Nat.zero_le _, Nat.zero_le _⟩ dX3_each_62 ?_
      exact ro_ret hx hb hr hlocks dX3_each_65 (by first | (rw [j_each0 hv]; simp [sEach, c_1, c_2]) | (rw [j_each1 hv]; simp [sEach, c_1, c_2]))
    · skip
      refine lv_aload_n hx hb dX3_each_46 rfl (lv_at hl 2 rfl) ?_
      refine va_get (D := D) (ci := 3) (v := .ref aM) (C := RX3) (T := TX3) (N := 6) hx hb hts hi_X3_each_X3 hown hT.1 hP 0 rfl rfl 0 (by decide) (hts (.fieldLink RX3 10 "SlotStar" "star" "LSlotStar$Machine;") (List.mem_of_getElem? (i := 1) rfl)) (fun _ h9 => h9) rfl dX3_each_47 ?_
      refine va_get (D := D) (ci := 1) (v := .int (nI Q)) (C := RX1) (T := TX1) (N := 6) hx hb hts hi_X3_each_X1 hown hT.1 hP 1 rfl rfl 0 (by decide) (hts (.fieldLink RX3 56 "SlotStar$Machine" "slots" "I") (List.mem_of_getElem? (i := 4) rfl)) (fun _ h9 => h9) rfl dX3_each_50 ?_
      refine lv_iload_n hx hb dX3_each_53 rfl (lv_at hl 0 rfl) ?_
      refine ro_S (As := [.int (nI Q), .int (nI (Nat.gcd Q (2 * P * M)))]) (rest := []) ⟨hx, hb, hml, hown, hts⟩ hT hP (k_X3_cut l D cI cZ (nI Q) (nI (Nat.gcd Q (2 * P * M)))) gX3_each_X3_cut rfl nd_X3_cut [] rfl hl.1 rfl rfl (Nat.le_of_ble_eq_true rfl) ⟨Nat.le_of_ble_eq_true rfl, Nat.le_of_ble_eq_true rfl⟩ ⟨rfl, rfl⟩ ⟨Nat.zero_le _, Nat.zero_le _⟩ dX3_each_54 ?_
      refine lv_goto (tgt := 65) hx hb dX3_each_57 (by decide) ?_
      exact ro_ret hx hb hr hlocks dX3_each_65 (by first | (rw [j_each0 hv]; simp [sEach, c_1, eq_true c_2]) | (rw [j_each1 hv]; simp [sEach, c_1, eq_true c_2]))
  · skip
    refine lv_bipush (v := (-2)) hx hb dX3_each_9 (by decide) ?_
    exact ro_ret hx hb hr hlocks dX3_each_11 (by simp [sEach, eq_true c_1])

set_option maxRecDepth 20000 in
theorem hi_X3_own_X2 : ∀ w ∈ wsX20, w ∈ wsX3_own := by
  intro w h
  unfold wsX3_own
  simp only [List.mem_cons, List.mem_append, h, or_true, true_or]
set_option maxRecDepth 20000 in
theorem hi_X3_own_X3 : ∀ w ∈ wsX30, w ∈ wsX3_own := by
  intro w h
  unfold wsX3_own
  simp only [List.mem_cons, List.mem_append, h, or_true, true_or]
theorem nd_X3_own : okName yX3_own 1 := by decide +kernel
set_option maxHeartbeats 4000000 in
set_option maxRecDepth 100000 in
theorem k_X3_own (l : Launch) (D : va_G) (cI cZ : ClassId) (aS : Nat) (aM : Nat) (aR : Nat) (aJ : Nat) (aF : Nat) (aG : Nat) (aI : Nat) (Q : Nat) (P : Nat) (M : Nat) (Wd : Nat) (aN : Nat) (i : Int32) (hv : MV Q P M Wd) : RO l yX3_own wsX3_own ({ frames := 2, cells := 0, slots := 0, locals := 43 } : Room) D cI cZ [(aS, .inr (3, [.ref aM, .ref aR, .ref aJ, .ref aF, .ref aG, .ref aI])), (aR, .inr (2, [.ref aN, .int (nI (dgN (tN Q P))), .int (nI (tN Q P))])), (aN, .inl (cI, 49, .inl (cyR (tN Q P))))] [.ref aS, .int i] (sOwn (tN Q P) i) := by
  refine ro_start (by decide) rfl (Nat.le_of_ble_eq_true rfl) ?_
  intro p e s m args below meth c hx hb hr hml hlocks hts hown hT hP ls hl
  have hown : s.vm.findClass RX3 = some m.cls := hown
  have hl : lv_has ls 2 [(0, .ref aS), (1, .int i)] := hl
  have hv' := hv
  unfold MV at hv'
  have hd0 := dg_pos (tN Q P) (tN_pos hv) (tN_le hv)
  have hd1 := dg_le (tN Q P)
  have hn0 := tN_pos hv
  have hn1 := tN_le hv
  refine lv_iload_n hx hb dX3_own_0 rfl (lv_at hl 1 rfl) ?_
  refine lv_iconst (v := (-1)) hx hb dX3_own_1 (by decide) ?_
  refine lv_icmp_ne (tgt := 13) hx hb dX3_own_2 (by decide) (fun c_1 => ?_) (fun c_1 => ?_)
  · skip
    refine lv_iload_n hx hb dX3_own_13 rfl (lv_at hl 1 rfl) ?_
    refine lv_iconst (v := 0) hx hb dX3_own_14 (by decide) ?_
    refine lv_aload_n hx hb dX3_own_15 rfl (lv_at hl 0 rfl) ?_
    refine va_get (D := D) (ci := 3) (v := .ref aR) (C := RX3) (T := TX3) (N := 6) hx hb hts hi_X3_own_X3 hown hT.1 hP 0 rfl rfl 1 (by decide) (hts (.fieldLink RX3 19 "SlotStar" "root" "LSlotStar$Root;") (List.mem_of_getElem? (i := 1) rfl)) (fun _ h9 => h9) rfl dX3_own_16 ?_
    refine va_get (D := D) (ci := 2) (v := .int (nI (dgN (tN Q P)))) (C := RX2) (T := TX2) (N := 3) hx hb hts hi_X3_own_X2 hown hT.1 hP 1 rfl rfl 1 (by decide) (hts (.fieldLink RX3 115 "SlotStar$Root" "degree" "I") (List.mem_of_getElem? (i := 2) rfl)) (fun _ h9 => h9) rfl dX3_own_19 ?_
    refine ro_S (As := [.int i, .int 0, .int (nI (dgN (tN Q P)))]) (rest := []) ⟨hx, hb, hml, hown, hts⟩ hT hP (k_X3_isWithin l D cI cZ i 0 (nI (dgN (tN Q P)))) gX3_own_X3_isWithin rfl nd_X3_isWithin [] rfl hl.1 rfl rfl (Nat.le_of_ble_eq_true rfl) ⟨Nat.le_of_ble_eq_true rfl, Nat.le_of_ble_eq_true rfl⟩ ⟨rfl, rfl⟩ ⟨Nat.zero_le _, Nat.zero_le _⟩ dX3_own_22 ?_
    refine lv_if_ne (tgt := 31) hx hb dX3_own_25 (by decide) (fun c_2 => ?_) (fun c_2 => ?_)
    · skip
      obtain ⟨i2, hi2, rfl⟩ := jIn_nat 0 (dgN (tN Q P)) (by omega) c_2
      have hcl : cl (nI i2) = i2 := cl_nI (by omega)
      refine lv_aload_n hx hb dX3_own_31 rfl (lv_at hl 0 rfl) ?_
      refine va_get (D := D) (ci := 3) (v := .ref aR) (C := RX3) (T := TX3) (N := 6) hx hb hts hi_X3_own_X3 hown hT.1 hP 0 rfl rfl 1 (by decide) (hts (.fieldLink RX3 19 "SlotStar" "root" "LSlotStar$Root;") (List.mem_of_getElem? (i := 1) rfl)) (fun _ h9 => h9) rfl dX3_own_32 ?_
      refine va_get (D := D) (ci := 2) (v := .ref aN) (C := RX2) (T := TX2) (N := 3) hx hb hts hi_X3_own_X2 hown hT.1 hP 1 rfl rfl 0 (by decide) (hts (.fieldLink RX3 118 "SlotStar$Root" "numbers" "[I") (List.mem_of_getElem? (i := 3) rfl)) (fun _ h9 => h9) rfl dX3_own_35 ?_
      refine lv_iload_n hx hb dX3_own_38 rfl (lv_at hl 1 rfl) ?_
      refine ro_S (As := [.ref aN, .int (nI i2)]) (rest := []) ⟨hx, hb, hml, hown, hts⟩ hT hP (k_X3_at l D cI cZ aN 49 (cyR (tN Q P)) i2 (by decide) (by omega)) gX3_own_X3_at rfl nd_X3_at [2] rfl hl.1 rfl rfl (Nat.le_of_ble_eq_true rfl) ⟨Nat.le_of_ble_eq_true rfl, Nat.le_of_ble_eq_true rfl⟩ ⟨rfl, rfl⟩ ⟨Nat.zero_le _, Nat.zero_le _⟩ dX3_own_39 ?_
      exact ro_ret hx hb hr hlocks dX3_own_42 (by simp [sOwn, c_1, c_2, hcl])
    · skip
      refine lv_bipush (v := (-6)) hx hb dX3_own_28 (by decide) ?_
      exact ro_ret hx hb hr hlocks dX3_own_30 (by simp [sOwn, c_1, eq_true c_2])
  · skip
    refine lv_aload_n hx hb dX3_own_5 rfl (lv_at hl 0 rfl) ?_
    refine va_get (D := D) (ci := 3) (v := .ref aR) (C := RX3) (T := TX3) (N := 6) hx hb hts hi_X3_own_X3 hown hT.1 hP 0 rfl rfl 1 (by decide) (hts (.fieldLink RX3 19 "SlotStar" "root" "LSlotStar$Root;") (List.mem_of_getElem? (i := 1) rfl)) (fun _ h9 => h9) rfl dX3_own_6 ?_
    refine va_get (D := D) (ci := 2) (v := .int (nI (dgN (tN Q P)))) (C := RX2) (T := TX2) (N := 3) hx hb hts hi_X3_own_X2 hown hT.1 hP 1 rfl rfl 1 (by decide) (hts (.fieldLink RX3 115 "SlotStar$Root" "degree" "I") (List.mem_of_getElem? (i := 2) rfl)) (fun _ h9 => h9) rfl dX3_own_9 ?_
    exact ro_ret hx hb hr hlocks dX3_own_12 (by simp [sOwn, eq_true c_1])

set_option maxRecDepth 20000 in
theorem hi_X3_path_X1 : ∀ w ∈ wsX10, w ∈ wsX3_path := by
  intro w h
  unfold wsX3_path
  simp only [List.mem_cons, List.mem_append, h, or_true, true_or]
set_option maxRecDepth 20000 in
theorem hi_X3_path_X3 : ∀ w ∈ wsX30, w ∈ wsX3_path := by
  intro w h
  unfold wsX3_path
  simp only [List.mem_cons, List.mem_append, h, or_true, true_or]
theorem nd_X3_path : okName yX3_path 2 := by decide +kernel
set_option maxHeartbeats 4000000 in
set_option maxRecDepth 100000 in
theorem k_X3_path (l : Launch) (D : va_G) (cI cZ : ClassId) (aS : Nat) (aM : Nat) (aR : Nat) (aJ : Nat) (aF : Nat) (aG : Nat) (aI : Nat) (Q : Nat) (P : Nat) (M : Nat) (Wd : Nat) (k : Int32) (a : Int32) (hv : MV Q P M Wd) : RO l yX3_path wsX3_path ({ frames := 2, cells := 0, slots := 0, locals := 43 } : Room) D cI cZ [(aS, .inr (3, [.ref aM, .ref aR, .ref aJ, .ref aF, .ref aG, .ref aI])), (aM, .inr (1, [.int (nI Q), .int (nI P), .int (nI M), .int (nI Wd), .int (nI (tT Q P)), .int (nI (tN Q P))]))] [.ref aS, .int k, .int a] (sPath Q P k a) := by
  refine ro_start (by decide) rfl (Nat.le_of_ble_eq_true rfl) ?_
  intro p e s m args below meth c hx hb hr hml hlocks hts hown hT hP ls hl
  have hown : s.vm.findClass RX3 = some m.cls := hown
  have hl : lv_has ls 3 [(0, .ref aS), (1, .int k), (2, .int a)] := hl
  have hv' := hv
  unfold MV at hv'
  have ht1 := tT_le hv
  have hn0 := tN_pos hv
  refine lv_aload_n hx hb dX3_path_0 rfl (lv_at hl 0 rfl) ?_
  refine lv_iload_n hx hb dX3_path_1 rfl (lv_at hl 1 rfl) ?_
  refine ro_V (As := [.int k]) (rest := []) ⟨hx, hb, hml, hown, hts⟩ hT hP (k_X3_isSlot l D cI cZ aS aM aR aJ aF aG aI Q P M Wd k) gX3_path_X3_isSlot rfl rfl nd_X3_isSlot [0, 1] rfl (ci := 3) rfl rfl (q0 := 0) rfl hl.1 rfl rfl (Nat.le_of_ble_eq_true rfl) ⟨Nat.le_of_ble_eq_true rfl, Nat.le_of_ble_eq_true rfl⟩ ⟨rfl, rfl⟩ ⟨Nat.zero_le _, Nat.zero_le _⟩ dX3_path_2 ?_
  refine lv_if_ne (tgt := 10) hx hb dX3_path_5 (by decide) (fun c_1 => ?_) (fun c_1 => ?_)
  · skip
    obtain ⟨k2, hk2, rfl⟩ := jIn_sl (by omega) c_1
    have hcl : cl (nI k2) = k2 := cl_nI (by omega)
    have hkn : k2 / tN Q P ≤ k2 := Nat.div_le_self _ _
    refine lv_iload_n hx hb dX3_path_10 rfl (lv_at hl 2 rfl) ?_
    refine lv_iconst (v := 1) hx hb dX3_path_11 (by decide) ?_
    refine lv_bipush (v := 10) hx hb dX3_path_12 (by decide) ?_
    refine ro_S (As := [.int a, .int 1, .int 10]) (rest := []) ⟨hx, hb, hml, hown, hts⟩ hT hP (k_X3_isWithin l D cI cZ a 1 10) gX3_path_X3_isWithin rfl nd_X3_isWithin [] rfl hl.1 rfl rfl (Nat.le_of_ble_eq_true rfl) ⟨Nat.le_of_ble_eq_true rfl, Nat.le_of_ble_eq_true rfl⟩ ⟨rfl, rfl⟩ ⟨Nat.zero_le _, Nat.zero_le _⟩ dX3_path_14 ?_
    refine lv_if_ne (tgt := 23) hx hb dX3_path_17 (by decide) (fun c_2 => ?_) (fun c_2 => ?_)
    · skip
      obtain ⟨a2, ha2, rfl⟩ := jIn_nat 1 10 (by decide) c_2
      have hca : cl (nI a2) = a2 := cl_nI (by omega)
      refine lv_aload_n hx hb dX3_path_23 rfl (lv_at hl 0 rfl) ?_
      refine va_get (D := D) (ci := 3) (v := .ref aM) (C := RX3) (T := TX3) (N := 6) hx hb hts hi_X3_path_X3 hown hT.1 hP 0 rfl rfl 0 (by decide) (hts (.fieldLink RX3 10 "SlotStar" "star" "LSlotStar$Machine;") (List.mem_of_getElem? (i := 1) rfl)) (fun _ h9 => h9) rfl dX3_path_24 ?_
      refine va_get (D := D) (ci := 1) (v := .int (nI (tT Q P))) (C := RX1) (T := TX1) (N := 6) hx hb hts hi_X3_path_X1 hown hT.1 hP 1 rfl rfl 4 (by decide) (hts (.fieldLink RX3 163 "SlotStar$Machine" "copies" "I") (List.mem_of_getElem? (i := 2) rfl)) (fun _ h9 => h9) rfl dX3_path_27 ?_
      refine lv_iload_n hx hb dX3_path_30 rfl (lv_at hl 2 rfl) ?_
      refine ro_S (As := [.int (nI (tT Q P)), .int (nI a2)]) (rest := []) ⟨hx, hb, hml, hown, hts⟩ hT hP (k_X3_leftOver l D cI cZ (nI (tT Q P)) (nI a2)) gX3_path_X3_leftOver rfl nd_X3_leftOver [] rfl hl.1 rfl rfl (Nat.le_of_ble_eq_true rfl) ⟨Nat.le_of_ble_eq_true rfl, Nat.le_of_ble_eq_true rfl⟩ ⟨rfl, rfl⟩ ⟨Nat.zero_le _, Nat.zero_le _⟩ dX3_path_31 ?_
      refine lv_if_eq (tgt := 40) hx hb dX3_path_34 (by decide) (fun c_3 => ?_) (fun c_3 => ?_)
      · skip
        have hm : tT Q P % a2 = 0 := (nI_mod0 (by omega) (by omega) (by omega)).mp c_3
        refine lv_aload_n hx hb dX3_path_40 rfl (lv_at hl 0 rfl) ?_
        refine va_get (D := D) (ci := 3) (v := .ref aM) (C := RX3) (T := TX3) (N := 6) hx hb hts hi_X3_path_X3 hown hT.1 hP 0 rfl rfl 0 (by decide) (hts (.fieldLink RX3 10 "SlotStar" "star" "LSlotStar$Machine;") (List.mem_of_getElem? (i := 1) rfl)) (fun _ h9 => h9) rfl dX3_path_41 ?_
        refine lv_iload_n hx hb dX3_path_44 rfl (lv_at hl 1 rfl) ?_
        refine ro_V (As := [.int (nI k2)]) (rest := []) ⟨hx, hb, hml, hown, hts⟩ hT hP (k_X1_copyOf l D cI cZ aM Q P M Wd k2 hv (by omega)) gX3_path_X1_copyOf rfl rfl nd_X1_copyOf [1] rfl (ci := 1) rfl rfl (q0 := 1) rfl hl.1 rfl rfl (Nat.le_of_ble_eq_true rfl) ⟨Nat.le_of_ble_eq_true rfl, Nat.le_of_ble_eq_true rfl⟩ ⟨rfl, rfl⟩ ⟨Nat.zero_le _, Nat.zero_le _⟩ dX3_path_45 ?_
        refine lv_iload_n hx hb dX3_path_48 rfl (lv_at hl 2 rfl) ?_
        refine ro_S (As := [.int (nI (k2 / tN Q P)), .int (nI a2)]) (rest := []) ⟨hx, hb, hml, hown, hts⟩ hT hP (k_X3_leftOver l D cI cZ (nI (k2 / tN Q P)) (nI a2)) gX3_path_X3_leftOver rfl nd_X3_leftOver [] rfl hl.1 rfl rfl (Nat.le_of_ble_eq_true rfl) ⟨Nat.le_of_ble_eq_true rfl, Nat.le_of_ble_eq_true rfl⟩ ⟨rfl, rfl⟩ ⟨Nat.zero_le _, Nat.zero_le _⟩ dX3_path_49 ?_
        refine top_eq (z := (nI (k2 / tN Q P % a2))) (by exact jLO_nI (by omega) (by omega) (by omega)) ?_
        exact ro_ret hx hb hr hlocks dX3_path_52 (by first | simp [sPath, c_1, c_2, eq_true c_3, hcl, hca, hm] | simp [sPath, c_1, c_2, eq_true c_3, hcl] | simp [sPath, c_1, c_2, eq_true c_3])
      · skip
        have hm : ¬ tT Q P % a2 = 0 := fun q => c_3 ((nI_mod0 (by omega) (by omega) (by omega)).mpr q)
        refine lv_bipush (v := (-5)) hx hb dX3_path_37 (by decide) ?_
        exact ro_ret hx hb hr hlocks dX3_path_39 (by first | simp [sPath, c_1, c_2, c_3, hcl, hca, hm] | simp [sPath, c_1, c_2, c_3, hcl] | simp [sPath, c_1, c_2, c_3])
    · skip
      refine lv_bipush (v := (-2)) hx hb dX3_path_20 (by decide) ?_
      exact ro_ret hx hb hr hlocks dX3_path_22 (by first | simp [sPath, c_1, eq_true c_2, hcl, hca, hm] | simp [sPath, c_1, eq_true c_2, hcl] | simp [sPath, c_1, eq_true c_2])
  · skip
    refine lv_iconst (v := (-1)) hx hb dX3_path_8 (by decide) ?_
    exact ro_ret hx hb hr hlocks dX3_path_9 (by first | simp [sPath, eq_true c_1, hcl, hca, hm] | simp [sPath, eq_true c_1, hcl] | simp [sPath, eq_true c_1])

set_option maxRecDepth 20000 in
theorem hi_X3_told_X1 : ∀ w ∈ wsX10, w ∈ wsX3_told := by
  intro w h
  unfold wsX3_told
  simp only [List.mem_cons, List.mem_append, h, or_true, true_or]
set_option maxRecDepth 20000 in
theorem hi_X3_told_X3 : ∀ w ∈ wsX30, w ∈ wsX3_told := by
  intro w h
  unfold wsX3_told
  simp only [List.mem_cons, List.mem_append, h, or_true, true_or]
theorem nd_X3_told : okName yX3_told 1 := by decide +kernel
set_option maxHeartbeats 4000000 in
set_option maxRecDepth 100000 in
theorem k_X3_told (l : Launch) (D : va_G) (cI cZ : ClassId) (aS : Nat) (aM : Nat) (aR : Nat) (aJ : Nat) (aF : Nat) (aG : Nat) (aI : Nat) (Q : Nat) (P : Nat) (M : Nat) (Wd : Nat) (what : Int32) (hv : MV Q P M Wd) : RO l yX3_told wsX3_told ({ frames := 4, cells := 0, slots := 0, locals := 84 } : Room) D cI cZ [(aS, .inr (3, [.ref aM, .ref aR, .ref aJ, .ref aF, .ref aG, .ref aI])), (aM, .inr (1, [.int (nI Q), .int (nI P), .int (nI M), .int (nI Wd), .int (nI (tT Q P)), .int (nI (tN Q P))]))] [.ref aS, .int what] (sTold Q P M Wd what) := by
  refine ro_start (by decide) rfl (Nat.le_of_ble_eq_true rfl) ?_
  intro p e s m args below meth c hx hb hr hml hlocks hts hown hT hP ls hl
  have hown : s.vm.findClass RX3 = some m.cls := hown
  have hl : lv_has ls 2 [(0, .ref aS), (1, .int what)] := hl
  refine lv_iload_n hx hb dX3_told_0 rfl (lv_at hl 1 rfl) ?_
  by_cases w_1 : what = 0
  · refine lv_tableIn (off := 43) (tgt := 44) hx hb dX3_told_1 (by rw [w_1]; decide) (by rw [w_1]; decide) (by rw [w_1]; decide) (by decide) ?_
    refine lv_aload_n hx hb dX3_told_44 rfl (lv_at hl 0 rfl) ?_
    refine va_get (D := D) (ci := 3) (v := .ref aM) (C := RX3) (T := TX3) (N := 6) hx hb hts hi_X3_told_X3 hown hT.1 hP 0 rfl rfl 0 (by decide) (hts (.fieldLink RX3 10 "SlotStar" "star" "LSlotStar$Machine;") (List.mem_of_getElem? (i := 1) rfl)) (fun _ h9 => h9) rfl dX3_told_45 ?_
    refine va_get (D := D) (ci := 1) (v := .int (nI Q)) (C := RX1) (T := TX1) (N := 6) hx hb hts hi_X3_told_X1 hown hT.1 hP 1 rfl rfl 0 (by decide) (hts (.fieldLink RX3 56 "SlotStar$Machine" "slots" "I") (List.mem_of_getElem? (i := 2) rfl)) (fun _ h9 => h9) rfl dX3_told_48 ?_
    exact ro_ret hx hb hr hlocks dX3_told_51 (by first | simp [sTold, eq_true w_1, hf1] | simp [sTold, eq_true w_1])
  by_cases w_2 : what = 1
  · refine lv_tableIn (off := 51) (tgt := 52) hx hb dX3_told_1 (by rw [w_2]; decide) (by rw [w_2]; decide) (by rw [w_2]; decide) (by decide) ?_
    refine lv_aload_n hx hb dX3_told_52 rfl (lv_at hl 0 rfl) ?_
    refine va_get (D := D) (ci := 3) (v := .ref aM) (C := RX3) (T := TX3) (N := 6) hx hb hts hi_X3_told_X3 hown hT.1 hP 0 rfl rfl 0 (by decide) (hts (.fieldLink RX3 10 "SlotStar" "star" "LSlotStar$Machine;") (List.mem_of_getElem? (i := 1) rfl)) (fun _ h9 => h9) rfl dX3_told_53 ?_
    refine va_get (D := D) (ci := 1) (v := .int (nI P)) (C := RX1) (T := TX1) (N := 6) hx hb hts hi_X3_told_X1 hown hT.1 hP 1 rfl rfl 1 (by decide) (hts (.fieldLink RX3 103 "SlotStar$Machine" "pairs" "I") (List.mem_of_getElem? (i := 3) rfl)) (fun _ h9 => h9) rfl dX3_told_56 ?_
    exact ro_ret hx hb hr hlocks dX3_told_59 (by first | simp [sTold, w_1, eq_true w_2, hf1] | simp [sTold, w_1, eq_true w_2])
  by_cases w_3 : what = 2
  · refine lv_tableIn (off := 59) (tgt := 60) hx hb dX3_told_1 (by rw [w_3]; decide) (by rw [w_3]; decide) (by rw [w_3]; decide) (by decide) ?_
    refine lv_aload_n hx hb dX3_told_60 rfl (lv_at hl 0 rfl) ?_
    refine va_get (D := D) (ci := 3) (v := .ref aM) (C := RX3) (T := TX3) (N := 6) hx hb hts hi_X3_told_X3 hown hT.1 hP 0 rfl rfl 0 (by decide) (hts (.fieldLink RX3 10 "SlotStar" "star" "LSlotStar$Machine;") (List.mem_of_getElem? (i := 1) rfl)) (fun _ h9 => h9) rfl dX3_told_61 ?_
    refine va_get (D := D) (ci := 1) (v := .int (nI M)) (C := RX1) (T := TX1) (N := 6) hx hb hts hi_X3_told_X1 hown hT.1 hP 1 rfl rfl 2 (by decide) (hts (.fieldLink RX3 106 "SlotStar$Machine" "phases" "I") (List.mem_of_getElem? (i := 4) rfl)) (fun _ h9 => h9) rfl dX3_told_64 ?_
    exact ro_ret hx hb hr hlocks dX3_told_67 (by first | simp [sTold, w_1, w_2, eq_true w_3, hf1] | simp [sTold, w_1, w_2, eq_true w_3])
  by_cases w_4 : what = 3
  · refine lv_tableIn (off := 67) (tgt := 68) hx hb dX3_told_1 (by rw [w_4]; decide) (by rw [w_4]; decide) (by rw [w_4]; decide) (by decide) ?_
    refine lv_aload_n hx hb dX3_told_68 rfl (lv_at hl 0 rfl) ?_
    refine va_get (D := D) (ci := 3) (v := .ref aM) (C := RX3) (T := TX3) (N := 6) hx hb hts hi_X3_told_X3 hown hT.1 hP 0 rfl rfl 0 (by decide) (hts (.fieldLink RX3 10 "SlotStar" "star" "LSlotStar$Machine;") (List.mem_of_getElem? (i := 1) rfl)) (fun _ h9 => h9) rfl dX3_told_69 ?_
    refine va_get (D := D) (ci := 1) (v := .int (nI Wd)) (C := RX1) (T := TX1) (N := 6) hx hb hts hi_X3_told_X1 hown hT.1 hP 1 rfl rfl 3 (by decide) (hts (.fieldLink RX3 59 "SlotStar$Machine" "width" "I") (List.mem_of_getElem? (i := 5) rfl)) (fun _ h9 => h9) rfl dX3_told_72 ?_
    exact ro_ret hx hb hr hlocks dX3_told_75 (by first | simp [sTold, w_1, w_2, w_3, eq_true w_4, hf1] | simp [sTold, w_1, w_2, w_3, eq_true w_4])
  by_cases w_5 : what = 4
  · refine lv_tableIn (off := 75) (tgt := 76) hx hb dX3_told_1 (by rw [w_5]; decide) (by rw [w_5]; decide) (by rw [w_5]; decide) (by decide) ?_
    refine lv_aload_n hx hb dX3_told_76 rfl (lv_at hl 0 rfl) ?_
    refine va_get (D := D) (ci := 3) (v := .ref aM) (C := RX3) (T := TX3) (N := 6) hx hb hts hi_X3_told_X3 hown hT.1 hP 0 rfl rfl 0 (by decide) (hts (.fieldLink RX3 10 "SlotStar" "star" "LSlotStar$Machine;") (List.mem_of_getElem? (i := 1) rfl)) (fun _ h9 => h9) rfl dX3_told_77 ?_
    refine va_get (D := D) (ci := 1) (v := .int (nI (tT Q P))) (C := RX1) (T := TX1) (N := 6) hx hb hts hi_X3_told_X1 hown hT.1 hP 1 rfl rfl 4 (by decide) (hts (.fieldLink RX3 163 "SlotStar$Machine" "copies" "I") (List.mem_of_getElem? (i := 6) rfl)) (fun _ h9 => h9) rfl dX3_told_80 ?_
    exact ro_ret hx hb hr hlocks dX3_told_83 (by first | simp [sTold, w_1, w_2, w_3, w_4, eq_true w_5, hf1] | simp [sTold, w_1, w_2, w_3, w_4, eq_true w_5])
  by_cases w_6 : what = 5
  · refine lv_tableIn (off := 83) (tgt := 84) hx hb dX3_told_1 (by rw [w_6]; decide) (by rw [w_6]; decide) (by rw [w_6]; decide) (by decide) ?_
    refine lv_aload_n hx hb dX3_told_84 rfl (lv_at hl 0 rfl) ?_
    refine va_get (D := D) (ci := 3) (v := .ref aM) (C := RX3) (T := TX3) (N := 6) hx hb hts hi_X3_told_X3 hown hT.1 hP 0 rfl rfl 0 (by decide) (hts (.fieldLink RX3 10 "SlotStar" "star" "LSlotStar$Machine;") (List.mem_of_getElem? (i := 1) rfl)) (fun _ h9 => h9) rfl dX3_told_85 ?_
    refine va_get (D := D) (ci := 1) (v := .int (nI (tN Q P))) (C := RX1) (T := TX1) (N := 6) hx hb hts hi_X3_told_X1 hown hT.1 hP 1 rfl rfl 5 (by decide) (hts (.fieldLink RX3 52 "SlotStar$Machine" "turns" "I") (List.mem_of_getElem? (i := 7) rfl)) (fun _ h9 => h9) rfl dX3_told_88 ?_
    exact ro_ret hx hb hr hlocks dX3_told_91 (by first | simp [sTold, w_1, w_2, w_3, w_4, w_5, eq_true w_6, hf1] | simp [sTold, w_1, w_2, w_3, w_4, w_5, eq_true w_6])
  by_cases w_7 : what = 6
  · refine lv_tableIn (off := 91) (tgt := 92) hx hb dX3_told_1 (by rw [w_7]; decide) (by rw [w_7]; decide) (by rw [w_7]; decide) (by decide) ?_
    refine lv_aload_n hx hb dX3_told_92 rfl (lv_at hl 0 rfl) ?_
    refine va_get (D := D) (ci := 3) (v := .ref aM) (C := RX3) (T := TX3) (N := 6) hx hb hts hi_X3_told_X3 hown hT.1 hP 0 rfl rfl 0 (by decide) (hts (.fieldLink RX3 10 "SlotStar" "star" "LSlotStar$Machine;") (List.mem_of_getElem? (i := 1) rfl)) (fun _ h9 => h9) rfl dX3_told_93 ?_
    refine ro_V (As := []) (rest := []) ⟨hx, hb, hml, hown, hts⟩ hT hP (k_X1_isBalanced l D cI cZ aM Q P M Wd hv) gX3_told_X1_isBalanced rfl rfl nd_X1_isBalanced [1] rfl (ci := 1) rfl rfl (q0 := 1) rfl hl.1 rfl rfl (Nat.le_of_ble_eq_true rfl) ⟨Nat.le_of_ble_eq_true rfl, Nat.le_of_ble_eq_true rfl⟩ ⟨rfl, rfl⟩ ⟨Nat.zero_le _, Nat.zero_le _⟩ dX3_told_96 ?_
    refine lv_if_eq (tgt := 106) hx hb dX3_told_99 (by decide) (fun c_8 => ?_) (fun c_8 => ?_)
    · skip
      have hf1 := c_8
      refine lv_iconst (v := 0) hx hb dX3_told_106 (by decide) ?_
      exact ro_ret hx hb hr hlocks dX3_told_107 (by first | simp [sTold, w_1, w_2, w_3, w_4, w_5, w_6, eq_true w_7, eq_true c_8, hf1] | simp [sTold, w_1, w_2, w_3, w_4, w_5, w_6, eq_true w_7, eq_true c_8])
    · skip
      have hf1 : bal Q P M = 1 := (bal01 _ _ _).resolve_left c_8
      refine lv_iconst (v := 1) hx hb dX3_told_102 (by decide) ?_
      refine lv_goto (tgt := 107) hx hb dX3_told_103 (by decide) ?_
      exact ro_ret hx hb hr hlocks dX3_told_107 (by first | simp [sTold, w_1, w_2, w_3, w_4, w_5, w_6, eq_true w_7, c_8, hf1] | simp [sTold, w_1, w_2, w_3, w_4, w_5, w_6, eq_true w_7, c_8])
  refine lv_tableOut (tgt := 108) hx hb dX3_told_1 (sw_out7 w_1 w_2 w_3 w_4 w_5 w_6 w_7) (by decide) ?_
  refine lv_bipush (v := (-2)) hx hb dX3_told_108 (by decide) ?_
  exact ro_ret hx hb hr hlocks dX3_told_110 (by first | simp [sTold, w_1, w_2, w_3, w_4, w_5, w_6, w_7, hf1] | simp [sTold, w_1, w_2, w_3, w_4, w_5, w_6, w_7])

set_option maxRecDepth 20000 in
theorem hi_X3_addPower_X1 : ∀ w ∈ wsX10, w ∈ wsX3_addPower := by
  intro w h
  unfold wsX3_addPower
  simp only [List.mem_cons, List.mem_append, h, or_true, true_or]
set_option maxRecDepth 20000 in
theorem hi_X3_addPower_X3 : ∀ w ∈ wsX30, w ∈ wsX3_addPower := by
  intro w h
  unfold wsX3_addPower
  simp only [List.mem_cons, List.mem_append, h, or_true, true_or]
theorem nd_X3_addPower : okName yX3_addPower 3 := by decide +kernel
set_option maxHeartbeats 4000000 in
set_option maxRecDepth 100000 in
theorem k_X3_addPower (l : Launch) (D : va_G) (cI cZ : ClassId) (aS : Nat) (aM : Nat) (aR : Nat) (aJ : Nat) (aF : Nat) (aG : Nat) (aI : Nat) (Q : Nat) (P : Nat) (M : Nat) (Wd : Nat) (aX : Nat) (fX : Nat → Int32) (pq : Nat) (x : Int32) (hv : MV Q P M Wd) (hp : pq < 1000000) : MU l yX3_addPower wsX3_addPower ({ frames := 2, cells := 0, slots := 0, locals := 44 } : Room) D cI cZ [(aS, .inr (3, [.ref aM, .ref aR, .ref aJ, .ref aF, .ref aG, .ref aI])), (aM, .inr (1, [.int (nI Q), .int (nI P), .int (nI M), .int (nI Wd), .int (nI (tT Q P)), .int (nI (tN Q P))])), (aX, .inl (cI, 48, .inl fX))] [.ref aS, .ref aX, .int (nI pq), .int x] none [(aS, .inr (3, [.ref aM, .ref aR, .ref aJ, .ref aF, .ref aG, .ref aI])), (aM, .inr (1, [.int (nI Q), .int (nI P), .int (nI M), .int (nI Wd), .int (nI (tT Q P)), .int (nI (tN Q P))])), (aX, .inl (cI, 48, .inl (ap (tN Q P) pq x fX)))] := by
  refine mu_start (by decide) rfl (Nat.le_of_ble_eq_true rfl) ?_
  intro p e s m args below meth c hx hb hr hml hlocks hts hown hT hP hD hS ls hl
  have hown : s.vm.findClass RX3 = some m.cls := hown
  have hl : lv_has ls 5 [(0, .ref aS), (1, .ref aX), (2, .int (nI pq)), (3, .int x)] := hl
  have hv' := hv
  unfold MV at hv'
  have hn0 := tN_pos hv
  have hn1 := tN_le hv
  have hlt : pq % tN Q P < 48 := Nat.lt_of_lt_of_le (Nat.mod_lt _ hn0) hn1
  refine lv_iload_n hx hb dX3_addPower_0 rfl (lv_at hl 2 rfl) ?_
  refine lv_aload_n hx hb dX3_addPower_1 rfl (lv_at hl 0 rfl) ?_
  refine va_get (D := D) (ci := 3) (v := .ref aM) (C := RX3) (T := TX3) (N := 6) hx hb hts hi_X3_addPower_X3 hown hT.1 hP 0 rfl rfl 0 (by decide) (hts (.fieldLink RX3 10 "SlotStar" "star" "LSlotStar$Machine;") (List.mem_of_getElem? (i := 1) rfl)) (fun _ h9 => h9) rfl dX3_addPower_2 ?_
  refine va_get (D := D) (ci := 1) (v := .int (nI (tN Q P))) (C := RX1) (T := TX1) (N := 6) hx hb hts hi_X3_addPower_X1 hown hT.1 hP 1 rfl rfl 5 (by decide) (hts (.fieldLink RX3 52 "SlotStar$Machine" "turns" "I") (List.mem_of_getElem? (i := 2) rfl)) (fun _ h9 => h9) rfl dX3_addPower_5 ?_
  refine ro_S (As := [.int (nI pq), .int (nI (tN Q P))]) (rest := []) ⟨hx, hb, hml, hown, hts⟩ hT hP (k_X3_leftOver l D cI cZ (nI pq) (nI (tN Q P))) gX3_addPower_X3_leftOver rfl nd_X3_leftOver [] rfl hl.1 rfl rfl (Nat.le_of_ble_eq_true rfl) ⟨Nat.le_of_ble_eq_true rfl, Nat.le_of_ble_eq_true rfl⟩ ⟨rfl, rfl⟩ ⟨Nat.zero_le _, Nat.zero_le _⟩ dX3_addPower_8 ?_
  refine top_eq (z := (nI (pq % tN Q P))) (by exact jLO_nI (by omega) (by omega) (by omega)) ?_
  refine lv_istore (lv' := [(4, .int (nI (pq % tN Q P))), (0, .ref aS), (1, .ref aX), (2, .int (nI pq)), (3, .int x)]) hx hb dX3_addPower_11 hl (by decide) rfl (fun ls hl => ?_)
  refine lv_aload_n hx hb dX3_addPower_13 rfl (lv_at hl 2 rfl) ?_
  refine lv_iload hx hb dX3_addPower_14 (lv_at hl 0 rfl) ?_
  refine lv_aload_n hx hb dX3_addPower_16 rfl (lv_at hl 2 rfl) ?_
  refine lv_iload hx hb dX3_addPower_17 (lv_at hl 0 rfl) ?_
  refine ro_S (As := [.ref aX, .int (nI (pq % tN Q P))]) (rest := [.int (nI (pq % tN Q P)), .ref aX]) ⟨hx, hb, hml, hown, hts⟩ hT hP (k_X3_at l D cI cZ aX 48 fX (pq % tN Q P) (by decide) (by omega)) gX3_addPower_X3_at rfl nd_X3_at [2] rfl hl.1 rfl rfl (Nat.le_of_ble_eq_true rfl) ⟨Nat.le_of_ble_eq_true rfl, Nat.le_of_ble_eq_true rfl⟩ ⟨rfl, rfl⟩ ⟨Nat.zero_le _, Nat.zero_le _⟩ dX3_addPower_19 ?_
  refine lv_iload_n hx hb dX3_addPower_22 rfl (lv_at hl 4 rfl) ?_
  refine lv_iadd hx hb dX3_addPower_23 ?_
  refine mu_S (As := [.ref aX, .int (nI (pq % tN Q P)), .int ((fX (pq % tN Q P)) + x)]) (rest := []) (W1 := [(aS, .inr (3, [.ref aM, .ref aR, .ref aJ, .ref aF, .ref aG, .ref aI])), (aM, .inr (1, [.int (nI Q), .int (nI P), .int (nI M), .int (nI Wd), .int (nI (tT Q P)), .int (nI (tN Q P))])), (aX, .inl (cI, 48, .inl (upd fX (pq % tN Q P) ((fX (pq % tN Q P)) + x))))]) (st1 := []) ⟨hx, hb, hml, hown, hts⟩ hT hP hD hS (k_X3_put l D cI cZ aX 48 fX (pq % tN Q P) ((fX (pq % tN Q P)) + x) (by decide) (by omega)) gX3_addPower_X3_put rfl nd_X3_put [2] (by decide) rfl rfl rfl rfl hl.1 rfl rfl (Nat.le_of_ble_eq_true rfl) ⟨Nat.le_of_ble_eq_true rfl, Nat.le_of_ble_eq_true rfl⟩ ⟨rfl, rfl⟩ ⟨Nat.zero_le _, Nat.zero_le _⟩ dX3_addPower_24 (fun H locs hP hD hS => ?_)
  exact mu_retv hx hb hr hlocks dX3_addPower_27 (hP) hS

set_option maxRecDepth 20000 in
theorem hi_X3_addUp_X1 : ∀ w ∈ wsX10, w ∈ wsX3_addUp := by
  intro w h
  unfold wsX3_addUp
  simp only [List.mem_cons, List.mem_append, h, or_true, true_or]
set_option maxRecDepth 20000 in
theorem hi_X3_addUp_X3 : ∀ w ∈ wsX30, w ∈ wsX3_addUp := by
  intro w h
  unfold wsX3_addUp
  simp only [List.mem_cons, List.mem_append, h, or_true, true_or]
theorem nd_X3_addUp : okName yX3_addUp 4 := by decide +kernel
set_option maxHeartbeats 4000000 in
set_option maxRecDepth 100000 in
theorem k_X3_addUp (l : Launch) (D : va_G) (cI cZ : ClassId) (aS : Nat) (aM : Nat) (aR : Nat) (aJ : Nat) (aF : Nat) (aG : Nat) (aI : Nat) (Q : Nat) (P : Nat) (M : Nat) (Wd : Nat) (aN : Nat) (aX : Nat) (fX : Nat → Int32) (a : Int32) (h : Nat) (w : Nat) (hv : MV Q P M Wd) (hh : h < 1000) (hw : w < 1000) : MU l yX3_addUp wsX3_addUp ({ frames := 4, cells := 0, slots := 0, locals := 86 } : Room) D cI cZ [(aS, .inr (3, [.ref aM, .ref aR, .ref aJ, .ref aF, .ref aG, .ref aI])), (aM, .inr (1, [.int (nI Q), .int (nI P), .int (nI M), .int (nI Wd), .int (nI (tT Q P)), .int (nI (tN Q P))])), (aR, .inr (2, [.ref aN, .int (nI (dgN (tN Q P))), .int (nI (tN Q P))])), (aN, .inl (cI, 49, .inl (cyR (tN Q P)))), (aX, .inl (cI, 48, .inl fX))] [.ref aS, .ref aX, .int a, .int (nI h), .int (nI w)] none [(aS, .inr (3, [.ref aM, .ref aR, .ref aJ, .ref aF, .ref aG, .ref aI])), (aM, .inr (1, [.int (nI Q), .int (nI P), .int (nI M), .int (nI Wd), .int (nI (tT Q P)), .int (nI (tN Q P))])), (aR, .inr (2, [.ref aN, .int (nI (dgN (tN Q P))), .int (nI (tN Q P))])), (aN, .inl (cI, 49, .inl (cyR (tN Q P)))), (aX, .inl (cI, 48, .inl (adR Q P M a h w)))] := by
  refine mu_start (by decide) rfl (Nat.le_of_ble_eq_true rfl) ?_
  intro p e s m args below meth c hx hb hr hml hlocks hts hown hT hP hD hS ls hl
  have hown : s.vm.findClass RX3 = some m.cls := hown
  have hl : lv_has ls 7 [(0, .ref aS), (1, .ref aX), (2, .int a), (3, .int (nI h)), (4, .int (nI w))] := hl
  have hv' := hv
  unfold MV at hv'
  have hd0 := dg_pos (tN Q P) (tN_pos hv) (tN_le hv)
  have hd1 := dg_le (tN Q P)
  have hn0 := tN_pos hv
  have hn1 := tN_le hv
  refine lv_aload_n hx hb dX3_addUp_0 rfl (lv_at hl 1 rfl) ?_
  refine lv_iconst (v := 0) hx hb dX3_addUp_1 (by decide) ?_
  refine mu_S (As := [.ref aX, .int 0]) (rest := []) (W1 := [(aS, .inr (3, [.ref aM, .ref aR, .ref aJ, .ref aF, .ref aG, .ref aI])), (aM, .inr (1, [.int (nI Q), .int (nI P), .int (nI M), .int (nI Wd), .int (nI (tT Q P)), .int (nI (tN Q P))])), (aR, .inr (2, [.ref aN, .int (nI (dgN (tN Q P))), .int (nI (tN Q P))])), (aN, .inl (cI, 49, .inl (cyR (tN Q P)))), (aX, .inl (cI, 48, .inl (fun _ => 0)))]) (st1 := []) ⟨hx, hb, hml, hown, hts⟩ hT hP hD hS (k_J7_fill_53178 l D cI cZ aX 48 fX 0 (by decide)) gX3_addUp_J7_fill_53178 rfl nd_J7_fill_53178 [4] (by decide) rfl rfl rfl rfl hl.1 rfl rfl (Nat.le_of_ble_eq_true rfl) ⟨Nat.le_of_ble_eq_true rfl, Nat.le_of_ble_eq_true rfl⟩ ⟨rfl, rfl⟩ ⟨Nat.zero_le _, Nat.zero_le _⟩ dX3_addUp_2 (fun H locs hP hD hS => ?_)
  refine lv_iconst (v := 0) hx hb dX3_addUp_5 (by decide) ?_
  refine lv_istore (lv' := [(5, .int 0), (0, .ref aS), (1, .ref aX), (2, .int a), (3, .int (nI h)), (4, .int (nI w))]) hx hb dX3_addUp_6 hl (by decide) rfl (fun ls hl => ?_)
  have L_8 : ∀ (f : Nat) (i : Nat) (v : Nat → Int32), i + f = tN Q P → adL Q P M a h w (tN Q P) 0 (fun _ => 0) = adL Q P M a h w f i v → ∀ (H : Heap) (locs : List Loc), va_P D cls5 [(aS, .inr (3, [.ref aM, .ref aR, .ref aJ, .ref aF, .ref aG, .ref aI])), (aM, .inr (1, [.int (nI Q), .int (nI P), .int (nI M), .int (nI Wd), .int (nI (tT Q P)), .int (nI (tN Q P))])), (aR, .inr (2, [.ref aN, .int (nI (dgN (tN Q P))), .int (nI (tN Q P))])), (aN, .inl (cI, 49, .inl (cyR (tN Q P)))), (aX, .inl (cI, 48, .inl v))] H → va_D (va_M [(aS, .inr (3, [.ref aM, .ref aR, .ref aJ, .ref aF, .ref aG, .ref aI])), (aM, .inr (1, [.int (nI Q), .int (nI P), .int (nI M), .int (nI Wd), .int (nI (tT Q P)), .int (nI (tN Q P))])), (aR, .inr (2, [.ref aN, .int (nI (dgN (tN Q P))), .int (nI (tN Q P))])), (aN, .inl (cI, 49, .inl (cyR (tN Q P)))), (aX, .inl (cI, 48, .inl fX))]) [(aS, .inr (3, [.ref aM, .ref aR, .ref aJ, .ref aF, .ref aG, .ref aI])), (aM, .inr (1, [.int (nI Q), .int (nI P), .int (nI M), .int (nI Wd), .int (nI (tT Q P)), .int (nI (tN Q P))])), (aR, .inr (2, [.ref aN, .int (nI (dgN (tN Q P))), .int (nI (tN Q P))])), (aN, .inl (cI, 49, .inl (cyR (tN Q P)))), (aX, .inl (cI, 48, .inl v))] → va_S (va_M [(aS, .inr (3, [.ref aM, .ref aR, .ref aJ, .ref aF, .ref aG, .ref aI])), (aM, .inr (1, [.int (nI Q), .int (nI P), .int (nI M), .int (nI Wd), .int (nI (tT Q P)), .int (nI (tN Q P))])), (aR, .inr (2, [.ref aN, .int (nI (dgN (tN Q P))), .int (nI (tN Q P))])), (aN, .inl (cI, 49, .inl (cyR (tN Q P)))), (aX, .inl (cI, 48, .inl fX))]) s.heap H locs → ∀ ls : Array Slot, lv_has ls 7 [(0, .ref aS), (1, .ref aX), (2, .int a), (3, .int (nI h)), (4, .int (nI w)), (5, .int (nI i))] → W p l e (headSpec wsX3_addUp ({ frames := 4, cells := 0, slots := 0, locals := 86 } : Room)).room s m args below meth c H locs 0 0 (MQ below (QcM D [(aS, .inr (3, [.ref aM, .ref aR, .ref aJ, .ref aF, .ref aG, .ref aI])), (aM, .inr (1, [.int (nI Q), .int (nI P), .int (nI M), .int (nI Wd), .int (nI (tT Q P)), .int (nI (tN Q P))])), (aR, .inr (2, [.ref aN, .int (nI (dgN (tN Q P))), .int (nI (tN Q P))])), (aN, .inl (cI, 49, .inl (cyR (tN Q P)))), (aX, .inl (cI, 48, .inl fX))] [(aS, .inr (3, [.ref aM, .ref aR, .ref aJ, .ref aF, .ref aG, .ref aI])), (aM, .inr (1, [.int (nI Q), .int (nI P), .int (nI M), .int (nI Wd), .int (nI (tT Q P)), .int (nI (tN Q P))])), (aR, .inr (2, [.ref aN, .int (nI (dgN (tN Q P))), .int (nI (tN Q P))])), (aN, .inl (cI, 49, .inl (cyR (tN Q P)))), (aX, .inl (cI, 48, .inl (adR Q P M a h w)))] none) args s 0 0 (va_M [(aS, .inr (3, [.ref aM, .ref aR, .ref aJ, .ref aF, .ref aG, .ref aI])), (aM, .inr (1, [.int (nI Q), .int (nI P), .int (nI M), .int (nI Wd), .int (nI (tT Q P)), .int (nI (tN Q P))])), (aR, .inr (2, [.ref aN, .int (nI (dgN (tN Q P))), .int (nI (tN Q P))])), (aN, .inl (cI, 49, .inl (cyR (tN Q P)))), (aX, .inl (cI, 48, .inl fX))])) (F0 m 8 ls []) := by
    intro f
    induction f with
    | zero =>
      intro i v h1 h2 H locs hP hD hS ls hl
      refine lv_iload hx hb dX3_addUp_8 (lv_at hl 5 rfl) ?_
      refine lv_aload_n hx hb dX3_addUp_10 rfl (lv_at hl 0 rfl) ?_
      refine va_get (D := D) (ci := 3) (v := .ref aM) (C := RX3) (T := TX3) (N := 6) hx hb hts hi_X3_addUp_X3 hown hT.1 hP 0 rfl rfl 0 (by decide) (hts (.fieldLink RX3 10 "SlotStar" "star" "LSlotStar$Machine;") (List.mem_of_getElem? (i := 1) rfl)) (fun _ h9 => h9) rfl dX3_addUp_11 ?_
      refine va_get (D := D) (ci := 1) (v := .int (nI (tN Q P))) (C := RX1) (T := TX1) (N := 6) hx hb hts hi_X3_addUp_X1 hown hT.1 hP 1 rfl rfl 5 (by decide) (hts (.fieldLink RX3 52 "SlotStar$Machine" "turns" "I") (List.mem_of_getElem? (i := 2) rfl)) (fun _ h9 => h9) rfl dX3_addUp_14 ?_
      refine lv_icmp_ge (tgt := 104) hx hb dX3_addUp_17 (by decide) (fun c_1 => ?_) (fun c_1 => ?_)
      · skip
        refine lv_aload_n hx hb dX3_addUp_104 rfl (lv_at hl 0 rfl) ?_
        refine va_get (D := D) (ci := 3) (v := .ref aR) (C := RX3) (T := TX3) (N := 6) hx hb hts hi_X3_addUp_X3 hown hT.1 hP 0 rfl rfl 1 (by decide) (hts (.fieldLink RX3 19 "SlotStar" "root" "LSlotStar$Root;") (List.mem_of_getElem? (i := 3) rfl)) (fun _ h9 => h9) rfl dX3_addUp_105 ?_
        refine lv_aload_n hx hb dX3_addUp_108 rfl (lv_at hl 1 rfl) ?_
        refine mu_V (As := [.ref aX]) (rest := []) (W1 := [(aS, .inr (3, [.ref aM, .ref aR, .ref aJ, .ref aF, .ref aG, .ref aI])), (aM, .inr (1, [.int (nI Q), .int (nI P), .int (nI M), .int (nI Wd), .int (nI (tT Q P)), .int (nI (tN Q P))])), (aR, .inr (2, [.ref aN, .int (nI (dgN (tN Q P))), .int (nI (tN Q P))])), (aN, .inl (cI, 49, .inl (cyR (tN Q P)))), (aX, .inl (cI, 48, .inl (rdO (cyR (tN Q P)) (dgN (tN Q P)) ((tN Q P) - (dgN (tN Q P))) ((tN Q P) - 1) v)))]) (st1 := []) ⟨hx, hb, hml, hown, hts⟩ hT hP hD hS (k_X2_reduce l D cI cZ aR aN (dgN (tN Q P)) (tN Q P) (cyR (tN Q P)) aX v hd0 hd1 hn1) gX3_addUp_X2_reduce rfl rfl nd_X2_reduce [2, 3, 4] (by decide) rfl rfl rfl rfl (ci := 2) rfl rfl (q0 := 2) rfl hl.1 rfl rfl (Nat.le_of_ble_eq_true rfl) ⟨Nat.le_of_ble_eq_true rfl, Nat.le_of_ble_eq_true rfl⟩ ⟨rfl, rfl⟩ ⟨Nat.zero_le _, Nat.zero_le _⟩ dX3_addUp_109 (fun H locs hP hD hS => ?_)
        exact mu_retv hx hb hr hlocks dX3_addUp_112 (by unfold adR; rw [h2]; exact hP) hS
      · exfalso; exact c_1 (nI_le (by omega) (by omega))
    | succ f ih_8 =>
      intro i v h1 h2 H locs hP hD hS ls hl
      refine lv_iload hx hb dX3_addUp_8 (lv_at hl 5 rfl) ?_
      refine lv_aload_n hx hb dX3_addUp_10 rfl (lv_at hl 0 rfl) ?_
      refine va_get (D := D) (ci := 3) (v := .ref aM) (C := RX3) (T := TX3) (N := 6) hx hb hts hi_X3_addUp_X3 hown hT.1 hP 0 rfl rfl 0 (by decide) (hts (.fieldLink RX3 10 "SlotStar" "star" "LSlotStar$Machine;") (List.mem_of_getElem? (i := 1) rfl)) (fun _ h9 => h9) rfl dX3_addUp_11 ?_
      refine va_get (D := D) (ci := 1) (v := .int (nI (tN Q P))) (C := RX1) (T := TX1) (N := 6) hx hb hts hi_X3_addUp_X1 hown hT.1 hP 1 rfl rfl 5 (by decide) (hts (.fieldLink RX3 52 "SlotStar$Machine" "turns" "I") (List.mem_of_getElem? (i := 2) rfl)) (fun _ h9 => h9) rfl dX3_addUp_14 ?_
      refine lv_icmp_ge (tgt := 104) hx hb dX3_addUp_17 (by decide) (fun c_2 => ?_) (fun c_2 => ?_)
      · exfalso; exact nI_ge (show i < tN Q P by omega) (by omega) c_2
      · skip
        refine lv_aload_n hx hb dX3_addUp_20 rfl (lv_at hl 0 rfl) ?_
        refine va_get (D := D) (ci := 3) (v := .ref aM) (C := RX3) (T := TX3) (N := 6) hx hb hts hi_X3_addUp_X3 hown hT.1 hP 0 rfl rfl 0 (by decide) (hts (.fieldLink RX3 10 "SlotStar" "star" "LSlotStar$Machine;") (List.mem_of_getElem? (i := 1) rfl)) (fun _ h9 => h9) rfl dX3_addUp_21 ?_
        refine lv_iload hx hb dX3_addUp_24 (lv_at hl 5 rfl) ?_
        refine ro_V (As := [.int (nI i)]) (rest := []) ⟨hx, hb, hml, hown, hts⟩ hT hP (k_X1_phaseOf l D cI cZ aM Q P M Wd i hv (by omega)) gX3_addUp_X1_phaseOf rfl rfl nd_X1_phaseOf [1] rfl (ci := 1) rfl rfl (q0 := 1) rfl hl.1 rfl rfl (Nat.le_of_ble_eq_true rfl) ⟨Nat.le_of_ble_eq_true rfl, Nat.le_of_ble_eq_true rfl⟩ ⟨rfl, rfl⟩ ⟨Nat.zero_le _, Nat.zero_le _⟩ dX3_addUp_26 ?_
        refine lv_iload_n hx hb dX3_addUp_29 rfl (lv_at hl 2 rfl) ?_
        refine lv_icmp_ne (tgt := 98) hx hb dX3_addUp_30 (by decide) (fun c_3 => ?_) (fun c_3 => ?_)
        · skip
          refine lv_iinc (v := nI (i + 1)) (lv' := [(5, .int (nI (i + 1))), (0, .ref aS), (1, .ref aX), (2, .int a), (3, .int (nI h)), (4, .int (nI w))]) hx hb dX3_addUp_98 hl (k := 5) rfl ((nI_succ i).symm) (by decide) rfl (fun ls hl => ?_)
          refine lv_goto (tgt := 8) hx hb dX3_addUp_101 (by decide) ?_
          exact ih_8 (i + 1) _ (by omega) (by rw [h2]; simp [adL, adS, c_2, c_3]) _ _ hP hD hS ls (lv_sub hl [1, 2, 3, 4, 5, 0] rfl)
        · skip
          have hm1 : h * tn Q P i < 1000 * 48 := Nat.mul_lt_mul_of_lt_of_le hh (by have := tn_lt hv i; omega) (by decide)
          have hm2 : h * tn Q P (en Q i w) < 1000 * 48 := Nat.mul_lt_mul_of_lt_of_le hh (by have := tn_lt hv (en Q i w); omega) (by decide)
          have hen : en Q i w < Q := Nat.mod_lt _ (by omega)
          refine lv_aload_n hx hb dX3_addUp_33 rfl (lv_at hl 0 rfl) ?_
          refine va_get (D := D) (ci := 3) (v := .ref aM) (C := RX3) (T := TX3) (N := 6) hx hb hts hi_X3_addUp_X3 hown hT.1 hP 0 rfl rfl 0 (by decide) (hts (.fieldLink RX3 10 "SlotStar" "star" "LSlotStar$Machine;") (List.mem_of_getElem? (i := 1) rfl)) (fun _ h9 => h9) rfl dX3_addUp_34 ?_
          refine lv_iload hx hb dX3_addUp_37 (lv_at hl 5 rfl) ?_
          refine ro_V (As := [.int (nI i)]) (rest := []) ⟨hx, hb, hml, hown, hts⟩ hT hP (k_X1_isForward l D cI cZ aM Q P M Wd i hv (by omega)) gX3_addUp_X1_isForward rfl rfl nd_X1_isForward [1] rfl (ci := 1) rfl rfl (q0 := 1) rfl hl.1 rfl rfl (Nat.le_of_ble_eq_true rfl) ⟨Nat.le_of_ble_eq_true rfl, Nat.le_of_ble_eq_true rfl⟩ ⟨rfl, rfl⟩ ⟨Nat.zero_le _, Nat.zero_le _⟩ dX3_addUp_39 ?_
          refine lv_if_eq (tgt := 49) hx hb dX3_addUp_42 (by decide) (fun c_4 => ?_) (fun c_4 => ?_)
          · skip
            refine lv_iconst (v := (-1)) hx hb dX3_addUp_49 (by decide) ?_
            refine top_eq (z := (sgn Q P M i)) (by simp [sgn, c_2, c_3, c_4]) ?_
            refine lv_istore (lv' := [(6, .int (sgn Q P M i)), (0, .ref aS), (1, .ref aX), (2, .int a), (3, .int (nI h)), (4, .int (nI w)), (5, .int (nI i))]) hx hb dX3_addUp_50 hl (by decide) rfl (fun ls hl => ?_)
            refine lv_aload_n hx hb dX3_addUp_52 rfl (lv_at hl 1 rfl) ?_
            refine lv_aload_n hx hb dX3_addUp_53 rfl (lv_at hl 2 rfl) ?_
            refine lv_iload_n hx hb dX3_addUp_54 rfl (lv_at hl 4 rfl) ?_
            refine lv_aload_n hx hb dX3_addUp_55 rfl (lv_at hl 1 rfl) ?_
            refine va_get (D := D) (ci := 3) (v := .ref aM) (C := RX3) (T := TX3) (N := 6) hx hb hts hi_X3_addUp_X3 hown hT.1 hP 0 rfl rfl 0 (by decide) (hts (.fieldLink RX3 10 "SlotStar" "star" "LSlotStar$Machine;") (List.mem_of_getElem? (i := 1) rfl)) (fun _ h9 => h9) rfl dX3_addUp_56 ?_
            refine lv_iload hx hb dX3_addUp_59 (lv_at hl 6 rfl) ?_
            refine ro_V (As := [.int (nI i)]) (rest := [.int (nI h), .ref aX, .ref aS]) ⟨hx, hb, hml, hown, hts⟩ hT hP (k_X1_turnOf l D cI cZ aM Q P M Wd i hv (by omega)) gX3_addUp_X1_turnOf rfl rfl nd_X1_turnOf [1] rfl (ci := 1) rfl rfl (q0 := 1) rfl hl.1 rfl rfl (Nat.le_of_ble_eq_true rfl) ⟨Nat.le_of_ble_eq_true rfl, Nat.le_of_ble_eq_true rfl⟩ ⟨rfl, rfl⟩ ⟨Nat.zero_le _, Nat.zero_le _⟩ dX3_addUp_61 ?_
            refine lv_imul hx hb dX3_addUp_64 ?_
            refine top_eq (z := (nI (h * tn Q P i))) (by exact pk_mul _ _) ?_
            refine lv_iload hx hb dX3_addUp_65 (lv_at hl 0 rfl) ?_
            refine mu_V (As := [.ref aX, .int (nI (h * tn Q P i)), .int (sgn Q P M i)]) (rest := []) (W1 := [(aS, .inr (3, [.ref aM, .ref aR, .ref aJ, .ref aF, .ref aG, .ref aI])), (aM, .inr (1, [.int (nI Q), .int (nI P), .int (nI M), .int (nI Wd), .int (nI (tT Q P)), .int (nI (tN Q P))])), (aR, .inr (2, [.ref aN, .int (nI (dgN (tN Q P))), .int (nI (tN Q P))])), (aN, .inl (cI, 49, .inl (cyR (tN Q P)))), (aX, .inl (cI, 48, .inl (ap (tN Q P) (h * tn Q P i) (sgn Q P M i) v)))]) (st1 := []) ⟨hx, hb, hml, hown, hts⟩ hT hP hD hS (k_X3_addPower l D cI cZ aS aM aR aJ aF aG aI Q P M Wd aX v (h * tn Q P i) (sgn Q P M i) hv (by omega)) gX3_addUp_X3_addPower rfl rfl nd_X3_addPower [0, 1, 4] (by decide) rfl rfl rfl rfl (ci := 3) rfl rfl (q0 := 0) rfl hl.1 rfl rfl (Nat.le_of_ble_eq_true rfl) ⟨Nat.le_of_ble_eq_true rfl, Nat.le_of_ble_eq_true rfl⟩ ⟨rfl, rfl⟩ ⟨Nat.zero_le _, Nat.zero_le _⟩ dX3_addUp_67 (fun H locs hP hD hS => ?_)
            refine lv_aload_n hx hb dX3_addUp_70 rfl (lv_at hl 1 rfl) ?_
            refine lv_aload_n hx hb dX3_addUp_71 rfl (lv_at hl 2 rfl) ?_
            refine lv_iload_n hx hb dX3_addUp_72 rfl (lv_at hl 4 rfl) ?_
            refine lv_aload_n hx hb dX3_addUp_73 rfl (lv_at hl 1 rfl) ?_
            refine va_get (D := D) (ci := 3) (v := .ref aM) (C := RX3) (T := TX3) (N := 6) hx hb hts hi_X3_addUp_X3 hown hT.1 hP 0 rfl rfl 0 (by decide) (hts (.fieldLink RX3 10 "SlotStar" "star" "LSlotStar$Machine;") (List.mem_of_getElem? (i := 1) rfl)) (fun _ h9 => h9) rfl dX3_addUp_74 ?_
            refine lv_aload_n hx hb dX3_addUp_77 rfl (lv_at hl 1 rfl) ?_
            refine va_get (D := D) (ci := 3) (v := .ref aM) (C := RX3) (T := TX3) (N := 6) hx hb hts hi_X3_addUp_X3 hown hT.1 hP 0 rfl rfl 0 (by decide) (hts (.fieldLink RX3 10 "SlotStar" "star" "LSlotStar$Machine;") (List.mem_of_getElem? (i := 1) rfl)) (fun _ h9 => h9) rfl dX3_addUp_78 ?_
            refine lv_iload hx hb dX3_addUp_81 (lv_at hl 6 rfl) ?_
            refine lv_iload hx hb dX3_addUp_83 (lv_at hl 5 rfl) ?_
            refine ro_V (As := [.int (nI i), .int (nI w)]) (rest := [.ref aM, .int (nI h), .ref aX, .ref aS]) ⟨hx, hb, hml, hown, hts⟩ hT hP (k_X1_endOf l D cI cZ aM Q P M Wd i w hv (by omega) hw) gX3_addUp_X1_endOf rfl rfl nd_X1_endOf [1] rfl (ci := 1) rfl rfl (q0 := 1) rfl hl.1 rfl rfl (Nat.le_of_ble_eq_true rfl) ⟨Nat.le_of_ble_eq_true rfl, Nat.le_of_ble_eq_true rfl⟩ ⟨rfl, rfl⟩ ⟨Nat.zero_le _, Nat.zero_le _⟩ dX3_addUp_85 ?_
            refine ro_V (As := [.int (nI (en Q i w))]) (rest := [.int (nI h), .ref aX, .ref aS]) ⟨hx, hb, hml, hown, hts⟩ hT hP (k_X1_turnOf l D cI cZ aM Q P M Wd (en Q i w) hv (by omega)) gX3_addUp_X1_turnOf rfl rfl nd_X1_turnOf [1] rfl (ci := 1) rfl rfl (q0 := 1) rfl hl.1 rfl rfl (Nat.le_of_ble_eq_true rfl) ⟨Nat.le_of_ble_eq_true rfl, Nat.le_of_ble_eq_true rfl⟩ ⟨rfl, rfl⟩ ⟨Nat.zero_le _, Nat.zero_le _⟩ dX3_addUp_88 ?_
            refine lv_imul hx hb dX3_addUp_91 ?_
            refine top_eq (z := (nI (h * tn Q P (en Q i w)))) (by exact pk_mul _ _) ?_
            refine lv_iload hx hb dX3_addUp_92 (lv_at hl 0 rfl) ?_
            refine lv_ineg hx hb dX3_addUp_94 ?_
            refine mu_V (As := [.ref aX, .int (nI (h * tn Q P (en Q i w))), .int (-(sgn Q P M i))]) (rest := []) (W1 := [(aS, .inr (3, [.ref aM, .ref aR, .ref aJ, .ref aF, .ref aG, .ref aI])), (aM, .inr (1, [.int (nI Q), .int (nI P), .int (nI M), .int (nI Wd), .int (nI (tT Q P)), .int (nI (tN Q P))])), (aR, .inr (2, [.ref aN, .int (nI (dgN (tN Q P))), .int (nI (tN Q P))])), (aN, .inl (cI, 49, .inl (cyR (tN Q P)))), (aX, .inl (cI, 48, .inl (ap (tN Q P) (h * tn Q P (en Q i w)) (-(sgn Q P M i)) (ap (tN Q P) (h * tn Q P i) (sgn Q P M i) v))))]) (st1 := []) ⟨hx, hb, hml, hown, hts⟩ hT hP hD hS (k_X3_addPower l D cI cZ aS aM aR aJ aF aG aI Q P M Wd aX (ap (tN Q P) (h * tn Q P i) (sgn Q P M i) v) (h * tn Q P (en Q i w)) (-(sgn Q P M i)) hv (by omega)) gX3_addUp_X3_addPower rfl rfl nd_X3_addPower [0, 1, 4] (by decide) rfl rfl rfl rfl (ci := 3) rfl rfl (q0 := 0) rfl hl.1 rfl rfl (Nat.le_of_ble_eq_true rfl) ⟨Nat.le_of_ble_eq_true rfl, Nat.le_of_ble_eq_true rfl⟩ ⟨rfl, rfl⟩ ⟨Nat.zero_le _, Nat.zero_le _⟩ dX3_addUp_95 (fun H locs hP hD hS => ?_)
            refine lv_iinc (v := nI (i + 1)) (lv' := [(5, .int (nI (i + 1))), (6, .int (sgn Q P M i)), (0, .ref aS), (1, .ref aX), (2, .int a), (3, .int (nI h)), (4, .int (nI w))]) hx hb dX3_addUp_98 hl (k := 6) rfl ((nI_succ i).symm) (by decide) rfl (fun ls hl => ?_)
            refine lv_goto (tgt := 8) hx hb dX3_addUp_101 (by decide) ?_
            exact ih_8 (i + 1) _ (by omega) (by rw [h2]; simp [adL, adS, c_2, c_3, c_4]) _ _ hP hD hS ls (lv_sub hl [2, 3, 4, 5, 6, 0] rfl)
          · skip
            refine lv_iconst (v := 1) hx hb dX3_addUp_45 (by decide) ?_
            refine top_eq (z := (sgn Q P M i)) (by simp [sgn, c_2, c_3, c_4]) ?_
            refine lv_goto (tgt := 50) hx hb dX3_addUp_46 (by decide) ?_
            refine lv_istore (lv' := [(6, .int (sgn Q P M i)), (0, .ref aS), (1, .ref aX), (2, .int a), (3, .int (nI h)), (4, .int (nI w)), (5, .int (nI i))]) hx hb dX3_addUp_50 hl (by decide) rfl (fun ls hl => ?_)
            refine lv_aload_n hx hb dX3_addUp_52 rfl (lv_at hl 1 rfl) ?_
            refine lv_aload_n hx hb dX3_addUp_53 rfl (lv_at hl 2 rfl) ?_
            refine lv_iload_n hx hb dX3_addUp_54 rfl (lv_at hl 4 rfl) ?_
            refine lv_aload_n hx hb dX3_addUp_55 rfl (lv_at hl 1 rfl) ?_
            refine va_get (D := D) (ci := 3) (v := .ref aM) (C := RX3) (T := TX3) (N := 6) hx hb hts hi_X3_addUp_X3 hown hT.1 hP 0 rfl rfl 0 (by decide) (hts (.fieldLink RX3 10 "SlotStar" "star" "LSlotStar$Machine;") (List.mem_of_getElem? (i := 1) rfl)) (fun _ h9 => h9) rfl dX3_addUp_56 ?_
            refine lv_iload hx hb dX3_addUp_59 (lv_at hl 6 rfl) ?_
            refine ro_V (As := [.int (nI i)]) (rest := [.int (nI h), .ref aX, .ref aS]) ⟨hx, hb, hml, hown, hts⟩ hT hP (k_X1_turnOf l D cI cZ aM Q P M Wd i hv (by omega)) gX3_addUp_X1_turnOf rfl rfl nd_X1_turnOf [1] rfl (ci := 1) rfl rfl (q0 := 1) rfl hl.1 rfl rfl (Nat.le_of_ble_eq_true rfl) ⟨Nat.le_of_ble_eq_true rfl, Nat.le_of_ble_eq_true rfl⟩ ⟨rfl, rfl⟩ ⟨Nat.zero_le _, Nat.zero_le _⟩ dX3_addUp_61 ?_
            refine lv_imul hx hb dX3_addUp_64 ?_
            refine top_eq (z := (nI (h * tn Q P i))) (by exact pk_mul _ _) ?_
            refine lv_iload hx hb dX3_addUp_65 (lv_at hl 0 rfl) ?_
            refine mu_V (As := [.ref aX, .int (nI (h * tn Q P i)), .int (sgn Q P M i)]) (rest := []) (W1 := [(aS, .inr (3, [.ref aM, .ref aR, .ref aJ, .ref aF, .ref aG, .ref aI])), (aM, .inr (1, [.int (nI Q), .int (nI P), .int (nI M), .int (nI Wd), .int (nI (tT Q P)), .int (nI (tN Q P))])), (aR, .inr (2, [.ref aN, .int (nI (dgN (tN Q P))), .int (nI (tN Q P))])), (aN, .inl (cI, 49, .inl (cyR (tN Q P)))), (aX, .inl (cI, 48, .inl (ap (tN Q P) (h * tn Q P i) (sgn Q P M i) v)))]) (st1 := []) ⟨hx, hb, hml, hown, hts⟩ hT hP hD hS (k_X3_addPower l D cI cZ aS aM aR aJ aF aG aI Q P M Wd aX v (h * tn Q P i) (sgn Q P M i) hv (by omega)) gX3_addUp_X3_addPower rfl rfl nd_X3_addPower [0, 1, 4] (by decide) rfl rfl rfl rfl (ci := 3) rfl rfl (q0 := 0) rfl hl.1 rfl rfl (Nat.le_of_ble_eq_true rfl) ⟨Nat.le_of_ble_eq_true rfl, Nat.le_of_ble_eq_true rfl⟩ ⟨rfl, rfl⟩ ⟨Nat.zero_le _, Nat.zero_le _⟩ dX3_addUp_67 (fun H locs hP hD hS => ?_)
            refine lv_aload_n hx hb dX3_addUp_70 rfl (lv_at hl 1 rfl) ?_
            refine lv_aload_n hx hb dX3_addUp_71 rfl (lv_at hl 2 rfl) ?_
            refine lv_iload_n hx hb dX3_addUp_72 rfl (lv_at hl 4 rfl) ?_
            refine lv_aload_n hx hb dX3_addUp_73 rfl (lv_at hl 1 rfl) ?_
            refine va_get (D := D) (ci := 3) (v := .ref aM) (C := RX3) (T := TX3) (N := 6) hx hb hts hi_X3_addUp_X3 hown hT.1 hP 0 rfl rfl 0 (by decide) (hts (.fieldLink RX3 10 "SlotStar" "star" "LSlotStar$Machine;") (List.mem_of_getElem? (i := 1) rfl)) (fun _ h9 => h9) rfl dX3_addUp_74 ?_
            refine lv_aload_n hx hb dX3_addUp_77 rfl (lv_at hl 1 rfl) ?_
            refine va_get (D := D) (ci := 3) (v := .ref aM) (C := RX3) (T := TX3) (N := 6) hx hb hts hi_X3_addUp_X3 hown hT.1 hP 0 rfl rfl 0 (by decide) (hts (.fieldLink RX3 10 "SlotStar" "star" "LSlotStar$Machine;") (List.mem_of_getElem? (i := 1) rfl)) (fun _ h9 => h9) rfl dX3_addUp_78 ?_
            refine lv_iload hx hb dX3_addUp_81 (lv_at hl 6 rfl) ?_
            refine lv_iload hx hb dX3_addUp_83 (lv_at hl 5 rfl) ?_
            refine ro_V (As := [.int (nI i), .int (nI w)]) (rest := [.ref aM, .int (nI h), .ref aX, .ref aS]) ⟨hx, hb, hml, hown, hts⟩ hT hP (k_X1_endOf l D cI cZ aM Q P M Wd i w hv (by omega) hw) gX3_addUp_X1_endOf rfl rfl nd_X1_endOf [1] rfl (ci := 1) rfl rfl (q0 := 1) rfl hl.1 rfl rfl (Nat.le_of_ble_eq_true rfl) ⟨Nat.le_of_ble_eq_true rfl, Nat.le_of_ble_eq_true rfl⟩ ⟨rfl, rfl⟩ ⟨Nat.zero_le _, Nat.zero_le _⟩ dX3_addUp_85 ?_
            refine ro_V (As := [.int (nI (en Q i w))]) (rest := [.int (nI h), .ref aX, .ref aS]) ⟨hx, hb, hml, hown, hts⟩ hT hP (k_X1_turnOf l D cI cZ aM Q P M Wd (en Q i w) hv (by omega)) gX3_addUp_X1_turnOf rfl rfl nd_X1_turnOf [1] rfl (ci := 1) rfl rfl (q0 := 1) rfl hl.1 rfl rfl (Nat.le_of_ble_eq_true rfl) ⟨Nat.le_of_ble_eq_true rfl, Nat.le_of_ble_eq_true rfl⟩ ⟨rfl, rfl⟩ ⟨Nat.zero_le _, Nat.zero_le _⟩ dX3_addUp_88 ?_
            refine lv_imul hx hb dX3_addUp_91 ?_
            refine top_eq (z := (nI (h * tn Q P (en Q i w)))) (by exact pk_mul _ _) ?_
            refine lv_iload hx hb dX3_addUp_92 (lv_at hl 0 rfl) ?_
            refine lv_ineg hx hb dX3_addUp_94 ?_
            refine mu_V (As := [.ref aX, .int (nI (h * tn Q P (en Q i w))), .int (-(sgn Q P M i))]) (rest := []) (W1 := [(aS, .inr (3, [.ref aM, .ref aR, .ref aJ, .ref aF, .ref aG, .ref aI])), (aM, .inr (1, [.int (nI Q), .int (nI P), .int (nI M), .int (nI Wd), .int (nI (tT Q P)), .int (nI (tN Q P))])), (aR, .inr (2, [.ref aN, .int (nI (dgN (tN Q P))), .int (nI (tN Q P))])), (aN, .inl (cI, 49, .inl (cyR (tN Q P)))), (aX, .inl (cI, 48, .inl (ap (tN Q P) (h * tn Q P (en Q i w)) (-(sgn Q P M i)) (ap (tN Q P) (h * tn Q P i) (sgn Q P M i) v))))]) (st1 := []) ⟨hx, hb, hml, hown, hts⟩ hT hP hD hS (k_X3_addPower l D cI cZ aS aM aR aJ aF aG aI Q P M Wd aX (ap (tN Q P) (h * tn Q P i) (sgn Q P M i) v) (h * tn Q P (en Q i w)) (-(sgn Q P M i)) hv (by omega)) gX3_addUp_X3_addPower rfl rfl nd_X3_addPower [0, 1, 4] (by decide) rfl rfl rfl rfl (ci := 3) rfl rfl (q0 := 0) rfl hl.1 rfl rfl (Nat.le_of_ble_eq_true rfl) ⟨Nat.le_of_ble_eq_true rfl, Nat.le_of_ble_eq_true rfl⟩ ⟨rfl, rfl⟩ ⟨Nat.zero_le _, Nat.zero_le _⟩ dX3_addUp_95 (fun H locs hP hD hS => ?_)
            refine lv_iinc (v := nI (i + 1)) (lv' := [(5, .int (nI (i + 1))), (6, .int (sgn Q P M i)), (0, .ref aS), (1, .ref aX), (2, .int a), (3, .int (nI h)), (4, .int (nI w))]) hx hb dX3_addUp_98 hl (k := 6) rfl ((nI_succ i).symm) (by decide) rfl (fun ls hl => ?_)
            refine lv_goto (tgt := 8) hx hb dX3_addUp_101 (by decide) ?_
            exact ih_8 (i + 1) _ (by omega) (by rw [h2]; simp [adL, adS, c_2, c_3, c_4]) _ _ hP hD hS ls (lv_sub hl [2, 3, 4, 5, 6, 0] rfl)
  exact L_8 (tN Q P) 0 (fun _ => 0) (by omega) rfl _ _ hP hD hS ls (lv_sub hl [1, 2, 3, 4, 5, 0] rfl)

set_option maxRecDepth 20000 in
theorem hi_X3_isNothing_X3 : ∀ w ∈ wsX30, w ∈ wsX3_isNothing := by
  intro w h
  unfold wsX3_isNothing
  simp only [List.mem_cons, List.mem_append, h, or_true, true_or]
theorem nd_X3_isNothing : okName yX3_isNothing 2 := by decide +kernel
set_option maxHeartbeats 4000000 in
set_option maxRecDepth 100000 in
theorem k_X3_isNothing (l : Launch) (D : va_G) (cI cZ : ClassId) (aS : Nat) (aM : Nat) (aR : Nat) (aJ : Nat) (aF : Nat) (aG : Nat) (aI : Nat) (Q : Nat) (P : Nat) (M : Nat) (Wd : Nat) (aN : Nat) (fF : Nat → Int32) (h : Nat) (w : Nat) (hv : MV Q P M Wd) (hh : h < 1000) (hw : w < 1000) : MU l yX3_isNothing wsX3_isNothing ({ frames := 5, cells := 0, slots := 0, locals := 112 } : Room) D cI cZ [(aS, .inr (3, [.ref aM, .ref aR, .ref aJ, .ref aF, .ref aG, .ref aI])), (aM, .inr (1, [.int (nI Q), .int (nI P), .int (nI M), .int (nI Wd), .int (nI (tT Q P)), .int (nI (tN Q P))])), (aR, .inr (2, [.ref aN, .int (nI (dgN (tN Q P))), .int (nI (tN Q P))])), (aN, .inl (cI, 49, .inl (cyR (tN Q P)))), (aF, .inl (cI, 48, .inl fF))] [.ref aS, .int (nI h), .int (nI w)] (some (.int (nth Q P M h w))) [(aS, .inr (3, [.ref aM, .ref aR, .ref aJ, .ref aF, .ref aG, .ref aI])), (aM, .inr (1, [.int (nI Q), .int (nI P), .int (nI M), .int (nI Wd), .int (nI (tT Q P)), .int (nI (tN Q P))])), (aR, .inr (2, [.ref aN, .int (nI (dgN (tN Q P))), .int (nI (tN Q P))])), (aN, .inl (cI, 49, .inl (cyR (tN Q P)))), (aF, .inl (cI, 48, .inl (adR Q P M 0 h w)))] := by
  refine mu_start (by decide) rfl (Nat.le_of_ble_eq_true rfl) ?_
  intro p e s m args below meth c hx hb hr hml hlocks hts hown hT hP hD hS ls hl
  have hown : s.vm.findClass RX3 = some m.cls := hown
  have hl : lv_has ls 3 [(0, .ref aS), (1, .int (nI h)), (2, .int (nI w))] := hl
  have hv' := hv
  unfold MV at hv'
  have hd0 := dg_pos (tN Q P) (tN_pos hv) (tN_le hv)
  have hd1 := dg_le (tN Q P)
  have hn0 := tN_pos hv
  have hn1 := tN_le hv
  refine lv_aload_n hx hb dX3_isNothing_0 rfl (lv_at hl 0 rfl) ?_
  refine lv_aload_n hx hb dX3_isNothing_1 rfl (lv_at hl 0 rfl) ?_
  refine va_get (D := D) (ci := 3) (v := .ref aF) (C := RX3) (T := TX3) (N := 6) hx hb hts hi_X3_isNothing_X3 hown hT.1 hP 0 rfl rfl 3 (by decide) (hts (.fieldLink RX3 30 "SlotStar" "first" "[I") (List.mem_of_getElem? (i := 1) rfl)) (fun _ h9 => h9) rfl dX3_isNothing_2 ?_
  refine lv_iconst (v := 0) hx hb dX3_isNothing_5 (by decide) ?_
  refine lv_iload_n hx hb dX3_isNothing_6 rfl (lv_at hl 1 rfl) ?_
  refine lv_iload_n hx hb dX3_isNothing_7 rfl (lv_at hl 2 rfl) ?_
  refine mu_V (As := [.ref aF, .int 0, .int (nI h), .int (nI w)]) (rest := []) (W1 := [(aS, .inr (3, [.ref aM, .ref aR, .ref aJ, .ref aF, .ref aG, .ref aI])), (aM, .inr (1, [.int (nI Q), .int (nI P), .int (nI M), .int (nI Wd), .int (nI (tT Q P)), .int (nI (tN Q P))])), (aR, .inr (2, [.ref aN, .int (nI (dgN (tN Q P))), .int (nI (tN Q P))])), (aN, .inl (cI, 49, .inl (cyR (tN Q P)))), (aF, .inl (cI, 48, .inl (adR Q P M 0 h w)))]) (st1 := []) ⟨hx, hb, hml, hown, hts⟩ hT hP hD hS (k_X3_addUp l D cI cZ aS aM aR aJ aF aG aI Q P M Wd aN aF fF 0 h w hv (by omega) (by omega)) gX3_isNothing_X3_addUp rfl rfl nd_X3_addUp [0, 1, 2, 3, 4] (by decide) rfl rfl rfl rfl (ci := 3) rfl rfl (q0 := 0) rfl hl.1 rfl rfl (Nat.le_of_ble_eq_true rfl) ⟨Nat.le_of_ble_eq_true rfl, Nat.le_of_ble_eq_true rfl⟩ ⟨rfl, rfl⟩ ⟨Nat.zero_le _, Nat.zero_le _⟩ dX3_isNothing_8 (fun H locs hP hD hS => ?_)
  refine lv_aload_n hx hb dX3_isNothing_11 rfl (lv_at hl 0 rfl) ?_
  refine va_get (D := D) (ci := 3) (v := .ref aR) (C := RX3) (T := TX3) (N := 6) hx hb hts hi_X3_isNothing_X3 hown hT.1 hP 0 rfl rfl 1 (by decide) (hts (.fieldLink RX3 19 "SlotStar" "root" "LSlotStar$Root;") (List.mem_of_getElem? (i := 2) rfl)) (fun _ h9 => h9) rfl dX3_isNothing_12 ?_
  refine lv_aload_n hx hb dX3_isNothing_15 rfl (lv_at hl 0 rfl) ?_
  refine va_get (D := D) (ci := 3) (v := .ref aF) (C := RX3) (T := TX3) (N := 6) hx hb hts hi_X3_isNothing_X3 hown hT.1 hP 0 rfl rfl 3 (by decide) (hts (.fieldLink RX3 30 "SlotStar" "first" "[I") (List.mem_of_getElem? (i := 1) rfl)) (fun _ h9 => h9) rfl dX3_isNothing_16 ?_
  refine ro_V (As := [.ref aF]) (rest := []) ⟨hx, hb, hml, hown, hts⟩ hT hP (k_X2_isZero l D cI cZ aR aN (dgN (tN Q P)) (tN Q P) aF (adR Q P M 0 h w) (by omega)) gX3_isNothing_X2_isZero rfl rfl nd_X2_isZero [2, 4] rfl (ci := 2) rfl rfl (q0 := 2) rfl hl.1 rfl rfl (Nat.le_of_ble_eq_true rfl) ⟨Nat.le_of_ble_eq_true rfl, Nat.le_of_ble_eq_true rfl⟩ ⟨rfl, rfl⟩ ⟨Nat.zero_le _, Nat.zero_le _⟩ dX3_isNothing_19 ?_
  exact mu_retz hx hb hr hlocks dX3_isNothing_22 (hP) hS (by rfl) (by exact nth01 _ _ _ _ _)

set_option maxRecDepth 20000 in
theorem hi_X3_vanishes_X1 : ∀ w ∈ wsX10, w ∈ wsX3_vanishes := by
  intro w h
  unfold wsX3_vanishes
  simp only [List.mem_cons, List.mem_append, h, or_true, true_or]
set_option maxRecDepth 20000 in
theorem hi_X3_vanishes_X3 : ∀ w ∈ wsX30, w ∈ wsX3_vanishes := by
  intro w h
  unfold wsX3_vanishes
  simp only [List.mem_cons, List.mem_append, h, or_true, true_or]
theorem nd_X3_vanishes : okName yX3_vanishes 1 := by decide +kernel
set_option maxHeartbeats 4000000 in
set_option maxRecDepth 100000 in
theorem k_X3_vanishes (l : Launch) (D : va_G) (cI cZ : ClassId) (aS : Nat) (aM : Nat) (aR : Nat) (aJ : Nat) (aF : Nat) (aG : Nat) (aI : Nat) (Q : Nat) (P : Nat) (M : Nat) (Wd : Nat) (aN : Nat) (fF : Nat → Int32) (h : Int32) (hv : MV Q P M Wd) : MU l yX3_vanishes wsX3_vanishes ({ frames := 6, cells := 0, slots := 0, locals := 134 } : Room) D cI cZ [(aS, .inr (3, [.ref aM, .ref aR, .ref aJ, .ref aF, .ref aG, .ref aI])), (aM, .inr (1, [.int (nI Q), .int (nI P), .int (nI M), .int (nI Wd), .int (nI (tT Q P)), .int (nI (tN Q P))])), (aR, .inr (2, [.ref aN, .int (nI (dgN (tN Q P))), .int (nI (tN Q P))])), (aN, .inl (cI, 49, .inl (cyR (tN Q P)))), (aF, .inl (cI, 48, .inl fF))] [.ref aS, .int h] (some (.int (sVan Q P M Wd h))) [(aS, .inr (3, [.ref aM, .ref aR, .ref aJ, .ref aF, .ref aG, .ref aI])), (aM, .inr (1, [.int (nI Q), .int (nI P), .int (nI M), .int (nI Wd), .int (nI (tT Q P)), .int (nI (tN Q P))])), (aR, .inr (2, [.ref aN, .int (nI (dgN (tN Q P))), .int (nI (tN Q P))])), (aN, .inl (cI, 49, .inl (cyR (tN Q P)))), (aF, .inl (cI, 48, .inl (fVan Q P M Wd h fF)))] := by
  refine mu_start (by decide) rfl (Nat.le_of_ble_eq_true rfl) ?_
  intro p e s m args below meth c hx hb hr hml hlocks hts hown hT hP hD hS ls hl
  have hown : s.vm.findClass RX3 = some m.cls := hown
  have hl : lv_has ls 2 [(0, .ref aS), (1, .int h)] := hl
  have hv' := hv
  unfold MV at hv'
  have hd0 := dg_pos (tN Q P) (tN_pos hv) (tN_le hv)
  have hd1 := dg_le (tN Q P)
  have hn0 := tN_pos hv
  have hn1 := tN_le hv
  refine lv_iload_n hx hb dX3_vanishes_0 rfl (lv_at hl 1 rfl) ?_
  refine ro_S (As := [.int h]) (rest := []) ⟨hx, hb, hml, hown, hts⟩ hT hP (k_X3_isWave l D cI cZ h) gX3_vanishes_X3_isWave rfl nd_X3_isWave [] rfl hl.1 rfl rfl (Nat.le_of_ble_eq_true rfl) ⟨Nat.le_of_ble_eq_true rfl, Nat.le_of_ble_eq_true rfl⟩ ⟨rfl, rfl⟩ ⟨Nat.zero_le _, Nat.zero_le _⟩ dX3_vanishes_1 ?_
  refine lv_if_ne (tgt := 10) hx hb dX3_vanishes_4 (by decide) (fun c_1 => ?_) (fun c_1 => ?_)
  · skip
    obtain ⟨h2, hh2, rfl⟩ := jIn_nat 1 99 (by decide) c_1
    have hch : cl (nI h2) = h2 := cl_nI (by omega)
    refine lv_aload_n hx hb dX3_vanishes_10 rfl (lv_at hl 0 rfl) ?_
    refine va_get (D := D) (ci := 3) (v := .ref aM) (C := RX3) (T := TX3) (N := 6) hx hb hts hi_X3_vanishes_X3 hown hT.1 hP 0 rfl rfl 0 (by decide) (hts (.fieldLink RX3 10 "SlotStar" "star" "LSlotStar$Machine;") (List.mem_of_getElem? (i := 1) rfl)) (fun _ h9 => h9) rfl dX3_vanishes_11 ?_
    refine ro_V (As := []) (rest := []) ⟨hx, hb, hml, hown, hts⟩ hT hP (k_X1_isBalanced l D cI cZ aM Q P M Wd hv) gX3_vanishes_X1_isBalanced rfl rfl nd_X1_isBalanced [1] rfl (ci := 1) rfl rfl (q0 := 1) rfl hl.1 rfl rfl (Nat.le_of_ble_eq_true rfl) ⟨Nat.le_of_ble_eq_true rfl, Nat.le_of_ble_eq_true rfl⟩ ⟨rfl, rfl⟩ ⟨Nat.zero_le _, Nat.zero_le _⟩ dX3_vanishes_14 ?_
    refine lv_if_ne (tgt := 23) hx hb dX3_vanishes_17 (by decide) (fun c_2 => ?_) (fun c_2 => ?_)
    · skip
      refine lv_aload_n hx hb dX3_vanishes_23 rfl (lv_at hl 0 rfl) ?_
      refine lv_iload_n hx hb dX3_vanishes_24 rfl (lv_at hl 1 rfl) ?_
      refine lv_aload_n hx hb dX3_vanishes_25 rfl (lv_at hl 0 rfl) ?_
      refine va_get (D := D) (ci := 3) (v := .ref aM) (C := RX3) (T := TX3) (N := 6) hx hb hts hi_X3_vanishes_X3 hown hT.1 hP 0 rfl rfl 0 (by decide) (hts (.fieldLink RX3 10 "SlotStar" "star" "LSlotStar$Machine;") (List.mem_of_getElem? (i := 1) rfl)) (fun _ h9 => h9) rfl dX3_vanishes_26 ?_
      refine va_get (D := D) (ci := 1) (v := .int (nI Wd)) (C := RX1) (T := TX1) (N := 6) hx hb hts hi_X3_vanishes_X1 hown hT.1 hP 1 rfl rfl 3 (by decide) (hts (.fieldLink RX3 59 "SlotStar$Machine" "width" "I") (List.mem_of_getElem? (i := 2) rfl)) (fun _ h9 => h9) rfl dX3_vanishes_29 ?_
      refine mu_V (As := [.int (nI h2), .int (nI Wd)]) (rest := []) (W1 := [(aS, .inr (3, [.ref aM, .ref aR, .ref aJ, .ref aF, .ref aG, .ref aI])), (aM, .inr (1, [.int (nI Q), .int (nI P), .int (nI M), .int (nI Wd), .int (nI (tT Q P)), .int (nI (tN Q P))])), (aR, .inr (2, [.ref aN, .int (nI (dgN (tN Q P))), .int (nI (tN Q P))])), (aN, .inl (cI, 49, .inl (cyR (tN Q P)))), (aF, .inl (cI, 48, .inl (adR Q P M 0 h2 Wd)))]) (st1 := [.int (nth Q P M h2 Wd)]) ⟨hx, hb, hml, hown, hts⟩ hT hP hD hS (k_X3_isNothing l D cI cZ aS aM aR aJ aF aG aI Q P M Wd aN fF h2 Wd hv (by omega) (by omega)) gX3_vanishes_X3_isNothing rfl rfl nd_X3_isNothing [0, 1, 2, 3, 4] (by decide) rfl rfl rfl rfl (ci := 3) rfl rfl (q0 := 0) rfl hl.1 rfl rfl (Nat.le_of_ble_eq_true rfl) ⟨Nat.le_of_ble_eq_true rfl, Nat.le_of_ble_eq_true rfl⟩ ⟨rfl, rfl⟩ ⟨Nat.zero_le _, Nat.zero_le _⟩ dX3_vanishes_32 (fun H locs hP hD hS => ?_)
      refine lv_if_eq (tgt := 42) hx hb dX3_vanishes_35 (by decide) (fun c_3 => ?_) (fun c_3 => ?_)
      · skip
        have hf1 := c_3
        refine lv_iconst (v := 0) hx hb dX3_vanishes_42 (by decide) ?_
        exact mu_ret hx hb hr hlocks dX3_vanishes_43 (by simpa [fVan, c_1, c_2, eq_true c_3, hch] using hP) hS (by first | simp [sVan, c_1, c_2, eq_true c_3, hch, hf1] | simp [sVan, c_1, c_2, eq_true c_3, hch] | simp [sVan, c_1, c_2, eq_true c_3])
      · skip
        have hf1 : nth Q P M h2 Wd = 1 := (nth01 _ _ _ _ _).resolve_left c_3
        refine lv_iconst (v := 1) hx hb dX3_vanishes_38 (by decide) ?_
        refine lv_goto (tgt := 43) hx hb dX3_vanishes_39 (by decide) ?_
        exact mu_ret hx hb hr hlocks dX3_vanishes_43 (by simpa [fVan, c_1, c_2, c_3, hch] using hP) hS (by first | simp [sVan, c_1, c_2, c_3, hch, hf1] | simp [sVan, c_1, c_2, c_3, hch] | simp [sVan, c_1, c_2, c_3])
    · skip
      refine lv_bipush (v := (-3)) hx hb dX3_vanishes_20 (by decide) ?_
      exact mu_ret hx hb hr hlocks dX3_vanishes_22 (by simpa [fVan, c_1, eq_true c_2] using hP) hS (by first | simp [sVan, c_1, eq_true c_2, hch, hf1] | simp [sVan, c_1, eq_true c_2, hch] | simp [sVan, c_1, eq_true c_2])
  · skip
    refine lv_bipush (v := (-2)) hx hb dX3_vanishes_7 (by decide) ?_
    exact mu_ret hx hb hr hlocks dX3_vanishes_9 (by simpa [fVan, eq_true c_1] using hP) hS (by first | simp [sVan, eq_true c_1, hch, hf1] | simp [sVan, eq_true c_1, hch] | simp [sVan, eq_true c_1])

set_option maxRecDepth 20000 in
theorem hi_X3_choose_X1 : ∀ w ∈ wsX10, w ∈ wsX3_choose := by
  intro w h
  unfold wsX3_choose
  simp only [List.mem_cons, List.mem_append, h, or_true, true_or]
set_option maxRecDepth 20000 in
theorem hi_X3_choose_X3 : ∀ w ∈ wsX30, w ∈ wsX3_choose := by
  intro w h
  unfold wsX3_choose
  simp only [List.mem_cons, List.mem_append, h, or_true, true_or]
theorem nd_X3_choose : okName yX3_choose 1 := by decide +kernel
set_option maxHeartbeats 4000000 in
set_option maxRecDepth 100000 in
theorem k_X3_choose (l : Launch) (D : va_G) (cI cZ : ClassId) (aS : Nat) (aM : Nat) (aR : Nat) (aJ : Nat) (aF : Nat) (aG : Nat) (aI : Nat) (Q : Nat) (P : Nat) (M : Nat) (Wd : Nat) (aN : Nat) (fF : Nat → Int32) (h : Int32) (hv : MV Q P M Wd) : MU l yX3_choose wsX3_choose ({ frames := 6, cells := 0, slots := 0, locals := 134 } : Room) D cI cZ [(aS, .inr (3, [.ref aM, .ref aR, .ref aJ, .ref aF, .ref aG, .ref aI])), (aM, .inr (1, [.int (nI Q), .int (nI P), .int (nI M), .int (nI Wd), .int (nI (tT Q P)), .int (nI (tN Q P))])), (aR, .inr (2, [.ref aN, .int (nI (dgN (tN Q P))), .int (nI (tN Q P))])), (aN, .inl (cI, 49, .inl (cyR (tN Q P)))), (aF, .inl (cI, 48, .inl fF))] [.ref aS, .int h] (some (.int (sCho Q P M h))) [(aS, .inr (3, [.ref aM, .ref aR, .ref aJ, .ref aF, .ref aG, .ref aI])), (aM, .inr (1, [.int (nI Q), .int (nI P), .int (nI M), .int (nI Wd), .int (nI (tT Q P)), .int (nI (tN Q P))])), (aR, .inr (2, [.ref aN, .int (nI (dgN (tN Q P))), .int (nI (tN Q P))])), (aN, .inl (cI, 49, .inl (cyR (tN Q P)))), (aF, .inl (cI, 48, .inl (fCho Q P M h fF)))] := by
  refine mu_start (by decide) rfl (Nat.le_of_ble_eq_true rfl) ?_
  intro p e s m args below meth c hx hb hr hml hlocks hts hown hT hP hD hS ls hl
  have hown : s.vm.findClass RX3 = some m.cls := hown
  have hl : lv_has ls 3 [(0, .ref aS), (1, .int h)] := hl
  have hv' := hv
  unfold MV at hv'
  have hd0 := dg_pos (tN Q P) (tN_pos hv) (tN_le hv)
  have hd1 := dg_le (tN Q P)
  have hn0 := tN_pos hv
  have hn1 := tN_le hv
  have hpw := pw_ok (q := Q) (p := P) (by omega) (by omega)
  refine lv_iload_n hx hb dX3_choose_0 rfl (lv_at hl 1 rfl) ?_
  refine ro_S (As := [.int h]) (rest := []) ⟨hx, hb, hml, hown, hts⟩ hT hP (k_X3_isWave l D cI cZ h) gX3_choose_X3_isWave rfl nd_X3_isWave [] rfl hl.1 rfl rfl (Nat.le_of_ble_eq_true rfl) ⟨Nat.le_of_ble_eq_true rfl, Nat.le_of_ble_eq_true rfl⟩ ⟨rfl, rfl⟩ ⟨Nat.zero_le _, Nat.zero_le _⟩ dX3_choose_1 ?_
  refine lv_if_ne (tgt := 10) hx hb dX3_choose_4 (by decide) (fun c_1 => ?_) (fun c_1 => ?_)
  · skip
    obtain ⟨h2, hh2, rfl⟩ := jIn_nat 1 99 (by decide) c_1
    have hch : cl (nI h2) = h2 := cl_nI (by omega)
    refine lv_aload_n hx hb dX3_choose_10 rfl (lv_at hl 0 rfl) ?_
    refine va_get (D := D) (ci := 3) (v := .ref aM) (C := RX3) (T := TX3) (N := 6) hx hb hts hi_X3_choose_X3 hown hT.1 hP 0 rfl rfl 0 (by decide) (hts (.fieldLink RX3 10 "SlotStar" "star" "LSlotStar$Machine;") (List.mem_of_getElem? (i := 1) rfl)) (fun _ h9 => h9) rfl dX3_choose_11 ?_
    refine ro_V (As := []) (rest := []) ⟨hx, hb, hml, hown, hts⟩ hT hP (k_X1_isBalanced l D cI cZ aM Q P M Wd hv) gX3_choose_X1_isBalanced rfl rfl nd_X1_isBalanced [1] rfl (ci := 1) rfl rfl (q0 := 1) rfl hl.1 rfl rfl (Nat.le_of_ble_eq_true rfl) ⟨Nat.le_of_ble_eq_true rfl, Nat.le_of_ble_eq_true rfl⟩ ⟨rfl, rfl⟩ ⟨Nat.zero_le _, Nat.zero_le _⟩ dX3_choose_14 ?_
    refine lv_if_ne (tgt := 23) hx hb dX3_choose_17 (by decide) (fun c_2 => ?_) (fun c_2 => ?_)
    · skip
      refine lv_aload_n hx hb dX3_choose_23 rfl (lv_at hl 0 rfl) ?_
      refine va_get (D := D) (ci := 3) (v := .ref aM) (C := RX3) (T := TX3) (N := 6) hx hb hts hi_X3_choose_X3 hown hT.1 hP 0 rfl rfl 0 (by decide) (hts (.fieldLink RX3 10 "SlotStar" "star" "LSlotStar$Machine;") (List.mem_of_getElem? (i := 1) rfl)) (fun _ h9 => h9) rfl dX3_choose_24 ?_
      refine va_get (D := D) (ci := 1) (v := .int (nI Q)) (C := RX1) (T := TX1) (N := 6) hx hb hts hi_X3_choose_X1 hown hT.1 hP 1 rfl rfl 0 (by decide) (hts (.fieldLink RX3 56 "SlotStar$Machine" "slots" "I") (List.mem_of_getElem? (i := 2) rfl)) (fun _ h9 => h9) rfl dX3_choose_27 ?_
      refine lv_aload_n hx hb dX3_choose_30 rfl (lv_at hl 0 rfl) ?_
      refine va_get (D := D) (ci := 3) (v := .ref aM) (C := RX3) (T := TX3) (N := 6) hx hb hts hi_X3_choose_X3 hown hT.1 hP 0 rfl rfl 0 (by decide) (hts (.fieldLink RX3 10 "SlotStar" "star" "LSlotStar$Machine;") (List.mem_of_getElem? (i := 1) rfl)) (fun _ h9 => h9) rfl dX3_choose_31 ?_
      refine va_get (D := D) (ci := 1) (v := .int (nI P)) (C := RX1) (T := TX1) (N := 6) hx hb hts hi_X3_choose_X1 hown hT.1 hP 1 rfl rfl 1 (by decide) (hts (.fieldLink RX3 103 "SlotStar$Machine" "pairs" "I") (List.mem_of_getElem? (i := 3) rfl)) (fun _ h9 => h9) rfl dX3_choose_34 ?_
      refine ro_S (As := [.int (nI Q), .int (nI P)]) (rest := []) ⟨hx, hb, hml, hown, hts⟩ hT hP (k_X3_poleWidth l D cI cZ Q P (by omega) (by omega)) gX3_choose_X3_poleWidth rfl nd_X3_poleWidth [] rfl hl.1 rfl rfl (Nat.le_of_ble_eq_true rfl) ⟨Nat.le_of_ble_eq_true rfl, Nat.le_of_ble_eq_true rfl⟩ ⟨rfl, rfl⟩ ⟨Nat.zero_le _, Nat.zero_le _⟩ dX3_choose_37 ?_
      refine lv_istore_n (lv' := [(2, .int (nI (pw Q P))), (0, .ref aS), (1, .int (nI h2))]) hx hb dX3_choose_40 rfl hl (by decide) rfl (fun ls hl => ?_)
      have L_41 : ∀ (w : Nat) (v : Nat → Int32), w ≤ pw Q P → sCho Q P M (nI h2) = chL Q P M h2 w → fCho Q P M (nI h2) fF = chR Q P M h2 w v → ∀ (H : Heap) (locs : List Loc), va_P D cls5 [(aS, .inr (3, [.ref aM, .ref aR, .ref aJ, .ref aF, .ref aG, .ref aI])), (aM, .inr (1, [.int (nI Q), .int (nI P), .int (nI M), .int (nI Wd), .int (nI (tT Q P)), .int (nI (tN Q P))])), (aR, .inr (2, [.ref aN, .int (nI (dgN (tN Q P))), .int (nI (tN Q P))])), (aN, .inl (cI, 49, .inl (cyR (tN Q P)))), (aF, .inl (cI, 48, .inl v))] H → va_D (va_M [(aS, .inr (3, [.ref aM, .ref aR, .ref aJ, .ref aF, .ref aG, .ref aI])), (aM, .inr (1, [.int (nI Q), .int (nI P), .int (nI M), .int (nI Wd), .int (nI (tT Q P)), .int (nI (tN Q P))])), (aR, .inr (2, [.ref aN, .int (nI (dgN (tN Q P))), .int (nI (tN Q P))])), (aN, .inl (cI, 49, .inl (cyR (tN Q P)))), (aF, .inl (cI, 48, .inl fF))]) [(aS, .inr (3, [.ref aM, .ref aR, .ref aJ, .ref aF, .ref aG, .ref aI])), (aM, .inr (1, [.int (nI Q), .int (nI P), .int (nI M), .int (nI Wd), .int (nI (tT Q P)), .int (nI (tN Q P))])), (aR, .inr (2, [.ref aN, .int (nI (dgN (tN Q P))), .int (nI (tN Q P))])), (aN, .inl (cI, 49, .inl (cyR (tN Q P)))), (aF, .inl (cI, 48, .inl v))] → va_S (va_M [(aS, .inr (3, [.ref aM, .ref aR, .ref aJ, .ref aF, .ref aG, .ref aI])), (aM, .inr (1, [.int (nI Q), .int (nI P), .int (nI M), .int (nI Wd), .int (nI (tT Q P)), .int (nI (tN Q P))])), (aR, .inr (2, [.ref aN, .int (nI (dgN (tN Q P))), .int (nI (tN Q P))])), (aN, .inl (cI, 49, .inl (cyR (tN Q P)))), (aF, .inl (cI, 48, .inl fF))]) s.heap H locs → ∀ ls : Array Slot, lv_has ls 3 [(0, .ref aS), (1, .int (nI h2)), (2, .int (nI w))] → W p l e (headSpec wsX3_choose ({ frames := 6, cells := 0, slots := 0, locals := 134 } : Room)).room s m args below meth c H locs 0 0 (MQ below (QcM D [(aS, .inr (3, [.ref aM, .ref aR, .ref aJ, .ref aF, .ref aG, .ref aI])), (aM, .inr (1, [.int (nI Q), .int (nI P), .int (nI M), .int (nI Wd), .int (nI (tT Q P)), .int (nI (tN Q P))])), (aR, .inr (2, [.ref aN, .int (nI (dgN (tN Q P))), .int (nI (tN Q P))])), (aN, .inl (cI, 49, .inl (cyR (tN Q P)))), (aF, .inl (cI, 48, .inl fF))] [(aS, .inr (3, [.ref aM, .ref aR, .ref aJ, .ref aF, .ref aG, .ref aI])), (aM, .inr (1, [.int (nI Q), .int (nI P), .int (nI M), .int (nI Wd), .int (nI (tT Q P)), .int (nI (tN Q P))])), (aR, .inr (2, [.ref aN, .int (nI (dgN (tN Q P))), .int (nI (tN Q P))])), (aN, .inl (cI, 49, .inl (cyR (tN Q P)))), (aF, .inl (cI, 48, .inl (fCho Q P M (nI h2) fF)))] (some (.int (sCho Q P M (nI h2))))) args s 0 0 (va_M [(aS, .inr (3, [.ref aM, .ref aR, .ref aJ, .ref aF, .ref aG, .ref aI])), (aM, .inr (1, [.int (nI Q), .int (nI P), .int (nI M), .int (nI Wd), .int (nI (tT Q P)), .int (nI (tN Q P))])), (aR, .inr (2, [.ref aN, .int (nI (dgN (tN Q P))), .int (nI (tN Q P))])), (aN, .inl (cI, 49, .inl (cyR (tN Q P)))), (aF, .inl (cI, 48, .inl fF))])) (F0 m 41 ls []) := by
        intro w
        induction w with
        | zero =>
          intro v h3 e1 e2 H locs hP hD hS ls hl
          refine lv_iload_n hx hb dX3_choose_41 rfl (lv_at hl 2 rfl) ?_
          refine lv_iconst (v := 1) hx hb dX3_choose_42 (by decide) ?_
          refine lv_icmp_lt (tgt := 63) hx hb dX3_choose_43 (by decide) (fun c_3 => ?_) (fun c_3 => ?_)
          · skip
            refine lv_bipush (v := (-6)) hx hb dX3_choose_63 (by decide) ?_
            exact mu_ret hx hb hr hlocks dX3_choose_65 (by rw [e2]; exact hP) hS (by rw [e1]; rfl)
          · exfalso; exact c_3 (by decide)
        | succ w ih_41 =>
          intro v h3 e1 e2 H locs hP hD hS ls hl
          refine lv_iload_n hx hb dX3_choose_41 rfl (lv_at hl 2 rfl) ?_
          refine lv_iconst (v := 1) hx hb dX3_choose_42 (by decide) ?_
          refine lv_icmp_lt (tgt := 63) hx hb dX3_choose_43 (by decide) (fun c_4 => ?_) (fun c_4 => ?_)
          · exfalso; exact nI_nlt (show 1 ≤ w + 1 by omega) (by omega) c_4
          · skip
            refine lv_aload_n hx hb dX3_choose_46 rfl (lv_at hl 0 rfl) ?_
            refine lv_iload_n hx hb dX3_choose_47 rfl (lv_at hl 1 rfl) ?_
            refine lv_iload_n hx hb dX3_choose_48 rfl (lv_at hl 2 rfl) ?_
            refine mu_V (As := [.int (nI h2), .int (nI (w + 1))]) (rest := []) (W1 := [(aS, .inr (3, [.ref aM, .ref aR, .ref aJ, .ref aF, .ref aG, .ref aI])), (aM, .inr (1, [.int (nI Q), .int (nI P), .int (nI M), .int (nI Wd), .int (nI (tT Q P)), .int (nI (tN Q P))])), (aR, .inr (2, [.ref aN, .int (nI (dgN (tN Q P))), .int (nI (tN Q P))])), (aN, .inl (cI, 49, .inl (cyR (tN Q P)))), (aF, .inl (cI, 48, .inl (adR Q P M 0 h2 (w + 1))))]) (st1 := [.int (nth Q P M h2 (w + 1))]) ⟨hx, hb, hml, hown, hts⟩ hT hP hD hS (k_X3_isNothing l D cI cZ aS aM aR aJ aF aG aI Q P M Wd aN v h2 (w + 1) hv (by omega) (by omega)) gX3_choose_X3_isNothing rfl rfl nd_X3_isNothing [0, 1, 2, 3, 4] (by decide) rfl rfl rfl rfl (ci := 3) rfl rfl (q0 := 0) rfl hl.1 rfl rfl (Nat.le_of_ble_eq_true rfl) ⟨Nat.le_of_ble_eq_true rfl, Nat.le_of_ble_eq_true rfl⟩ ⟨rfl, rfl⟩ ⟨Nat.zero_le _, Nat.zero_le _⟩ dX3_choose_49 (fun H locs hP hD hS => ?_)
            refine lv_if_eq (tgt := 57) hx hb dX3_choose_52 (by decide) (fun c_5 => ?_) (fun c_5 => ?_)
            · skip
              refine lv_iinc (v := nI w) (lv' := [(2, .int (nI w)), (0, .ref aS), (1, .int (nI h2))]) hx hb dX3_choose_57 hl (k := 2) rfl (pk_m1 w) (by decide) rfl (fun ls hl => ?_)
              refine lv_goto (tgt := 41) hx hb dX3_choose_60 (by decide) ?_
              exact ih_41 _ (by omega) (by rw [e1]; simp [chL, c_1, c_2, c_4, eq_true c_5]) (by rw [e2]; simp [chR, c_1, c_2, c_4, eq_true c_5]) _ _ hP hD hS ls (lv_sub hl [1, 2, 0] rfl)
            · skip
              refine lv_iload_n hx hb dX3_choose_55 rfl (lv_at hl 2 rfl) ?_
              exact mu_ret hx hb hr hlocks dX3_choose_56 (by rw [e2]; simpa [chR, c_1, c_2, c_4, c_5] using hP) hS (by rw [e1]; simp [chL, c_1, c_2, c_4, c_5])
      exact L_41 (pw Q P) fF (Nat.le_refl _) (by simp [sCho, c_1, c_2, hch]) (by simp [fCho, c_1, c_2, hch]) _ _ hP hD hS ls (lv_sub hl [1, 2, 0] rfl)
    · skip
      refine lv_bipush (v := (-3)) hx hb dX3_choose_20 (by decide) ?_
      exact mu_ret hx hb hr hlocks dX3_choose_22 (by simpa [fCho, c_1, eq_true c_2] using hP) hS (by simp [sCho, c_1, eq_true c_2])
  · skip
    refine lv_bipush (v := (-2)) hx hb dX3_choose_7 (by decide) ?_
    exact mu_ret hx hb hr hlocks dX3_choose_9 (by simpa [fCho, eq_true c_1] using hP) hS (by simp [sCho, eq_true c_1])

set_option maxRecDepth 20000 in
theorem hi_X3_sum_X1 : ∀ w ∈ wsX10, w ∈ wsX3_sum := by
  intro w h
  unfold wsX3_sum
  simp only [List.mem_cons, List.mem_append, h, or_true, true_or]
set_option maxRecDepth 20000 in
theorem hi_X3_sum_X2 : ∀ w ∈ wsX20, w ∈ wsX3_sum := by
  intro w h
  unfold wsX3_sum
  simp only [List.mem_cons, List.mem_append, h, or_true, true_or]
set_option maxRecDepth 20000 in
theorem hi_X3_sum_X3 : ∀ w ∈ wsX30, w ∈ wsX3_sum := by
  intro w h
  unfold wsX3_sum
  simp only [List.mem_cons, List.mem_append, h, or_true, true_or]
theorem nd_X3_sum : okName yX3_sum 3 := by decide +kernel
set_option maxHeartbeats 4000000 in
set_option maxRecDepth 100000 in
theorem k_X3_sum (l : Launch) (D : va_G) (cI cZ : ClassId) (aS : Nat) (aM : Nat) (aR : Nat) (aJ : Nat) (aF : Nat) (aG : Nat) (aI : Nat) (Q : Nat) (P : Nat) (M : Nat) (Wd : Nat) (aN : Nat) (fF : Nat → Int32) (a : Int32) (h : Int32) (i : Int32) (hv : MV Q P M Wd) : MU l yX3_sum wsX3_sum ({ frames := 5, cells := 0, slots := 0, locals := 112 } : Room) D cI cZ [(aS, .inr (3, [.ref aM, .ref aR, .ref aJ, .ref aF, .ref aG, .ref aI])), (aM, .inr (1, [.int (nI Q), .int (nI P), .int (nI M), .int (nI Wd), .int (nI (tT Q P)), .int (nI (tN Q P))])), (aR, .inr (2, [.ref aN, .int (nI (dgN (tN Q P))), .int (nI (tN Q P))])), (aN, .inl (cI, 49, .inl (cyR (tN Q P)))), (aF, .inl (cI, 48, .inl fF))] [.ref aS, .int a, .int h, .int i] (some (.int (sSum Q P M Wd a h i))) [(aS, .inr (3, [.ref aM, .ref aR, .ref aJ, .ref aF, .ref aG, .ref aI])), (aM, .inr (1, [.int (nI Q), .int (nI P), .int (nI M), .int (nI Wd), .int (nI (tT Q P)), .int (nI (tN Q P))])), (aR, .inr (2, [.ref aN, .int (nI (dgN (tN Q P))), .int (nI (tN Q P))])), (aN, .inl (cI, 49, .inl (cyR (tN Q P)))), (aF, .inl (cI, 48, .inl (fSum Q P M Wd a h i fF)))] := by
  refine mu_start (by decide) rfl (Nat.le_of_ble_eq_true rfl) ?_
  intro p e s m args below meth c hx hb hr hml hlocks hts hown hT hP hD hS ls hl
  have hown : s.vm.findClass RX3 = some m.cls := hown
  have hl : lv_has ls 4 [(0, .ref aS), (1, .int a), (2, .int h), (3, .int i)] := hl
  have hv' := hv
  unfold MV at hv'
  have hd0 := dg_pos (tN Q P) (tN_pos hv) (tN_le hv)
  have hd1 := dg_le (tN Q P)
  have hn0 := tN_pos hv
  have hn1 := tN_le hv
  refine lv_aload_n hx hb dX3_sum_0 rfl (lv_at hl 0 rfl) ?_
  refine lv_iload_n hx hb dX3_sum_1 rfl (lv_at hl 1 rfl) ?_
  refine ro_V (As := [.int a]) (rest := []) ⟨hx, hb, hml, hown, hts⟩ hT hP (k_X3_isPhase l D cI cZ aS aM aR aJ aF aG aI Q P M Wd a) gX3_sum_X3_isPhase rfl rfl nd_X3_isPhase [0, 1] rfl (ci := 3) rfl rfl (q0 := 0) rfl hl.1 rfl rfl (Nat.le_of_ble_eq_true rfl) ⟨Nat.le_of_ble_eq_true rfl, Nat.le_of_ble_eq_true rfl⟩ ⟨rfl, rfl⟩ ⟨Nat.zero_le _, Nat.zero_le _⟩ dX3_sum_2 ?_
  refine lv_if_ne (tgt := 11) hx hb dX3_sum_5 (by decide) (fun c_1 => ?_) (fun c_1 => ?_)
  · skip
    refine lv_iload_n hx hb dX3_sum_11 rfl (lv_at hl 2 rfl) ?_
    refine ro_S (As := [.int h]) (rest := []) ⟨hx, hb, hml, hown, hts⟩ hT hP (k_X3_isWave l D cI cZ h) gX3_sum_X3_isWave rfl nd_X3_isWave [] rfl hl.1 rfl rfl (Nat.le_of_ble_eq_true rfl) ⟨Nat.le_of_ble_eq_true rfl, Nat.le_of_ble_eq_true rfl⟩ ⟨rfl, rfl⟩ ⟨Nat.zero_le _, Nat.zero_le _⟩ dX3_sum_12 ?_
    refine lv_if_eq (tgt := 35) hx hb dX3_sum_15 (by decide) (fun c_2 => ?_) (fun c_2 => ?_)
    · skip
      refine lv_ldc (v := (-100002)) hx hb hown (hts (.constant RX3 129 (-100002)) (List.mem_of_getElem? (i := 4) rfl)) dX3_sum_35 ?_
      exact mu_ret hx hb hr hlocks dX3_sum_37 (by simpa [fSum, c_1, eq_true c_2] using hP) hS (by simp [sSum, c_1, eq_true c_2])
    · skip
      obtain ⟨h2, hh2, rfl⟩ := jIn_nat 1 99 (by decide) c_2
      have hch : cl (nI h2) = h2 := cl_nI (by omega)
      refine lv_iload_n hx hb dX3_sum_18 rfl (lv_at hl 3 rfl) ?_
      refine lv_iconst (v := 0) hx hb dX3_sum_19 (by decide) ?_
      refine lv_aload_n hx hb dX3_sum_20 rfl (lv_at hl 0 rfl) ?_
      refine va_get (D := D) (ci := 3) (v := .ref aR) (C := RX3) (T := TX3) (N := 6) hx hb hts hi_X3_sum_X3 hown hT.1 hP 0 rfl rfl 1 (by decide) (hts (.fieldLink RX3 19 "SlotStar" "root" "LSlotStar$Root;") (List.mem_of_getElem? (i := 2) rfl)) (fun _ h9 => h9) rfl dX3_sum_21 ?_
      refine va_get (D := D) (ci := 2) (v := .int (nI (dgN (tN Q P)))) (C := RX2) (T := TX2) (N := 3) hx hb hts hi_X3_sum_X2 hown hT.1 hP 2 rfl rfl 1 (by decide) (hts (.fieldLink RX3 115 "SlotStar$Root" "degree" "I") (List.mem_of_getElem? (i := 3) rfl)) (fun _ h9 => h9) rfl dX3_sum_24 ?_
      refine lv_iconst (v := 1) hx hb dX3_sum_27 (by decide) ?_
      refine lv_isub hx hb dX3_sum_28 ?_
      refine ro_S (As := [.int i, .int 0, .int ((nI (dgN (tN Q P))) - 1)]) (rest := []) ⟨hx, hb, hml, hown, hts⟩ hT hP (k_X3_isWithin l D cI cZ i 0 ((nI (dgN (tN Q P))) - 1)) gX3_sum_X3_isWithin rfl nd_X3_isWithin [] rfl hl.1 rfl rfl (Nat.le_of_ble_eq_true rfl) ⟨Nat.le_of_ble_eq_true rfl, Nat.le_of_ble_eq_true rfl⟩ ⟨rfl, rfl⟩ ⟨Nat.zero_le _, Nat.zero_le _⟩ dX3_sum_29 ?_
      refine lv_if_ne (tgt := 38) hx hb dX3_sum_32 (by decide) (fun c_3 => ?_) (fun c_3 => ?_)
      · skip
        obtain ⟨i2, hi2, rfl⟩ := jIn_sl (by omega) c_3
        have hci : cl (nI i2) = i2 := cl_nI (by omega)
        refine lv_aload_n hx hb dX3_sum_38 rfl (lv_at hl 0 rfl) ?_
        refine va_get (D := D) (ci := 3) (v := .ref aM) (C := RX3) (T := TX3) (N := 6) hx hb hts hi_X3_sum_X3 hown hT.1 hP 0 rfl rfl 0 (by decide) (hts (.fieldLink RX3 10 "SlotStar" "star" "LSlotStar$Machine;") (List.mem_of_getElem? (i := 5) rfl)) (fun _ h9 => h9) rfl dX3_sum_39 ?_
        refine ro_V (As := []) (rest := []) ⟨hx, hb, hml, hown, hts⟩ hT hP (k_X1_isBalanced l D cI cZ aM Q P M Wd hv) gX3_sum_X1_isBalanced rfl rfl nd_X1_isBalanced [1] rfl (ci := 1) rfl rfl (q0 := 1) rfl hl.1 rfl rfl (Nat.le_of_ble_eq_true rfl) ⟨Nat.le_of_ble_eq_true rfl, Nat.le_of_ble_eq_true rfl⟩ ⟨rfl, rfl⟩ ⟨Nat.zero_le _, Nat.zero_le _⟩ dX3_sum_42 ?_
        refine lv_if_ne (tgt := 51) hx hb dX3_sum_45 (by decide) (fun c_4 => ?_) (fun c_4 => ?_)
        · skip
          refine lv_aload_n hx hb dX3_sum_51 rfl (lv_at hl 0 rfl) ?_
          refine lv_aload_n hx hb dX3_sum_52 rfl (lv_at hl 0 rfl) ?_
          refine va_get (D := D) (ci := 3) (v := .ref aF) (C := RX3) (T := TX3) (N := 6) hx hb hts hi_X3_sum_X3 hown hT.1 hP 0 rfl rfl 3 (by decide) (hts (.fieldLink RX3 30 "SlotStar" "first" "[I") (List.mem_of_getElem? (i := 7) rfl)) (fun _ h9 => h9) rfl dX3_sum_53 ?_
          refine lv_iload_n hx hb dX3_sum_56 rfl (lv_at hl 1 rfl) ?_
          refine lv_iload_n hx hb dX3_sum_57 rfl (lv_at hl 2 rfl) ?_
          refine lv_aload_n hx hb dX3_sum_58 rfl (lv_at hl 0 rfl) ?_
          refine va_get (D := D) (ci := 3) (v := .ref aM) (C := RX3) (T := TX3) (N := 6) hx hb hts hi_X3_sum_X3 hown hT.1 hP 0 rfl rfl 0 (by decide) (hts (.fieldLink RX3 10 "SlotStar" "star" "LSlotStar$Machine;") (List.mem_of_getElem? (i := 5) rfl)) (fun _ h9 => h9) rfl dX3_sum_59 ?_
          refine va_get (D := D) (ci := 1) (v := .int (nI Wd)) (C := RX1) (T := TX1) (N := 6) hx hb hts hi_X3_sum_X1 hown hT.1 hP 1 rfl rfl 3 (by decide) (hts (.fieldLink RX3 59 "SlotStar$Machine" "width" "I") (List.mem_of_getElem? (i := 8) rfl)) (fun _ h9 => h9) rfl dX3_sum_62 ?_
          refine mu_V (As := [.ref aF, .int a, .int (nI h2), .int (nI Wd)]) (rest := []) (W1 := [(aS, .inr (3, [.ref aM, .ref aR, .ref aJ, .ref aF, .ref aG, .ref aI])), (aM, .inr (1, [.int (nI Q), .int (nI P), .int (nI M), .int (nI Wd), .int (nI (tT Q P)), .int (nI (tN Q P))])), (aR, .inr (2, [.ref aN, .int (nI (dgN (tN Q P))), .int (nI (tN Q P))])), (aN, .inl (cI, 49, .inl (cyR (tN Q P)))), (aF, .inl (cI, 48, .inl (adR Q P M a h2 Wd)))]) (st1 := []) ⟨hx, hb, hml, hown, hts⟩ hT hP hD hS (k_X3_addUp l D cI cZ aS aM aR aJ aF aG aI Q P M Wd aN aF fF a h2 Wd hv (by omega) (by omega)) gX3_sum_X3_addUp rfl rfl nd_X3_addUp [0, 1, 2, 3, 4] (by decide) rfl rfl rfl rfl (ci := 3) rfl rfl (q0 := 0) rfl hl.1 rfl rfl (Nat.le_of_ble_eq_true rfl) ⟨Nat.le_of_ble_eq_true rfl, Nat.le_of_ble_eq_true rfl⟩ ⟨rfl, rfl⟩ ⟨Nat.zero_le _, Nat.zero_le _⟩ dX3_sum_65 (fun H locs hP hD hS => ?_)
          refine lv_aload_n hx hb dX3_sum_68 rfl (lv_at hl 0 rfl) ?_
          refine va_get (D := D) (ci := 3) (v := .ref aF) (C := RX3) (T := TX3) (N := 6) hx hb hts hi_X3_sum_X3 hown hT.1 hP 0 rfl rfl 3 (by decide) (hts (.fieldLink RX3 30 "SlotStar" "first" "[I") (List.mem_of_getElem? (i := 7) rfl)) (fun _ h9 => h9) rfl dX3_sum_69 ?_
          refine lv_iload_n hx hb dX3_sum_72 rfl (lv_at hl 3 rfl) ?_
          refine ro_S (As := [.ref aF, .int (nI i2)]) (rest := []) ⟨hx, hb, hml, hown, hts⟩ hT hP (k_X3_at l D cI cZ aF 48 (adR Q P M a h2 Wd) i2 (by decide) (by omega)) gX3_sum_X3_at rfl nd_X3_at [4] rfl hl.1 rfl rfl (Nat.le_of_ble_eq_true rfl) ⟨Nat.le_of_ble_eq_true rfl, Nat.le_of_ble_eq_true rfl⟩ ⟨rfl, rfl⟩ ⟨Nat.zero_le _, Nat.zero_le _⟩ dX3_sum_73 ?_
          exact mu_ret hx hb hr hlocks dX3_sum_76 (by simpa [fSum, c_1, c_2, c_3, c_4, hch] using hP) hS (by simp [sSum, c_1, c_2, c_3, c_4, hch, hci])
        · skip
          refine lv_ldc (v := (-100003)) hx hb hown (hts (.constant RX3 130 (-100003)) (List.mem_of_getElem? (i := 6) rfl)) dX3_sum_48 ?_
          exact mu_ret hx hb hr hlocks dX3_sum_50 (by simpa [fSum, c_1, c_2, c_3, eq_true c_4] using hP) hS (by simp [sSum, c_1, c_2, c_3, eq_true c_4])
      · skip
        refine lv_ldc (v := (-100002)) hx hb hown (hts (.constant RX3 129 (-100002)) (List.mem_of_getElem? (i := 4) rfl)) dX3_sum_35 ?_
        exact mu_ret hx hb hr hlocks dX3_sum_37 (by simpa [fSum, c_1, c_2, eq_true c_3] using hP) hS (by simp [sSum, c_1, c_2, eq_true c_3])
  · skip
    refine lv_ldc (v := (-100001)) hx hb hown (hts (.constant RX3 125 (-100001)) (List.mem_of_getElem? (i := 1) rfl)) dX3_sum_8 ?_
    exact mu_ret hx hb hr hlocks dX3_sum_10 (by simpa [fSum, eq_true c_1] using hP) hS (by simp [sSum, eq_true c_1])

set_option maxRecDepth 20000 in
theorem hi_X3_turned_X1 : ∀ w ∈ wsX10, w ∈ wsX3_turned := by
  intro w h
  unfold wsX3_turned
  simp only [List.mem_cons, List.mem_append, h, or_true, true_or]
set_option maxRecDepth 20000 in
theorem hi_X3_turned_X3 : ∀ w ∈ wsX30, w ∈ wsX3_turned := by
  intro w h
  unfold wsX3_turned
  simp only [List.mem_cons, List.mem_append, h, or_true, true_or]
theorem nd_X3_turned : okName yX3_turned 3 := by decide +kernel
set_option maxHeartbeats 4000000 in
set_option maxRecDepth 100000 in
theorem k_X3_turned (l : Launch) (D : va_G) (cI cZ : ClassId) (aS : Nat) (aM : Nat) (aR : Nat) (aJ : Nat) (aF : Nat) (aG : Nat) (aI : Nat) (Q : Nat) (P : Nat) (M : Nat) (Wd : Nat) (aN : Nat) (fF : Nat → Int32) (fG : Nat → Int32) (a : Int32) (b : Int32) (h : Int32) (hv : MV Q P M Wd) : MU l yX3_turned wsX3_turned ({ frames := 5, cells := 0, slots := 0, locals := 112 } : Room) D cI cZ [(aS, .inr (3, [.ref aM, .ref aR, .ref aJ, .ref aF, .ref aG, .ref aI])), (aM, .inr (1, [.int (nI Q), .int (nI P), .int (nI M), .int (nI Wd), .int (nI (tT Q P)), .int (nI (tN Q P))])), (aR, .inr (2, [.ref aN, .int (nI (dgN (tN Q P))), .int (nI (tN Q P))])), (aN, .inl (cI, 49, .inl (cyR (tN Q P)))), (aF, .inl (cI, 48, .inl fF)), (aG, .inl (cI, 48, .inl fG))] [.ref aS, .int a, .int b, .int h] (some (.int (sTur Q P M Wd a b h))) [(aS, .inr (3, [.ref aM, .ref aR, .ref aJ, .ref aF, .ref aG, .ref aI])), (aM, .inr (1, [.int (nI Q), .int (nI P), .int (nI M), .int (nI Wd), .int (nI (tT Q P)), .int (nI (tN Q P))])), (aR, .inr (2, [.ref aN, .int (nI (dgN (tN Q P))), .int (nI (tN Q P))])), (aN, .inl (cI, 49, .inl (cyR (tN Q P)))), (aF, .inl (cI, 48, .inl (fTur Q P M Wd a b h fF))), (aG, .inl (cI, 48, .inl (gTur Q P M Wd a b h fG)))] := by
  refine mu_start (by decide) rfl (Nat.le_of_ble_eq_true rfl) ?_
  intro p e s m args below meth c hx hb hr hml hlocks hts hown hT hP hD hS ls hl
  have hown : s.vm.findClass RX3 = some m.cls := hown
  have hl : lv_has ls 5 [(0, .ref aS), (1, .int a), (2, .int b), (3, .int h)] := hl
  have hv' := hv
  unfold MV at hv'
  have hd0 := dg_pos (tN Q P) (tN_pos hv) (tN_le hv)
  have hd1 := dg_le (tN Q P)
  have hn0 := tN_pos hv
  have hn1 := tN_le hv
  refine lv_aload_n hx hb dX3_turned_0 rfl (lv_at hl 0 rfl) ?_
  refine lv_iload_n hx hb dX3_turned_1 rfl (lv_at hl 1 rfl) ?_
  refine ro_V (As := [.int a]) (rest := []) ⟨hx, hb, hml, hown, hts⟩ hT hP (k_X3_isPhase l D cI cZ aS aM aR aJ aF aG aI Q P M Wd a) gX3_turned_X3_isPhase rfl rfl nd_X3_isPhase [0, 1] rfl (ci := 3) rfl rfl (q0 := 0) rfl hl.1 rfl rfl (Nat.le_of_ble_eq_true rfl) ⟨Nat.le_of_ble_eq_true rfl, Nat.le_of_ble_eq_true rfl⟩ ⟨rfl, rfl⟩ ⟨Nat.zero_le _, Nat.zero_le _⟩ dX3_turned_2 ?_
  refine lv_if_eq (tgt := 16) hx hb dX3_turned_5 (by decide) (fun c_1 => ?_) (fun c_1 => ?_)
  · skip
    refine lv_iconst (v := (-1)) hx hb dX3_turned_16 (by decide) ?_
    exact mu_ret hx hb hr hlocks dX3_turned_17 (by simpa [fTur, gTur, eq_true c_1] using hP) hS (by simp [sTur, eq_true c_1])
  · skip
    refine lv_aload_n hx hb dX3_turned_8 rfl (lv_at hl 0 rfl) ?_
    refine lv_iload_n hx hb dX3_turned_9 rfl (lv_at hl 2 rfl) ?_
    refine ro_V (As := [.int b]) (rest := []) ⟨hx, hb, hml, hown, hts⟩ hT hP (k_X3_isPhase l D cI cZ aS aM aR aJ aF aG aI Q P M Wd b) gX3_turned_X3_isPhase rfl rfl nd_X3_isPhase [0, 1] rfl (ci := 3) rfl rfl (q0 := 0) rfl hl.1 rfl rfl (Nat.le_of_ble_eq_true rfl) ⟨Nat.le_of_ble_eq_true rfl, Nat.le_of_ble_eq_true rfl⟩ ⟨rfl, rfl⟩ ⟨Nat.zero_le _, Nat.zero_le _⟩ dX3_turned_10 ?_
    refine lv_if_ne (tgt := 18) hx hb dX3_turned_13 (by decide) (fun c_2 => ?_) (fun c_2 => ?_)
    · skip
      refine lv_iload_n hx hb dX3_turned_18 rfl (lv_at hl 3 rfl) ?_
      refine ro_S (As := [.int h]) (rest := []) ⟨hx, hb, hml, hown, hts⟩ hT hP (k_X3_isWave l D cI cZ h) gX3_turned_X3_isWave rfl nd_X3_isWave [] rfl hl.1 rfl rfl (Nat.le_of_ble_eq_true rfl) ⟨Nat.le_of_ble_eq_true rfl, Nat.le_of_ble_eq_true rfl⟩ ⟨rfl, rfl⟩ ⟨Nat.zero_le _, Nat.zero_le _⟩ dX3_turned_19 ?_
      refine lv_if_ne (tgt := 28) hx hb dX3_turned_22 (by decide) (fun c_3 => ?_) (fun c_3 => ?_)
      · skip
        obtain ⟨h2, hh2, rfl⟩ := jIn_nat 1 99 (by decide) c_3
        have hch : cl (nI h2) = h2 := cl_nI (by omega)
        refine lv_aload_n hx hb dX3_turned_28 rfl (lv_at hl 0 rfl) ?_
        refine va_get (D := D) (ci := 3) (v := .ref aM) (C := RX3) (T := TX3) (N := 6) hx hb hts hi_X3_turned_X3 hown hT.1 hP 0 rfl rfl 0 (by decide) (hts (.fieldLink RX3 10 "SlotStar" "star" "LSlotStar$Machine;") (List.mem_of_getElem? (i := 1) rfl)) (fun _ h9 => h9) rfl dX3_turned_29 ?_
        refine ro_V (As := []) (rest := []) ⟨hx, hb, hml, hown, hts⟩ hT hP (k_X1_isBalanced l D cI cZ aM Q P M Wd hv) gX3_turned_X1_isBalanced rfl rfl nd_X1_isBalanced [1] rfl (ci := 1) rfl rfl (q0 := 1) rfl hl.1 rfl rfl (Nat.le_of_ble_eq_true rfl) ⟨Nat.le_of_ble_eq_true rfl, Nat.le_of_ble_eq_true rfl⟩ ⟨rfl, rfl⟩ ⟨Nat.zero_le _, Nat.zero_le _⟩ dX3_turned_32 ?_
        refine lv_if_ne (tgt := 41) hx hb dX3_turned_35 (by decide) (fun c_4 => ?_) (fun c_4 => ?_)
        · skip
          refine lv_aload_n hx hb dX3_turned_41 rfl (lv_at hl 0 rfl) ?_
          refine lv_aload_n hx hb dX3_turned_42 rfl (lv_at hl 0 rfl) ?_
          refine va_get (D := D) (ci := 3) (v := .ref aF) (C := RX3) (T := TX3) (N := 6) hx hb hts hi_X3_turned_X3 hown hT.1 hP 0 rfl rfl 3 (by decide) (hts (.fieldLink RX3 30 "SlotStar" "first" "[I") (List.mem_of_getElem? (i := 2) rfl)) (fun _ h9 => h9) rfl dX3_turned_43 ?_
          refine lv_iload_n hx hb dX3_turned_46 rfl (lv_at hl 1 rfl) ?_
          refine lv_iload_n hx hb dX3_turned_47 rfl (lv_at hl 3 rfl) ?_
          refine lv_aload_n hx hb dX3_turned_48 rfl (lv_at hl 0 rfl) ?_
          refine va_get (D := D) (ci := 3) (v := .ref aM) (C := RX3) (T := TX3) (N := 6) hx hb hts hi_X3_turned_X3 hown hT.1 hP 0 rfl rfl 0 (by decide) (hts (.fieldLink RX3 10 "SlotStar" "star" "LSlotStar$Machine;") (List.mem_of_getElem? (i := 1) rfl)) (fun _ h9 => h9) rfl dX3_turned_49 ?_
          refine va_get (D := D) (ci := 1) (v := .int (nI Wd)) (C := RX1) (T := TX1) (N := 6) hx hb hts hi_X3_turned_X1 hown hT.1 hP 1 rfl rfl 3 (by decide) (hts (.fieldLink RX3 59 "SlotStar$Machine" "width" "I") (List.mem_of_getElem? (i := 3) rfl)) (fun _ h9 => h9) rfl dX3_turned_52 ?_
          refine mu_V (As := [.ref aF, .int a, .int (nI h2), .int (nI Wd)]) (rest := []) (W1 := [(aS, .inr (3, [.ref aM, .ref aR, .ref aJ, .ref aF, .ref aG, .ref aI])), (aM, .inr (1, [.int (nI Q), .int (nI P), .int (nI M), .int (nI Wd), .int (nI (tT Q P)), .int (nI (tN Q P))])), (aR, .inr (2, [.ref aN, .int (nI (dgN (tN Q P))), .int (nI (tN Q P))])), (aN, .inl (cI, 49, .inl (cyR (tN Q P)))), (aF, .inl (cI, 48, .inl (adR Q P M a h2 Wd))), (aG, .inl (cI, 48, .inl fG))]) (st1 := []) ⟨hx, hb, hml, hown, hts⟩ hT hP hD hS (k_X3_addUp l D cI cZ aS aM aR aJ aF aG aI Q P M Wd aN aF fF a h2 Wd hv (by omega) (by omega)) gX3_turned_X3_addUp rfl rfl nd_X3_addUp [0, 1, 2, 3, 4] (by decide) rfl rfl rfl rfl (ci := 3) rfl rfl (q0 := 0) rfl hl.1 rfl rfl (Nat.le_of_ble_eq_true rfl) ⟨Nat.le_of_ble_eq_true rfl, Nat.le_of_ble_eq_true rfl⟩ ⟨rfl, rfl⟩ ⟨Nat.zero_le _, Nat.zero_le _⟩ dX3_turned_55 (fun H locs hP hD hS => ?_)
          refine lv_aload_n hx hb dX3_turned_58 rfl (lv_at hl 0 rfl) ?_
          refine lv_aload_n hx hb dX3_turned_59 rfl (lv_at hl 0 rfl) ?_
          refine va_get (D := D) (ci := 3) (v := .ref aG) (C := RX3) (T := TX3) (N := 6) hx hb hts hi_X3_turned_X3 hown hT.1 hP 0 rfl rfl 4 (by decide) (hts (.fieldLink RX3 34 "SlotStar" "second" "[I") (List.mem_of_getElem? (i := 4) rfl)) (fun _ h9 => h9) rfl dX3_turned_60 ?_
          refine lv_iload_n hx hb dX3_turned_63 rfl (lv_at hl 2 rfl) ?_
          refine lv_iload_n hx hb dX3_turned_64 rfl (lv_at hl 3 rfl) ?_
          refine lv_aload_n hx hb dX3_turned_65 rfl (lv_at hl 0 rfl) ?_
          refine va_get (D := D) (ci := 3) (v := .ref aM) (C := RX3) (T := TX3) (N := 6) hx hb hts hi_X3_turned_X3 hown hT.1 hP 0 rfl rfl 0 (by decide) (hts (.fieldLink RX3 10 "SlotStar" "star" "LSlotStar$Machine;") (List.mem_of_getElem? (i := 1) rfl)) (fun _ h9 => h9) rfl dX3_turned_66 ?_
          refine va_get (D := D) (ci := 1) (v := .int (nI Wd)) (C := RX1) (T := TX1) (N := 6) hx hb hts hi_X3_turned_X1 hown hT.1 hP 1 rfl rfl 3 (by decide) (hts (.fieldLink RX3 59 "SlotStar$Machine" "width" "I") (List.mem_of_getElem? (i := 3) rfl)) (fun _ h9 => h9) rfl dX3_turned_69 ?_
          refine mu_V (As := [.ref aG, .int b, .int (nI h2), .int (nI Wd)]) (rest := []) (W1 := [(aS, .inr (3, [.ref aM, .ref aR, .ref aJ, .ref aF, .ref aG, .ref aI])), (aM, .inr (1, [.int (nI Q), .int (nI P), .int (nI M), .int (nI Wd), .int (nI (tT Q P)), .int (nI (tN Q P))])), (aR, .inr (2, [.ref aN, .int (nI (dgN (tN Q P))), .int (nI (tN Q P))])), (aN, .inl (cI, 49, .inl (cyR (tN Q P)))), (aF, .inl (cI, 48, .inl (adR Q P M a h2 Wd))), (aG, .inl (cI, 48, .inl (adR Q P M b h2 Wd)))]) (st1 := []) ⟨hx, hb, hml, hown, hts⟩ hT hP hD hS (k_X3_addUp l D cI cZ aS aM aR aJ aF aG aI Q P M Wd aN aG fG b h2 Wd hv (by omega) (by omega)) gX3_turned_X3_addUp rfl rfl nd_X3_addUp [0, 1, 2, 3, 5] (by decide) rfl rfl rfl rfl (ci := 3) rfl rfl (q0 := 0) rfl hl.1 rfl rfl (Nat.le_of_ble_eq_true rfl) ⟨Nat.le_of_ble_eq_true rfl, Nat.le_of_ble_eq_true rfl⟩ ⟨rfl, rfl⟩ ⟨Nat.zero_le _, Nat.zero_le _⟩ dX3_turned_72 (fun H locs hP hD hS => ?_)
          refine lv_iconst (v := 0) hx hb dX3_turned_75 (by decide) ?_
          refine lv_istore (lv' := [(4, .int 0), (0, .ref aS), (1, .int a), (2, .int b), (3, .int (nI h2))]) hx hb dX3_turned_76 hl (by decide) rfl (fun ls hl => ?_)
          have L_78 : ∀ (f : Nat) (i : Nat) (v : Nat → Int32), i + f = tN Q P → sTur Q P M Wd a b (nI h2) = tuL (tN Q P) (adR Q P M b h2 Wd) f i v → fTur Q P M Wd a b (nI h2) fF = tuR (tN Q P) (adR Q P M b h2 Wd) f v → gTur Q P M Wd a b (nI h2) fG = adR Q P M b h2 Wd → ∀ (H : Heap) (locs : List Loc), va_P D cls5 [(aS, .inr (3, [.ref aM, .ref aR, .ref aJ, .ref aF, .ref aG, .ref aI])), (aM, .inr (1, [.int (nI Q), .int (nI P), .int (nI M), .int (nI Wd), .int (nI (tT Q P)), .int (nI (tN Q P))])), (aR, .inr (2, [.ref aN, .int (nI (dgN (tN Q P))), .int (nI (tN Q P))])), (aN, .inl (cI, 49, .inl (cyR (tN Q P)))), (aF, .inl (cI, 48, .inl v)), (aG, .inl (cI, 48, .inl (adR Q P M b h2 Wd)))] H → va_D (va_M [(aS, .inr (3, [.ref aM, .ref aR, .ref aJ, .ref aF, .ref aG, .ref aI])), (aM, .inr (1, [.int (nI Q), .int (nI P), .int (nI M), .int (nI Wd), .int (nI (tT Q P)), .int (nI (tN Q P))])), (aR, .inr (2, [.ref aN, .int (nI (dgN (tN Q P))), .int (nI (tN Q P))])), (aN, .inl (cI, 49, .inl (cyR (tN Q P)))), (aF, .inl (cI, 48, .inl fF)), (aG, .inl (cI, 48, .inl fG))]) [(aS, .inr (3, [.ref aM, .ref aR, .ref aJ, .ref aF, .ref aG, .ref aI])), (aM, .inr (1, [.int (nI Q), .int (nI P), .int (nI M), .int (nI Wd), .int (nI (tT Q P)), .int (nI (tN Q P))])), (aR, .inr (2, [.ref aN, .int (nI (dgN (tN Q P))), .int (nI (tN Q P))])), (aN, .inl (cI, 49, .inl (cyR (tN Q P)))), (aF, .inl (cI, 48, .inl v)), (aG, .inl (cI, 48, .inl (adR Q P M b h2 Wd)))] → va_S (va_M [(aS, .inr (3, [.ref aM, .ref aR, .ref aJ, .ref aF, .ref aG, .ref aI])), (aM, .inr (1, [.int (nI Q), .int (nI P), .int (nI M), .int (nI Wd), .int (nI (tT Q P)), .int (nI (tN Q P))])), (aR, .inr (2, [.ref aN, .int (nI (dgN (tN Q P))), .int (nI (tN Q P))])), (aN, .inl (cI, 49, .inl (cyR (tN Q P)))), (aF, .inl (cI, 48, .inl fF)), (aG, .inl (cI, 48, .inl fG))]) s.heap H locs → ∀ ls : Array Slot, lv_has ls 5 [(0, .ref aS), (1, .int a), (2, .int b), (3, .int (nI h2)), (4, .int (nI i))] → W p l e (headSpec wsX3_turned ({ frames := 5, cells := 0, slots := 0, locals := 112 } : Room)).room s m args below meth c H locs 0 0 (MQ below (QcM D [(aS, .inr (3, [.ref aM, .ref aR, .ref aJ, .ref aF, .ref aG, .ref aI])), (aM, .inr (1, [.int (nI Q), .int (nI P), .int (nI M), .int (nI Wd), .int (nI (tT Q P)), .int (nI (tN Q P))])), (aR, .inr (2, [.ref aN, .int (nI (dgN (tN Q P))), .int (nI (tN Q P))])), (aN, .inl (cI, 49, .inl (cyR (tN Q P)))), (aF, .inl (cI, 48, .inl fF)), (aG, .inl (cI, 48, .inl fG))] [(aS, .inr (3, [.ref aM, .ref aR, .ref aJ, .ref aF, .ref aG, .ref aI])), (aM, .inr (1, [.int (nI Q), .int (nI P), .int (nI M), .int (nI Wd), .int (nI (tT Q P)), .int (nI (tN Q P))])), (aR, .inr (2, [.ref aN, .int (nI (dgN (tN Q P))), .int (nI (tN Q P))])), (aN, .inl (cI, 49, .inl (cyR (tN Q P)))), (aF, .inl (cI, 48, .inl (fTur Q P M Wd a b (nI h2) fF))), (aG, .inl (cI, 48, .inl (gTur Q P M Wd a b (nI h2) fG)))] (some (.int (sTur Q P M Wd a b (nI h2))))) args s 0 0 (va_M [(aS, .inr (3, [.ref aM, .ref aR, .ref aJ, .ref aF, .ref aG, .ref aI])), (aM, .inr (1, [.int (nI Q), .int (nI P), .int (nI M), .int (nI Wd), .int (nI (tT Q P)), .int (nI (tN Q P))])), (aR, .inr (2, [.ref aN, .int (nI (dgN (tN Q P))), .int (nI (tN Q P))])), (aN, .inl (cI, 49, .inl (cyR (tN Q P)))), (aF, .inl (cI, 48, .inl fF)), (aG, .inl (cI, 48, .inl fG))])) (F0 m 78 ls []) := by
            intro f
            induction f with
            | zero =>
              intro i v h1 e1 e2 e3 H locs hP hD hS ls hl
              refine lv_iload hx hb dX3_turned_78 (lv_at hl 4 rfl) ?_
              refine lv_aload_n hx hb dX3_turned_80 rfl (lv_at hl 0 rfl) ?_
              refine va_get (D := D) (ci := 3) (v := .ref aM) (C := RX3) (T := TX3) (N := 6) hx hb hts hi_X3_turned_X3 hown hT.1 hP 0 rfl rfl 0 (by decide) (hts (.fieldLink RX3 10 "SlotStar" "star" "LSlotStar$Machine;") (List.mem_of_getElem? (i := 1) rfl)) (fun _ h9 => h9) rfl dX3_turned_81 ?_
              refine va_get (D := D) (ci := 1) (v := .int (nI (tN Q P))) (C := RX1) (T := TX1) (N := 6) hx hb hts hi_X3_turned_X1 hown hT.1 hP 1 rfl rfl 5 (by decide) (hts (.fieldLink RX3 52 "SlotStar$Machine" "turns" "I") (List.mem_of_getElem? (i := 5) rfl)) (fun _ h9 => h9) rfl dX3_turned_84 ?_
              refine lv_icmp_ge (tgt := 128) hx hb dX3_turned_87 (by decide) (fun c_5 => ?_) (fun c_5 => ?_)
              · skip
                refine lv_bipush (v := (-6)) hx hb dX3_turned_128 (by decide) ?_
                exact mu_ret hx hb hr hlocks dX3_turned_130 (by rw [e2, e3]; exact hP) hS (by rw [e1]; rfl)
              · exfalso; exact c_5 (nI_le (by omega) (by omega))
            | succ f ih_78 =>
              intro i v h1 e1 e2 e3 H locs hP hD hS ls hl
              refine lv_iload hx hb dX3_turned_78 (lv_at hl 4 rfl) ?_
              refine lv_aload_n hx hb dX3_turned_80 rfl (lv_at hl 0 rfl) ?_
              refine va_get (D := D) (ci := 3) (v := .ref aM) (C := RX3) (T := TX3) (N := 6) hx hb hts hi_X3_turned_X3 hown hT.1 hP 0 rfl rfl 0 (by decide) (hts (.fieldLink RX3 10 "SlotStar" "star" "LSlotStar$Machine;") (List.mem_of_getElem? (i := 1) rfl)) (fun _ h9 => h9) rfl dX3_turned_81 ?_
              refine va_get (D := D) (ci := 1) (v := .int (nI (tN Q P))) (C := RX1) (T := TX1) (N := 6) hx hb hts hi_X3_turned_X1 hown hT.1 hP 1 rfl rfl 5 (by decide) (hts (.fieldLink RX3 52 "SlotStar$Machine" "turns" "I") (List.mem_of_getElem? (i := 5) rfl)) (fun _ h9 => h9) rfl dX3_turned_84 ?_
              refine lv_icmp_ge (tgt := 128) hx hb dX3_turned_87 (by decide) (fun c_6 => ?_) (fun c_6 => ?_)
              · exfalso; exact nI_ge (show i < tN Q P by omega) (by omega) c_6
              · skip
                refine lv_aload_n hx hb dX3_turned_90 rfl (lv_at hl 0 rfl) ?_
                refine va_get (D := D) (ci := 3) (v := .ref aR) (C := RX3) (T := TX3) (N := 6) hx hb hts hi_X3_turned_X3 hown hT.1 hP 0 rfl rfl 1 (by decide) (hts (.fieldLink RX3 19 "SlotStar" "root" "LSlotStar$Root;") (List.mem_of_getElem? (i := 6) rfl)) (fun _ h9 => h9) rfl dX3_turned_91 ?_
                refine lv_aload_n hx hb dX3_turned_94 rfl (lv_at hl 0 rfl) ?_
                refine va_get (D := D) (ci := 3) (v := .ref aF) (C := RX3) (T := TX3) (N := 6) hx hb hts hi_X3_turned_X3 hown hT.1 hP 0 rfl rfl 3 (by decide) (hts (.fieldLink RX3 30 "SlotStar" "first" "[I") (List.mem_of_getElem? (i := 2) rfl)) (fun _ h9 => h9) rfl dX3_turned_95 ?_
                refine lv_aload_n hx hb dX3_turned_98 rfl (lv_at hl 0 rfl) ?_
                refine va_get (D := D) (ci := 3) (v := .ref aG) (C := RX3) (T := TX3) (N := 6) hx hb hts hi_X3_turned_X3 hown hT.1 hP 0 rfl rfl 4 (by decide) (hts (.fieldLink RX3 34 "SlotStar" "second" "[I") (List.mem_of_getElem? (i := 4) rfl)) (fun _ h9 => h9) rfl dX3_turned_99 ?_
                refine ro_V (As := [.ref aF, .ref aG]) (rest := []) ⟨hx, hb, hml, hown, hts⟩ hT hP (k_X2_areSame l D cI cZ aR aN (dgN (tN Q P)) (tN Q P) aF v aG (adR Q P M b h2 Wd) (by omega)) gX3_turned_X2_areSame rfl rfl nd_X2_areSame [2, 4, 5] rfl (ci := 2) rfl rfl (q0 := 2) rfl hl.1 rfl rfl (Nat.le_of_ble_eq_true rfl) ⟨Nat.le_of_ble_eq_true rfl, Nat.le_of_ble_eq_true rfl⟩ ⟨rfl, rfl⟩ ⟨Nat.zero_le _, Nat.zero_le _⟩ dX3_turned_102 ?_
                refine lv_if_eq (tgt := 111) hx hb dX3_turned_105 (by decide) (fun c_7 => ?_) (fun c_7 => ?_)
                · skip
                  refine lv_aload_n hx hb dX3_turned_111 rfl (lv_at hl 0 rfl) ?_
                  refine va_get (D := D) (ci := 3) (v := .ref aR) (C := RX3) (T := TX3) (N := 6) hx hb hts hi_X3_turned_X3 hown hT.1 hP 0 rfl rfl 1 (by decide) (hts (.fieldLink RX3 19 "SlotStar" "root" "LSlotStar$Root;") (List.mem_of_getElem? (i := 6) rfl)) (fun _ h9 => h9) rfl dX3_turned_112 ?_
                  refine lv_aload_n hx hb dX3_turned_115 rfl (lv_at hl 0 rfl) ?_
                  refine va_get (D := D) (ci := 3) (v := .ref aF) (C := RX3) (T := TX3) (N := 6) hx hb hts hi_X3_turned_X3 hown hT.1 hP 0 rfl rfl 3 (by decide) (hts (.fieldLink RX3 30 "SlotStar" "first" "[I") (List.mem_of_getElem? (i := 2) rfl)) (fun _ h9 => h9) rfl dX3_turned_116 ?_
                  refine mu_V (As := [.ref aF]) (rest := []) (W1 := [(aS, .inr (3, [.ref aM, .ref aR, .ref aJ, .ref aF, .ref aG, .ref aI])), (aM, .inr (1, [.int (nI Q), .int (nI P), .int (nI M), .int (nI Wd), .int (nI (tT Q P)), .int (nI (tN Q P))])), (aR, .inr (2, [.ref aN, .int (nI (dgN (tN Q P))), .int (nI (tN Q P))])), (aN, .inl (cI, 49, .inl (cyR (tN Q P)))), (aF, .inl (cI, 48, .inl (rmx (cyR (tN Q P)) (dgN (tN Q P)) v))), (aG, .inl (cI, 48, .inl (adR Q P M b h2 Wd)))]) (st1 := []) ⟨hx, hb, hml, hown, hts⟩ hT hP hD hS (k_X2_multiplyByX l D cI cZ aR aN (dgN (tN Q P)) (tN Q P) (cyR (tN Q P)) aF v hd0 hd1 hn1 (by omega)) gX3_turned_X2_multiplyByX rfl rfl nd_X2_multiplyByX [2, 3, 4] (by decide) rfl rfl rfl rfl (ci := 2) rfl rfl (q0 := 2) rfl hl.1 rfl rfl (Nat.le_of_ble_eq_true rfl) ⟨Nat.le_of_ble_eq_true rfl, Nat.le_of_ble_eq_true rfl⟩ ⟨rfl, rfl⟩ ⟨Nat.zero_le _, Nat.zero_le _⟩ dX3_turned_119 (fun H locs hP hD hS => ?_)
                  refine lv_iinc (v := nI (i + 1)) (lv' := [(4, .int (nI (i + 1))), (0, .ref aS), (1, .int a), (2, .int b), (3, .int (nI h2))]) hx hb dX3_turned_122 hl (k := 4) rfl ((nI_succ i).symm) (by decide) rfl (fun ls hl => ?_)
                  refine lv_goto (tgt := 78) hx hb dX3_turned_125 (by decide) ?_
                  exact ih_78 (i + 1) _ (by omega) (by rw [e1]; simp [tuL, c_1, c_2, c_3, c_4, c_6, eq_true c_7]) (by rw [e2]; simp [tuR, c_1, c_2, c_3, c_4, c_6, eq_true c_7]) e3 _ _ hP hD hS ls (lv_sub hl [1, 2, 3, 4, 0] rfl)
                · skip
                  refine lv_iload hx hb dX3_turned_108 (lv_at hl 4 rfl) ?_
                  exact mu_ret hx hb hr hlocks dX3_turned_110 (by rw [e2, e3]; simpa [tuR, c_1, c_2, c_3, c_4, c_6, c_7] using hP) hS (by rw [e1]; simp [tuL, c_1, c_2, c_3, c_4, c_6, c_7])
          exact L_78 (tN Q P) 0 _ (by omega) (by simp [sTur, c_1, c_2, c_3, c_4, hch]) (by simp [fTur, c_1, c_2, c_3, c_4, hch]) (by simp [gTur, c_1, c_2, c_3, c_4, hch]) _ _ hP hD hS ls (lv_sub hl [1, 2, 3, 4, 0] rfl)
        · skip
          refine lv_bipush (v := (-3)) hx hb dX3_turned_38 (by decide) ?_
          exact mu_ret hx hb hr hlocks dX3_turned_40 (by simpa [fTur, gTur, c_1, c_2, c_3, eq_true c_4] using hP) hS (by simp [sTur, c_1, c_2, c_3, eq_true c_4])
      · skip
        refine lv_bipush (v := (-2)) hx hb dX3_turned_25 (by decide) ?_
        exact mu_ret hx hb hr hlocks dX3_turned_27 (by simpa [fTur, gTur, c_1, c_2, eq_true c_3] using hP) hS (by simp [sTur, c_1, c_2, eq_true c_3])
    · skip
      refine lv_iconst (v := (-1)) hx hb dX3_turned_16 (by decide) ?_
      exact mu_ret hx hb hr hlocks dX3_turned_17 (by simpa [fTur, gTur, c_1, eq_true c_2] using hP) hS (by simp [sTur, c_1, eq_true c_2])

set_option maxRecDepth 20000 in
theorem hi_X3_joined_X0 : ∀ w ∈ wsX00, w ∈ wsX3_joined := by
  intro w h
  unfold wsX3_joined
  simp only [List.mem_cons, List.mem_append, h, or_true, true_or]
set_option maxRecDepth 20000 in
theorem hi_X3_joined_X3 : ∀ w ∈ wsX30, w ∈ wsX3_joined := by
  intro w h
  unfold wsX3_joined
  simp only [List.mem_cons, List.mem_append, h, or_true, true_or]
theorem nd_X3_joined : okName yX3_joined 2 := by decide +kernel
set_option maxHeartbeats 4000000 in
set_option maxRecDepth 100000 in
theorem k_X3_joined (l : Launch) (D : va_G) (cI cZ : ClassId) (aS : Nat) (aM : Nat) (aR : Nat) (aJ : Nat) (aF : Nat) (aG : Nat) (aI : Nat) (Q : Nat) (P : Nat) (M : Nat) (Wd : Nat) (aU : Nat) (aV : Nat) (fw : Nat) (sh : Nat) (wy : Nat) (bk : Nat) (fU : Nat → Int32) (fV : Nat → Int32) (a : Int32) (what : Int32) (hv : MV Q P M Wd) : MU l yX3_joined wsX3_joined ({ frames := 6, cells := 0, slots := 0, locals := 133 } : Room) D cI cZ [(aS, .inr (3, [.ref aM, .ref aR, .ref aJ, .ref aF, .ref aG, .ref aI])), (aM, .inr (1, [.int (nI Q), .int (nI P), .int (nI M), .int (nI Wd), .int (nI (tT Q P)), .int (nI (tN Q P))])), (aJ, .inr (0, [.int (nI fw), .int (nI sh), .int (nI wy), .int (nI bk), .ref aU, .ref aV])), (aU, .inl (cI, 48, .inl fU)), (aV, .inl (cI, 48, .inl fV))] [.ref aS, .int a, .int what] (some (.int (sJoi Q P M a what))) [(aS, .inr (3, [.ref aM, .ref aR, .ref aJ, .ref aF, .ref aG, .ref aI])), (aM, .inr (1, [.int (nI Q), .int (nI P), .int (nI M), .int (nI Wd), .int (nI (tT Q P)), .int (nI (tN Q P))])), (aJ, .inr (0, [.int (nI (jF Q P M a what (fwN Q P M a) fw)), .int (nI (jF Q P M a what (if fwN Q P M a = bkN Q P M a then (joS Q P M a).1 else sh) sh)), .int (nI (jF Q P M a what (if fwN Q P M a = bkN Q P M a then (joS Q P M a).2 else wy) wy)), .int (nI (jF Q P M a what (bkN Q P M a) bk)), .ref aU, .ref aV])), (aU, .inl (cI, 48, .inl (jG Q P M a what (clS Q P M a fU fV).2.2.1 fU))), (aV, .inl (cI, 48, .inl (jG Q P M a what (clS Q P M a fU fV).2.2.2 fV)))] := by
  refine mu_start (by decide) rfl (Nat.le_of_ble_eq_true rfl) ?_
  intro p e s m args below meth c hx hb hr hml hlocks hts hown hT hP hD hS ls hl
  have hown : s.vm.findClass RX3 = some m.cls := hown
  have hl : lv_has ls 3 [(0, .ref aS), (1, .int a), (2, .int what)] := hl
  refine lv_aload_n hx hb dX3_joined_0 rfl (lv_at hl 0 rfl) ?_
  refine lv_iload_n hx hb dX3_joined_1 rfl (lv_at hl 1 rfl) ?_
  refine ro_V (As := [.int a]) (rest := []) ⟨hx, hb, hml, hown, hts⟩ hT hP (k_X3_isPhase l D cI cZ aS aM aR aJ aF aG aI Q P M Wd a) gX3_joined_X3_isPhase rfl rfl nd_X3_isPhase [0, 1] rfl (ci := 3) rfl rfl (q0 := 0) rfl hl.1 rfl rfl (Nat.le_of_ble_eq_true rfl) ⟨Nat.le_of_ble_eq_true rfl, Nat.le_of_ble_eq_true rfl⟩ ⟨rfl, rfl⟩ ⟨Nat.zero_le _, Nat.zero_le _⟩ dX3_joined_2 ?_
  refine lv_if_ne (tgt := 10) hx hb dX3_joined_5 (by decide) (fun c_1 => ?_) (fun c_1 => ?_)
  · skip
    refine lv_iload_n hx hb dX3_joined_10 rfl (lv_at hl 2 rfl) ?_
    refine lv_iconst (v := 0) hx hb dX3_joined_11 (by decide) ?_
    refine lv_iconst (v := 2) hx hb dX3_joined_12 (by decide) ?_
    refine ro_S (As := [.int what, .int 0, .int 2]) (rest := []) ⟨hx, hb, hml, hown, hts⟩ hT hP (k_X3_isWithin l D cI cZ what 0 2) gX3_joined_X3_isWithin rfl nd_X3_isWithin [] rfl hl.1 rfl rfl (Nat.le_of_ble_eq_true rfl) ⟨Nat.le_of_ble_eq_true rfl, Nat.le_of_ble_eq_true rfl⟩ ⟨rfl, rfl⟩ ⟨Nat.zero_le _, Nat.zero_le _⟩ dX3_joined_13 ?_
    refine lv_if_ne (tgt := 22) hx hb dX3_joined_16 (by decide) (fun c_2 => ?_) (fun c_2 => ?_)
    · skip
      refine lv_aload_n hx hb dX3_joined_22 rfl (lv_at hl 0 rfl) ?_
      refine va_get (D := D) (ci := 3) (v := .ref aM) (C := RX3) (T := TX3) (N := 6) hx hb hts hi_X3_joined_X3 hown hT.1 hP 0 rfl rfl 0 (by decide) (hts (.fieldLink RX3 10 "SlotStar" "star" "LSlotStar$Machine;") (List.mem_of_getElem? (i := 1) rfl)) (fun _ h9 => h9) rfl dX3_joined_23 ?_
      refine ro_V (As := []) (rest := []) ⟨hx, hb, hml, hown, hts⟩ hT hP (k_X1_isBalanced l D cI cZ aM Q P M Wd hv) gX3_joined_X1_isBalanced rfl rfl nd_X1_isBalanced [1] rfl (ci := 1) rfl rfl (q0 := 1) rfl hl.1 rfl rfl (Nat.le_of_ble_eq_true rfl) ⟨Nat.le_of_ble_eq_true rfl, Nat.le_of_ble_eq_true rfl⟩ ⟨rfl, rfl⟩ ⟨Nat.zero_le _, Nat.zero_le _⟩ dX3_joined_26 ?_
      refine lv_if_ne (tgt := 35) hx hb dX3_joined_29 (by decide) (fun c_3 => ?_) (fun c_3 => ?_)
      · skip
        refine lv_aload_n hx hb dX3_joined_35 rfl (lv_at hl 0 rfl) ?_
        refine va_get (D := D) (ci := 3) (v := .ref aJ) (C := RX3) (T := TX3) (N := 6) hx hb hts hi_X3_joined_X3 hown hT.1 hP 0 rfl rfl 2 (by decide) (hts (.fieldLink RX3 26 "SlotStar" "joint" "LSlotStar$Joint;") (List.mem_of_getElem? (i := 2) rfl)) (fun _ h9 => h9) rfl dX3_joined_36 ?_
        refine lv_aload_n hx hb dX3_joined_39 rfl (lv_at hl 0 rfl) ?_
        refine va_get (D := D) (ci := 3) (v := .ref aM) (C := RX3) (T := TX3) (N := 6) hx hb hts hi_X3_joined_X3 hown hT.1 hP 0 rfl rfl 0 (by decide) (hts (.fieldLink RX3 10 "SlotStar" "star" "LSlotStar$Machine;") (List.mem_of_getElem? (i := 1) rfl)) (fun _ h9 => h9) rfl dX3_joined_40 ?_
        refine lv_iload_n hx hb dX3_joined_43 rfl (lv_at hl 1 rfl) ?_
        refine mu_V (As := [.ref aM, .int a]) (rest := []) (W1 := [(aS, .inr (3, [.ref aM, .ref aR, .ref aJ, .ref aF, .ref aG, .ref aI])), (aM, .inr (1, [.int (nI Q), .int (nI P), .int (nI M), .int (nI Wd), .int (nI (tT Q P)), .int (nI (tN Q P))])), (aJ, .inr (0, [.int (nI (fwN Q P M a)), .int (nI (if fwN Q P M a = bkN Q P M a then (joS Q P M a).1 else sh)), .int (nI (if fwN Q P M a = bkN Q P M a then (joS Q P M a).2 else wy)), .int (nI (bkN Q P M a)), .ref aU, .ref aV])), (aU, .inl (cI, 48, .inl ((clS Q P M a fU fV).2.2.1))), (aV, .inl (cI, 48, .inl ((clS Q P M a fU fV).2.2.2)))]) (st1 := [.int (jnR Q P M a)]) ⟨hx, hb, hml, hown, hts⟩ hT hP hD hS (k_X0_join l D cI cZ aJ aU aV fw sh wy bk fU fV aM Q P M Wd a hv) gX3_joined_X0_join rfl rfl nd_X0_join [2, 1, 3, 4] (by decide) rfl rfl rfl rfl (ci := 0) rfl rfl (q0 := 2) rfl hl.1 rfl rfl (Nat.le_of_ble_eq_true rfl) ⟨Nat.le_of_ble_eq_true rfl, Nat.le_of_ble_eq_true rfl⟩ ⟨rfl, rfl⟩ ⟨Nat.zero_le _, Nat.zero_le _⟩ dX3_joined_44 (fun H locs hP hD hS => ?_)
        refine lv_if_ne (tgt := 53) hx hb dX3_joined_47 (by decide) (fun c_4 => ?_) (fun c_4 => ?_)
        · skip
          have hj := jnR_ne c_4
          refine lv_iload_n hx hb dX3_joined_53 rfl (lv_at hl 2 rfl) ?_
          by_cases w_5 : what = 0
          · refine lv_lookup (off := 26) (tgt := 80) hx hb dX3_joined_54 (by decide) (by rw [w_5]; decide) (by decide) ?_
            refine lv_aload_n hx hb dX3_joined_80 rfl (lv_at hl 0 rfl) ?_
            refine va_get (D := D) (ci := 3) (v := .ref aJ) (C := RX3) (T := TX3) (N := 6) hx hb hts hi_X3_joined_X3 hown hT.1 hP 0 rfl rfl 2 (by decide) (hts (.fieldLink RX3 26 "SlotStar" "joint" "LSlotStar$Joint;") (List.mem_of_getElem? (i := 2) rfl)) (fun _ h9 => h9) rfl dX3_joined_81 ?_
            refine va_get (D := D) (ci := 0) (v := .int (nI (if fwN Q P M a = bkN Q P M a then (joS Q P M a).2 else wy))) (C := RX0) (T := TX0) (N := 6) hx hb hts hi_X3_joined_X0 hown hT.1 hP 2 rfl rfl 2 (by decide) (hts (.fieldLink RX3 151 "SlotStar$Joint" "ways" "I") (List.mem_of_getElem? (i := 3) rfl)) (fun _ h9 => h9) rfl dX3_joined_84 ?_
            exact mu_ret hx hb hr hlocks dX3_joined_87 (by simpa only [jF, jG, c_1, c_2, c_3, c_4, eq_true w_5, true_or, or_true, not_true, not_false_iff, if_true, if_false, or_false, false_or, ite_true, ite_false] using hP) hS (by first | simp [sJoi, c_1, c_2, c_3, c_4, eq_true w_5, hj] | simp [sJoi, c_1, c_2, c_3, c_4, eq_true w_5])
          by_cases w_6 : what = 1
          · refine lv_lookup (off := 34) (tgt := 88) hx hb dX3_joined_54 (by decide) (by rw [w_6]; decide) (by decide) ?_
            refine lv_aload_n hx hb dX3_joined_88 rfl (lv_at hl 0 rfl) ?_
            refine va_get (D := D) (ci := 3) (v := .ref aJ) (C := RX3) (T := TX3) (N := 6) hx hb hts hi_X3_joined_X3 hown hT.1 hP 0 rfl rfl 2 (by decide) (hts (.fieldLink RX3 26 "SlotStar" "joint" "LSlotStar$Joint;") (List.mem_of_getElem? (i := 2) rfl)) (fun _ h9 => h9) rfl dX3_joined_89 ?_
            refine va_get (D := D) (ci := 0) (v := .int (nI (if fwN Q P M a = bkN Q P M a then (joS Q P M a).1 else sh))) (C := RX0) (T := TX0) (N := 6) hx hb hts hi_X3_joined_X0 hown hT.1 hP 2 rfl rfl 1 (by decide) (hts (.fieldLink RX3 154 "SlotStar$Joint" "shift" "I") (List.mem_of_getElem? (i := 4) rfl)) (fun _ h9 => h9) rfl dX3_joined_92 ?_
            exact mu_ret hx hb hr hlocks dX3_joined_95 (by simpa only [jF, jG, c_1, c_2, c_3, c_4, w_5, eq_true w_6, true_or, or_true, not_true, not_false_iff, if_true, if_false, or_false, false_or, ite_true, ite_false] using hP) hS (by first | simp [sJoi, c_1, c_2, c_3, c_4, w_5, eq_true w_6, hj] | simp [sJoi, c_1, c_2, c_3, c_4, w_5, eq_true w_6])
          refine lv_lookup (off := 42) (tgt := 96) hx hb dX3_joined_54 (by decide) (lk_out2 w_5 w_6) (by decide) ?_
          refine lv_aload_n hx hb dX3_joined_96 rfl (lv_at hl 0 rfl) ?_
          refine va_get (D := D) (ci := 3) (v := .ref aJ) (C := RX3) (T := TX3) (N := 6) hx hb hts hi_X3_joined_X3 hown hT.1 hP 0 rfl rfl 2 (by decide) (hts (.fieldLink RX3 26 "SlotStar" "joint" "LSlotStar$Joint;") (List.mem_of_getElem? (i := 2) rfl)) (fun _ h9 => h9) rfl dX3_joined_97 ?_
          refine va_get (D := D) (ci := 0) (v := .int (nI (fwN Q P M a))) (C := RX0) (T := TX0) (N := 6) hx hb hts hi_X3_joined_X0 hown hT.1 hP 2 rfl rfl 0 (by decide) (hts (.fieldLink RX3 157 "SlotStar$Joint" "forwards" "I") (List.mem_of_getElem? (i := 5) rfl)) (fun _ h9 => h9) rfl dX3_joined_100 ?_
          exact mu_ret hx hb hr hlocks dX3_joined_103 (by simpa only [jF, jG, c_1, c_2, c_3, c_4, w_5, w_6, true_or, or_true, not_true, not_false_iff, if_true, if_false, or_false, false_or, ite_true, ite_false] using hP) hS (by first | simp [sJoi, c_1, c_2, c_3, c_4, w_5, w_6, hj] | simp [sJoi, c_1, c_2, c_3, c_4, w_5, w_6])
        · skip
          refine lv_bipush (v := (-5)) hx hb dX3_joined_50 (by decide) ?_
          exact mu_ret hx hb hr hlocks dX3_joined_52 (by simpa only [jF, jG, c_1, c_2, c_3, eq_true c_4, true_or, or_true, not_true, not_false_iff, if_true, if_false, or_false, false_or, ite_true, ite_false] using hP) hS (by first | simp [sJoi, c_1, c_2, c_3, eq_true c_4, hj] | simp [sJoi, c_1, c_2, c_3, eq_true c_4])
      · skip
        refine lv_bipush (v := (-3)) hx hb dX3_joined_32 (by decide) ?_
        exact mu_ret hx hb hr hlocks dX3_joined_34 (by simpa only [jF, jG, c_1, c_2, eq_true c_3, true_or, or_true, not_true, not_false_iff, if_true, if_false, or_false, false_or, ite_true, ite_false] using hP) hS (by first | simp [sJoi, c_1, c_2, eq_true c_3, hj] | simp [sJoi, c_1, c_2, eq_true c_3])
    · skip
      refine lv_bipush (v := (-2)) hx hb dX3_joined_19 (by decide) ?_
      exact mu_ret hx hb hr hlocks dX3_joined_21 (by simpa only [jF, jG, c_1, eq_true c_2, true_or, or_true, not_true, not_false_iff, if_true, if_false, or_false, false_or, ite_true, ite_false] using hP) hS (by first | simp [sJoi, c_1, eq_true c_2, hj] | simp [sJoi, c_1, eq_true c_2])
  · skip
    refine lv_iconst (v := (-1)) hx hb dX3_joined_8 (by decide) ?_
    exact mu_ret hx hb hr hlocks dX3_joined_9 (by simpa only [jF, jG, eq_true c_1, true_or, or_true, not_true, not_false_iff, if_true, if_false, or_false, false_or, ite_true, ite_false] using hP) hS (by first | simp [sJoi, eq_true c_1, hj] | simp [sJoi, eq_true c_1])

set_option maxRecDepth 20000 in
theorem hi_X3_partner_X3 : ∀ w ∈ wsX30, w ∈ wsX3_partner := by
  intro w h
  unfold wsX3_partner
  simp only [List.mem_cons, List.mem_append, h, or_true, true_or]
theorem nd_X3_partner : okName yX3_partner 1 := by decide +kernel
set_option maxHeartbeats 4000000 in
set_option maxRecDepth 100000 in
theorem k_X3_partner (l : Launch) (D : va_G) (cI cZ : ClassId) (aS : Nat) (aM : Nat) (aR : Nat) (aJ : Nat) (aF : Nat) (aG : Nat) (aI : Nat) (Q : Nat) (P : Nat) (M : Nat) (Wd : Nat) (aU : Nat) (aV : Nat) (fw : Nat) (sh : Nat) (wy : Nat) (bk : Nat) (fU : Nat → Int32) (fV : Nat → Int32) (k : Int32) (hv : MV Q P M Wd) : MU l yX3_partner wsX3_partner ({ frames := 6, cells := 0, slots := 0, locals := 133 } : Room) D cI cZ [(aS, .inr (3, [.ref aM, .ref aR, .ref aJ, .ref aF, .ref aG, .ref aI])), (aM, .inr (1, [.int (nI Q), .int (nI P), .int (nI M), .int (nI Wd), .int (nI (tT Q P)), .int (nI (tN Q P))])), (aJ, .inr (0, [.int (nI fw), .int (nI sh), .int (nI wy), .int (nI bk), .ref aU, .ref aV])), (aU, .inl (cI, 48, .inl fU)), (aV, .inl (cI, 48, .inl fV))] [.ref aS, .int k] (some (.int (sPar Q P M k))) [(aS, .inr (3, [.ref aM, .ref aR, .ref aJ, .ref aF, .ref aG, .ref aI])), (aM, .inr (1, [.int (nI Q), .int (nI P), .int (nI M), .int (nI Wd), .int (nI (tT Q P)), .int (nI (tN Q P))])), (aJ, .inr (0, [.int (nI (pF Q P M k (fwN Q P M (pA Q P M k)) fw)), .int (nI (pF Q P M k (if fwN Q P M (pA Q P M k) = bkN Q P M (pA Q P M k) then (joS Q P M (pA Q P M k)).1 else sh) sh)), .int (nI (pF Q P M k (if fwN Q P M (pA Q P M k) = bkN Q P M (pA Q P M k) then (joS Q P M (pA Q P M k)).2 else wy) wy)), .int (nI (pF Q P M k (bkN Q P M (pA Q P M k)) bk)), .ref aU, .ref aV])), (aU, .inl (cI, 48, .inl (pG Q P M k (clS Q P M (pA Q P M k) fU fV).2.2.1 fU))), (aV, .inl (cI, 48, .inl (pG Q P M k (clS Q P M (pA Q P M k) fU fV).2.2.2 fV)))] := by
  refine mu_start (by decide) rfl (Nat.le_of_ble_eq_true rfl) ?_
  intro p e s m args below meth c hx hb hr hml hlocks hts hown hT hP hD hS ls hl
  have hown : s.vm.findClass RX3 = some m.cls := hown
  have hl : lv_has ls 2 [(0, .ref aS), (1, .int k)] := hl
  have hv' := hv
  unfold MV at hv'
  refine lv_aload_n hx hb dX3_partner_0 rfl (lv_at hl 0 rfl) ?_
  refine lv_iload_n hx hb dX3_partner_1 rfl (lv_at hl 1 rfl) ?_
  refine ro_V (As := [.int k]) (rest := []) ⟨hx, hb, hml, hown, hts⟩ hT hP (k_X3_isSlot l D cI cZ aS aM aR aJ aF aG aI Q P M Wd k) gX3_partner_X3_isSlot rfl rfl nd_X3_isSlot [0, 1] rfl (ci := 3) rfl rfl (q0 := 0) rfl hl.1 rfl rfl (Nat.le_of_ble_eq_true rfl) ⟨Nat.le_of_ble_eq_true rfl, Nat.le_of_ble_eq_true rfl⟩ ⟨rfl, rfl⟩ ⟨Nat.zero_le _, Nat.zero_le _⟩ dX3_partner_2 ?_
  refine lv_if_ne (tgt := 10) hx hb dX3_partner_5 (by decide) (fun c_1 => ?_) (fun c_1 => ?_)
  · skip
    obtain ⟨k2, hk2, rfl⟩ := jIn_sl (by omega) c_1
    have hcl : cl (nI k2) = k2 := cl_nI (by omega)
    refine lv_aload_n hx hb dX3_partner_10 rfl (lv_at hl 0 rfl) ?_
    refine va_get (D := D) (ci := 3) (v := .ref aM) (C := RX3) (T := TX3) (N := 6) hx hb hts hi_X3_partner_X3 hown hT.1 hP 0 rfl rfl 0 (by decide) (hts (.fieldLink RX3 10 "SlotStar" "star" "LSlotStar$Machine;") (List.mem_of_getElem? (i := 1) rfl)) (fun _ h9 => h9) rfl dX3_partner_11 ?_
    refine ro_V (As := []) (rest := []) ⟨hx, hb, hml, hown, hts⟩ hT hP (k_X1_isBalanced l D cI cZ aM Q P M Wd hv) gX3_partner_X1_isBalanced rfl rfl nd_X1_isBalanced [1] rfl (ci := 1) rfl rfl (q0 := 1) rfl hl.1 rfl rfl (Nat.le_of_ble_eq_true rfl) ⟨Nat.le_of_ble_eq_true rfl, Nat.le_of_ble_eq_true rfl⟩ ⟨rfl, rfl⟩ ⟨Nat.zero_le _, Nat.zero_le _⟩ dX3_partner_14 ?_
    refine lv_if_ne (tgt := 23) hx hb dX3_partner_17 (by decide) (fun c_2 => ?_) (fun c_2 => ?_)
    · skip
      refine lv_aload_n hx hb dX3_partner_23 rfl (lv_at hl 0 rfl) ?_
      refine va_get (D := D) (ci := 3) (v := .ref aJ) (C := RX3) (T := TX3) (N := 6) hx hb hts hi_X3_partner_X3 hown hT.1 hP 0 rfl rfl 2 (by decide) (hts (.fieldLink RX3 26 "SlotStar" "joint" "LSlotStar$Joint;") (List.mem_of_getElem? (i := 2) rfl)) (fun _ h9 => h9) rfl dX3_partner_24 ?_
      refine lv_aload_n hx hb dX3_partner_27 rfl (lv_at hl 0 rfl) ?_
      refine va_get (D := D) (ci := 3) (v := .ref aM) (C := RX3) (T := TX3) (N := 6) hx hb hts hi_X3_partner_X3 hown hT.1 hP 0 rfl rfl 0 (by decide) (hts (.fieldLink RX3 10 "SlotStar" "star" "LSlotStar$Machine;") (List.mem_of_getElem? (i := 1) rfl)) (fun _ h9 => h9) rfl dX3_partner_28 ?_
      refine lv_aload_n hx hb dX3_partner_31 rfl (lv_at hl 0 rfl) ?_
      refine va_get (D := D) (ci := 3) (v := .ref aM) (C := RX3) (T := TX3) (N := 6) hx hb hts hi_X3_partner_X3 hown hT.1 hP 0 rfl rfl 0 (by decide) (hts (.fieldLink RX3 10 "SlotStar" "star" "LSlotStar$Machine;") (List.mem_of_getElem? (i := 1) rfl)) (fun _ h9 => h9) rfl dX3_partner_32 ?_
      refine lv_iload_n hx hb dX3_partner_35 rfl (lv_at hl 1 rfl) ?_
      refine ro_V (As := [.int (nI k2)]) (rest := [.ref aM, .ref aJ]) ⟨hx, hb, hml, hown, hts⟩ hT hP (k_X1_phaseOf l D cI cZ aM Q P M Wd k2 hv (by omega)) gX3_partner_X1_phaseOf rfl rfl nd_X1_phaseOf [1] rfl (ci := 1) rfl rfl (q0 := 1) rfl hl.1 rfl rfl (Nat.le_of_ble_eq_true rfl) ⟨Nat.le_of_ble_eq_true rfl, Nat.le_of_ble_eq_true rfl⟩ ⟨rfl, rfl⟩ ⟨Nat.zero_le _, Nat.zero_le _⟩ dX3_partner_36 ?_
      refine mu_V (As := [.ref aM, .int (nI (ph Q P M k2))]) (rest := []) (W1 := [(aS, .inr (3, [.ref aM, .ref aR, .ref aJ, .ref aF, .ref aG, .ref aI])), (aM, .inr (1, [.int (nI Q), .int (nI P), .int (nI M), .int (nI Wd), .int (nI (tT Q P)), .int (nI (tN Q P))])), (aJ, .inr (0, [.int (nI (fwN Q P M (nI (ph Q P M k2)))), .int (nI (if fwN Q P M (nI (ph Q P M k2)) = bkN Q P M (nI (ph Q P M k2)) then (joS Q P M (nI (ph Q P M k2))).1 else sh)), .int (nI (if fwN Q P M (nI (ph Q P M k2)) = bkN Q P M (nI (ph Q P M k2)) then (joS Q P M (nI (ph Q P M k2))).2 else wy)), .int (nI (bkN Q P M (nI (ph Q P M k2)))), .ref aU, .ref aV])), (aU, .inl (cI, 48, .inl ((clS Q P M (nI (ph Q P M k2)) fU fV).2.2.1))), (aV, .inl (cI, 48, .inl ((clS Q P M (nI (ph Q P M k2)) fU fV).2.2.2)))]) (st1 := [.int (jnR Q P M (nI (ph Q P M k2)))]) ⟨hx, hb, hml, hown, hts⟩ hT hP hD hS (k_X0_join l D cI cZ aJ aU aV fw sh wy bk fU fV aM Q P M Wd (nI (ph Q P M k2)) hv) gX3_partner_X0_join rfl rfl nd_X0_join [2, 1, 3, 4] (by decide) rfl rfl rfl rfl (ci := 0) rfl rfl (q0 := 2) rfl hl.1 rfl rfl (Nat.le_of_ble_eq_true rfl) ⟨Nat.le_of_ble_eq_true rfl, Nat.le_of_ble_eq_true rfl⟩ ⟨rfl, rfl⟩ ⟨Nat.zero_le _, Nat.zero_le _⟩ dX3_partner_39 (fun H locs hP hD hS => ?_)
      refine lv_if_ne (tgt := 48) hx hb dX3_partner_42 (by decide) (fun c_3 => ?_) (fun c_3 => ?_)
      · skip
        have hj := jnR_ne c_3
        have hfb := fb_le Q P M (nI (ph Q P M k2))
        have hjs := joS_lt hv (nI (ph Q P M k2))
        refine lv_aload_n hx hb dX3_partner_48 rfl (lv_at hl 0 rfl) ?_
        refine va_get (D := D) (ci := 3) (v := .ref aJ) (C := RX3) (T := TX3) (N := 6) hx hb hts hi_X3_partner_X3 hown hT.1 hP 0 rfl rfl 2 (by decide) (hts (.fieldLink RX3 26 "SlotStar" "joint" "LSlotStar$Joint;") (List.mem_of_getElem? (i := 2) rfl)) (fun _ h9 => h9) rfl dX3_partner_49 ?_
        refine lv_iload_n hx hb dX3_partner_52 rfl (lv_at hl 1 rfl) ?_
        refine lv_aload_n hx hb dX3_partner_53 rfl (lv_at hl 0 rfl) ?_
        refine va_get (D := D) (ci := 3) (v := .ref aM) (C := RX3) (T := TX3) (N := 6) hx hb hts hi_X3_partner_X3 hown hT.1 hP 0 rfl rfl 0 (by decide) (hts (.fieldLink RX3 10 "SlotStar" "star" "LSlotStar$Machine;") (List.mem_of_getElem? (i := 1) rfl)) (fun _ h9 => h9) rfl dX3_partner_54 ?_
        refine lv_iload_n hx hb dX3_partner_57 rfl (lv_at hl 1 rfl) ?_
        refine ro_V (As := [.int (nI k2)]) (rest := [.int (nI k2), .ref aJ]) ⟨hx, hb, hml, hown, hts⟩ hT hP (k_X1_isForward l D cI cZ aM Q P M Wd k2 hv (by omega)) gX3_partner_X1_isForward rfl rfl nd_X1_isForward [1] rfl (ci := 1) rfl rfl (q0 := 1) rfl hl.1 rfl rfl (Nat.le_of_ble_eq_true rfl) ⟨Nat.le_of_ble_eq_true rfl, Nat.le_of_ble_eq_true rfl⟩ ⟨rfl, rfl⟩ ⟨Nat.zero_le _, Nat.zero_le _⟩ dX3_partner_58 ?_
        refine ro_V (As := [.int (nI k2), .int (fwd Q P M k2)]) (rest := []) ⟨hx, hb, hml, hown, hts⟩ hT hP (k_X0_otherOf l D cI cZ aJ aU aV (fwN Q P M (nI (ph Q P M k2))) (if fwN Q P M (nI (ph Q P M k2)) = bkN Q P M (nI (ph Q P M k2)) then (joS Q P M (nI (ph Q P M k2))).1 else sh) (if fwN Q P M (nI (ph Q P M k2)) = bkN Q P M (nI (ph Q P M k2)) then (joS Q P M (nI (ph Q P M k2))).2 else wy) (bkN Q P M (nI (ph Q P M k2))) ((clS Q P M (nI (ph Q P M k2)) fU fV).2.2.1) ((clS Q P M (nI (ph Q P M k2)) fU fV).2.2.2) (nI k2) (fwd Q P M k2) (by omega) (by rw [if_pos hj]; exact hjs)) gX3_partner_X0_otherOf rfl rfl nd_X0_otherOf [2, 3, 4] rfl (ci := 0) rfl rfl (q0 := 2) rfl hl.1 rfl rfl (Nat.le_of_ble_eq_true rfl) ⟨Nat.le_of_ble_eq_true rfl, Nat.le_of_ble_eq_true rfl⟩ ⟨rfl, rfl⟩ ⟨Nat.zero_le _, Nat.zero_le _⟩ dX3_partner_61 ?_
        refine top_eq (z := (ooS Q P M k2)) (by rw [if_pos hj]; exact ooS_of fU fV hj) ?_
        exact mu_ret hx hb hr hlocks dX3_partner_64 (by simpa only [pF, pG, pA, c_1, c_2, c_3, hcl, true_or, or_true, not_true, not_false_iff, if_true, if_false, or_false, false_or, ite_true, ite_false] using hP) hS (by first | simp [sPar, c_1, c_2, c_3, hcl] | simp [sPar, c_1, c_2, c_3])
      · skip
        refine lv_bipush (v := (-5)) hx hb dX3_partner_45 (by decide) ?_
        exact mu_ret hx hb hr hlocks dX3_partner_47 (by simpa only [pF, pG, pA, c_1, c_2, eq_true c_3, hcl, true_or, or_true, not_true, not_false_iff, if_true, if_false, or_false, false_or, ite_true, ite_false] using hP) hS (by first | simp [sPar, c_1, c_2, eq_true c_3, hcl] | simp [sPar, c_1, c_2, eq_true c_3])
    · skip
      refine lv_bipush (v := (-3)) hx hb dX3_partner_20 (by decide) ?_
      exact mu_ret hx hb hr hlocks dX3_partner_22 (by simpa only [pF, pG, pA, c_1, eq_true c_2, hcl, true_or, or_true, not_true, not_false_iff, if_true, if_false, or_false, false_or, ite_true, ite_false] using hP) hS (by first | simp [sPar, c_1, eq_true c_2, hcl] | simp [sPar, c_1, eq_true c_2])
  · skip
    refine lv_iconst (v := (-1)) hx hb dX3_partner_8 (by decide) ?_
    exact mu_ret hx hb hr hlocks dX3_partner_9 (by simpa only [pF, pG, eq_true c_1, true_or, or_true, not_true, not_false_iff, if_true, if_false, or_false, false_or, ite_true, ite_false] using hP) hS (by simp [sPar, eq_true c_1])

set_option maxRecDepth 20000 in
theorem hi_X3_take_X1 : ∀ w ∈ wsX10, w ∈ wsX3_take := by
  intro w h
  unfold wsX3_take
  simp only [List.mem_cons, List.mem_append, h, or_true, true_or]
set_option maxRecDepth 20000 in
theorem hi_X3_take_X3 : ∀ w ∈ wsX30, w ∈ wsX3_take := by
  intro w h
  unfold wsX3_take
  simp only [List.mem_cons, List.mem_append, h, or_true, true_or]
theorem nd_X3_take : okName yX3_take 4 := by decide +kernel
set_option maxHeartbeats 4000000 in
set_option maxRecDepth 100000 in
theorem k_X3_take (l : Launch) (D : va_G) (cI cZ : ClassId) (aS : Nat) (aM : Nat) (aR : Nat) (aJ : Nat) (aF : Nat) (aG : Nat) (aI : Nat) (x0 : Int32) (x1 : Int32) (x2 : Int32) (x3 : Int32) (x4 : Int32) (x5 : Int32) (aN : Nat) (dg : Nat) (tr : Nat) (fN : Nat → Int32) (Q : Nat) (P : Nat) (M : Nat) (Wd : Nat) (hv : MV Q P M Wd) : MU l yX3_take wsX3_take ({ frames := 4, cells := 0, slots := 0, locals := 89 } : Room) D cI cZ [(aS, .inr (3, [.ref aM, .ref aR, .ref aJ, .ref aF, .ref aG, .ref aI])), (aM, .inr (1, [.int x0, .int x1, .int x2, .int x3, .int x4, .int x5])), (aR, .inr (2, [.ref aN, .int (nI dg), .int (nI tr)])), (aN, .inl (cI, 49, .inl fN))] [.ref aS, .int (nI Q), .int (nI P), .int (nI M), .int (nI Wd)] none [(aS, .inr (3, [.ref aM, .ref aR, .ref aJ, .ref aF, .ref aG, .ref aI])), (aM, .inr (1, [.int (nI Q), .int (nI P), .int (nI M), .int (nI Wd), .int (nI (tT Q P)), .int (nI (tN Q P))])), (aR, .inr (2, [.ref aN, .int (nI (dgN (tN Q P))), .int (nI (tN Q P))])), (aN, .inl (cI, 49, .inl (cyR (tN Q P))))] := by
  refine mu_start (by decide) rfl (Nat.le_of_ble_eq_true rfl) ?_
  intro p e s m args below meth c hx hb hr hml hlocks hts hown hT hP hD hS ls hl
  have hown : s.vm.findClass RX3 = some m.cls := hown
  have hl : lv_has ls 5 [(0, .ref aS), (1, .int (nI Q)), (2, .int (nI P)), (3, .int (nI M)), (4, .int (nI Wd))] := hl
  refine lv_aload_n hx hb dX3_take_0 rfl (lv_at hl 0 rfl) ?_
  refine va_get (D := D) (ci := 3) (v := .ref aM) (C := RX3) (T := TX3) (N := 6) hx hb hts hi_X3_take_X3 hown hT.1 hP 0 rfl rfl 0 (by decide) (hts (.fieldLink RX3 10 "SlotStar" "star" "LSlotStar$Machine;") (List.mem_of_getElem? (i := 1) rfl)) (fun _ h9 => h9) rfl dX3_take_1 ?_
  refine lv_iload_n hx hb dX3_take_4 rfl (lv_at hl 1 rfl) ?_
  refine lv_iload_n hx hb dX3_take_5 rfl (lv_at hl 2 rfl) ?_
  refine lv_iload_n hx hb dX3_take_6 rfl (lv_at hl 3 rfl) ?_
  refine lv_iload hx hb dX3_take_7 (lv_at hl 4 rfl) ?_
  refine mu_V (As := [.int (nI Q), .int (nI P), .int (nI M), .int (nI Wd)]) (rest := []) (W1 := [(aS, .inr (3, [.ref aM, .ref aR, .ref aJ, .ref aF, .ref aG, .ref aI])), (aM, .inr (1, [.int (nI Q), .int (nI P), .int (nI M), .int (nI Wd), .int (nI (tT Q P)), .int (nI (tN Q P))])), (aR, .inr (2, [.ref aN, .int (nI dg), .int (nI tr)])), (aN, .inl (cI, 49, .inl fN))]) (st1 := []) ⟨hx, hb, hml, hown, hts⟩ hT hP hD hS (k_X1_become l D cI cZ aM x0 x1 x2 x3 x4 x5 Q P M Wd hv) gX3_take_X1_become rfl rfl nd_X1_become [1] (by decide) rfl rfl rfl rfl (ci := 1) rfl rfl (q0 := 1) rfl hl.1 rfl rfl (Nat.le_of_ble_eq_true rfl) ⟨Nat.le_of_ble_eq_true rfl, Nat.le_of_ble_eq_true rfl⟩ ⟨rfl, rfl⟩ ⟨Nat.zero_le _, Nat.zero_le _⟩ dX3_take_9 (fun H locs hP hD hS => ?_)
  refine lv_aload_n hx hb dX3_take_12 rfl (lv_at hl 0 rfl) ?_
  refine va_get (D := D) (ci := 3) (v := .ref aR) (C := RX3) (T := TX3) (N := 6) hx hb hts hi_X3_take_X3 hown hT.1 hP 0 rfl rfl 1 (by decide) (hts (.fieldLink RX3 19 "SlotStar" "root" "LSlotStar$Root;") (List.mem_of_getElem? (i := 2) rfl)) (fun _ h9 => h9) rfl dX3_take_13 ?_
  refine lv_aload_n hx hb dX3_take_16 rfl (lv_at hl 0 rfl) ?_
  refine va_get (D := D) (ci := 3) (v := .ref aM) (C := RX3) (T := TX3) (N := 6) hx hb hts hi_X3_take_X3 hown hT.1 hP 0 rfl rfl 0 (by decide) (hts (.fieldLink RX3 10 "SlotStar" "star" "LSlotStar$Machine;") (List.mem_of_getElem? (i := 1) rfl)) (fun _ h9 => h9) rfl dX3_take_17 ?_
  refine va_get (D := D) (ci := 1) (v := .int (nI (tN Q P))) (C := RX1) (T := TX1) (N := 6) hx hb hts hi_X3_take_X1 hown hT.1 hP 1 rfl rfl 5 (by decide) (hts (.fieldLink RX3 52 "SlotStar$Machine" "turns" "I") (List.mem_of_getElem? (i := 3) rfl)) (fun _ h9 => h9) rfl dX3_take_20 ?_
  refine mu_V (As := [.int (nI (tN Q P))]) (rest := []) (W1 := [(aS, .inr (3, [.ref aM, .ref aR, .ref aJ, .ref aF, .ref aG, .ref aI])), (aM, .inr (1, [.int (nI Q), .int (nI P), .int (nI M), .int (nI Wd), .int (nI (tT Q P)), .int (nI (tN Q P))])), (aR, .inr (2, [.ref aN, .int (nI (dgN (tN Q P))), .int (nI (tN Q P))])), (aN, .inl (cI, 49, .inl (cyR (tN Q P))))]) (st1 := []) ⟨hx, hb, hml, hown, hts⟩ hT hP hD hS (k_X2_become l D cI cZ aR aN dg tr fN (tN Q P) (tN_pos hv) (tN_le hv)) gX3_take_X2_become rfl rfl nd_X2_become [2, 3] (by decide) rfl rfl rfl rfl (ci := 2) rfl rfl (q0 := 2) rfl hl.1 rfl rfl (Nat.le_of_ble_eq_true rfl) ⟨Nat.le_of_ble_eq_true rfl, Nat.le_of_ble_eq_true rfl⟩ ⟨rfl, rfl⟩ ⟨Nat.zero_le _, Nat.zero_le _⟩ dX3_take_23 (fun H locs hP hD hS => ?_)
  exact mu_retv hx hb hr hlocks dX3_take_26 (hP) hS

set_option maxRecDepth 20000 in
theorem hi_X3_machine_X1 : ∀ w ∈ wsX10, w ∈ wsX3_machine := by
  intro w h
  unfold wsX3_machine
  simp only [List.mem_cons, List.mem_append, h, or_true, true_or]
set_option maxRecDepth 20000 in
theorem hi_X3_machine_X3 : ∀ w ∈ wsX30, w ∈ wsX3_machine := by
  intro w h
  unfold wsX3_machine
  simp only [List.mem_cons, List.mem_append, h, or_true, true_or]
theorem nd_X3_machine : okName yX3_machine 3 := by decide +kernel
set_option maxHeartbeats 4000000 in
set_option maxRecDepth 100000 in
theorem k_X3_machine (l : Launch) (D : va_G) (cI cZ : ClassId) (aS : Nat) (aM : Nat) (aR : Nat) (aJ : Nat) (aF : Nat) (aG : Nat) (aI : Nat) (Q : Nat) (P : Nat) (M : Nat) (Wd : Nat) (aN : Nat) (q : Int32) (r2 : Int32) (m2 : Int32) (hv : MV Q P M Wd) : MU l yX3_machine wsX3_machine ({ frames := 5, cells := 0, slots := 0, locals := 113 } : Room) D cI cZ [(aS, .inr (3, [.ref aM, .ref aR, .ref aJ, .ref aF, .ref aG, .ref aI])), (aM, .inr (1, [.int (nI Q), .int (nI P), .int (nI M), .int (nI Wd), .int (nI (tT Q P)), .int (nI (tN Q P))])), (aR, .inr (2, [.ref aN, .int (nI (dgN (tN Q P))), .int (nI (tN Q P))])), (aN, .inl (cI, 49, .inl (cyR (tN Q P))))] [.ref aS, .int q, .int r2, .int m2] (some (.int (sMac q r2 m2))) [(aS, .inr (3, [.ref aM, .ref aR, .ref aJ, .ref aF, .ref aG, .ref aI])), (aM, .inr (1, [.int (nI ((mcT q r2 m2 (Q, P, M, Wd)).1)), .int (nI ((mcT q r2 m2 (Q, P, M, Wd)).2.1)), .int (nI ((mcT q r2 m2 (Q, P, M, Wd)).2.2.1)), .int (nI ((mcT q r2 m2 (Q, P, M, Wd)).2.2.2)), .int (nI (tT ((mcT q r2 m2 (Q, P, M, Wd)).1) ((mcT q r2 m2 (Q, P, M, Wd)).2.1))), .int (nI (tN ((mcT q r2 m2 (Q, P, M, Wd)).1) ((mcT q r2 m2 (Q, P, M, Wd)).2.1)))])), (aR, .inr (2, [.ref aN, .int (nI (dgN (tN ((mcT q r2 m2 (Q, P, M, Wd)).1) ((mcT q r2 m2 (Q, P, M, Wd)).2.1)))), .int (nI (tN ((mcT q r2 m2 (Q, P, M, Wd)).1) ((mcT q r2 m2 (Q, P, M, Wd)).2.1)))])), (aN, .inl (cI, 49, .inl (cyR (tN ((mcT q r2 m2 (Q, P, M, Wd)).1) ((mcT q r2 m2 (Q, P, M, Wd)).2.1)))))] := by
  refine mu_start (by decide) rfl (Nat.le_of_ble_eq_true rfl) ?_
  intro p e s m args below meth c hx hb hr hml hlocks hts hown hT hP hD hS ls hl
  have hown : s.vm.findClass RX3 = some m.cls := hown
  have hl : lv_has ls 4 [(0, .ref aS), (1, .int q), (2, .int r2), (3, .int m2)] := hl
  refine lv_iload_n hx hb dX3_machine_0 rfl (lv_at hl 1 rfl) ?_
  refine lv_iconst (v := 3) hx hb dX3_machine_1 (by decide) ?_
  refine lv_bipush (v := 48) hx hb dX3_machine_2 (by decide) ?_
  refine ro_S (As := [.int q, .int 3, .int 48]) (rest := []) ⟨hx, hb, hml, hown, hts⟩ hT hP (k_X3_isWithin l D cI cZ q 3 48) gX3_machine_X3_isWithin rfl nd_X3_isWithin [] rfl hl.1 rfl rfl (Nat.le_of_ble_eq_true rfl) ⟨Nat.le_of_ble_eq_true rfl, Nat.le_of_ble_eq_true rfl⟩ ⟨rfl, rfl⟩ ⟨Nat.zero_le _, Nat.zero_le _⟩ dX3_machine_4 ?_
  refine lv_if_eq (tgt := 30) hx hb dX3_machine_7 (by decide) (fun c_1 => ?_) (fun c_1 => ?_)
  · skip
    refine lv_bipush (v := (-2)) hx hb dX3_machine_30 (by decide) ?_
    exact mu_ret hx hb hr hlocks dX3_machine_32 (by first | (rw [mcT_q c_1]; exact hP) | (rw [mcT_p c_2]; exact hP) | (rw [mcT_m c_3 c_4]; exact hP)) hS (by simp [sMac, eq_true c_1])
  · skip
    obtain ⟨q2, hq2, rfl⟩ := jIn_nat 3 48 (by decide) c_1
    have hcq : cl (nI q2) = q2 := cl_nI (by omega)
    refine lv_iload_n hx hb dX3_machine_10 rfl (lv_at hl 2 rfl) ?_
    refine lv_iconst (v := 1) hx hb dX3_machine_11 (by decide) ?_
    refine lv_bipush (v := 10) hx hb dX3_machine_12 (by decide) ?_
    refine ro_S (As := [.int r2, .int 1, .int 10]) (rest := []) ⟨hx, hb, hml, hown, hts⟩ hT hP (k_X3_isWithin l D cI cZ r2 1 10) gX3_machine_X3_isWithin rfl nd_X3_isWithin [] rfl hl.1 rfl rfl (Nat.le_of_ble_eq_true rfl) ⟨Nat.le_of_ble_eq_true rfl, Nat.le_of_ble_eq_true rfl⟩ ⟨rfl, rfl⟩ ⟨Nat.zero_le _, Nat.zero_le _⟩ dX3_machine_14 ?_
    refine lv_if_eq (tgt := 30) hx hb dX3_machine_17 (by decide) (fun c_2 => ?_) (fun c_2 => ?_)
    · skip
      refine lv_bipush (v := (-2)) hx hb dX3_machine_30 (by decide) ?_
      exact mu_ret hx hb hr hlocks dX3_machine_32 (by first | (rw [mcT_q c_1]; exact hP) | (rw [mcT_p c_2]; exact hP) | (rw [mcT_m c_3 c_4]; exact hP)) hS (by simp [sMac, c_1, eq_true c_2])
    · skip
      obtain ⟨p2, hp2, rfl⟩ := jIn_nat 1 10 (by decide) c_2
      have hcp : cl (nI p2) = p2 := cl_nI (by omega)
      have hpw := pw_ok hq2 hp2
      refine lv_iload_n hx hb dX3_machine_20 rfl (lv_at hl 3 rfl) ?_
      refine lv_iconst (v := 3) hx hb dX3_machine_21 (by decide) ?_
      refine lv_icmp_eq (tgt := 33) hx hb dX3_machine_22 (by decide) (fun c_3 => ?_) (fun c_3 => ?_)
      · skip
        subst c_3
        refine lv_aload_n hx hb dX3_machine_33 rfl (lv_at hl 0 rfl) ?_
        refine lv_iload_n hx hb dX3_machine_34 rfl (lv_at hl 1 rfl) ?_
        refine lv_iload_n hx hb dX3_machine_35 rfl (lv_at hl 2 rfl) ?_
        refine lv_iload_n hx hb dX3_machine_36 rfl (lv_at hl 3 rfl) ?_
        refine lv_iload_n hx hb dX3_machine_37 rfl (lv_at hl 1 rfl) ?_
        refine lv_iload_n hx hb dX3_machine_38 rfl (lv_at hl 2 rfl) ?_
        refine ro_S (As := [.int (nI q2), .int (nI p2)]) (rest := [.int 3, .int (nI p2), .int (nI q2), .ref aS]) ⟨hx, hb, hml, hown, hts⟩ hT hP (k_X3_poleWidth l D cI cZ q2 p2 (by omega) (by omega)) gX3_machine_X3_poleWidth rfl nd_X3_poleWidth [] rfl hl.1 rfl rfl (Nat.le_of_ble_eq_true rfl) ⟨Nat.le_of_ble_eq_true rfl, Nat.le_of_ble_eq_true rfl⟩ ⟨rfl, rfl⟩ ⟨Nat.zero_le _, Nat.zero_le _⟩ dX3_machine_39 ?_
        refine mu_V (As := [.int (nI q2), .int (nI p2), .int 3, .int (nI (pw q2 p2))]) (rest := []) (W1 := [(aS, .inr (3, [.ref aM, .ref aR, .ref aJ, .ref aF, .ref aG, .ref aI])), (aM, .inr (1, [.int (nI q2), .int (nI p2), .int (nI 3), .int (nI (pw q2 p2)), .int (nI (tT q2 p2)), .int (nI (tN q2 p2))])), (aR, .inr (2, [.ref aN, .int (nI (dgN (tN q2 p2))), .int (nI (tN q2 p2))])), (aN, .inl (cI, 49, .inl (cyR (tN q2 p2))))]) (st1 := []) ⟨hx, hb, hml, hown, hts⟩ hT hP hD hS (k_X3_take l D cI cZ aS aM aR aJ aF aG aI (nI Q) (nI P) (nI M) (nI Wd) (nI (tT Q P)) (nI (tN Q P)) aN (dgN (tN Q P)) (tN Q P) (cyR (tN Q P)) q2 p2 3 (pw q2 p2) (by unfold MV; omega)) gX3_machine_X3_take rfl rfl nd_X3_take [0, 1, 2, 3] (by decide) rfl rfl rfl rfl (ci := 3) rfl rfl (q0 := 0) rfl hl.1 rfl rfl (Nat.le_of_ble_eq_true rfl) ⟨Nat.le_of_ble_eq_true rfl, Nat.le_of_ble_eq_true rfl⟩ ⟨rfl, rfl⟩ ⟨Nat.zero_le _, Nat.zero_le _⟩ dX3_machine_42 (fun H locs hP hD hS => ?_)
        refine lv_aload_n hx hb dX3_machine_45 rfl (lv_at hl 0 rfl) ?_
        refine va_get (D := D) (ci := 3) (v := .ref aM) (C := RX3) (T := TX3) (N := 6) hx hb hts hi_X3_machine_X3 hown hT.1 hP 0 rfl rfl 0 (by decide) (hts (.fieldLink RX3 10 "SlotStar" "star" "LSlotStar$Machine;") (List.mem_of_getElem? (i := 1) rfl)) (fun _ h9 => h9) rfl dX3_machine_46 ?_
        refine va_get (D := D) (ci := 1) (v := .int (nI (tN q2 p2))) (C := RX1) (T := TX1) (N := 6) hx hb hts hi_X3_machine_X1 hown hT.1 hP 1 rfl rfl 5 (by decide) (hts (.fieldLink RX3 52 "SlotStar$Machine" "turns" "I") (List.mem_of_getElem? (i := 2) rfl)) (fun _ h9 => h9) rfl dX3_machine_49 ?_
        exact mu_ret hx hb hr hlocks dX3_machine_52 (by first | (rw [mcT_ok (m := 3) hq2 hp2 (Or.inl rfl)]; exact hP) | (rw [mcT_ok (m := 5) hq2 hp2 (Or.inr rfl)]; exact hP)) hS (by simp [sMac, c_1, c_2, hcq, hcp])
      · skip
        refine lv_iload_n hx hb dX3_machine_25 rfl (lv_at hl 3 rfl) ?_
        refine lv_iconst (v := 5) hx hb dX3_machine_26 (by decide) ?_
        refine lv_icmp_eq (tgt := 33) hx hb dX3_machine_27 (by decide) (fun c_4 => ?_) (fun c_4 => ?_)
        · skip
          subst c_4
          refine lv_aload_n hx hb dX3_machine_33 rfl (lv_at hl 0 rfl) ?_
          refine lv_iload_n hx hb dX3_machine_34 rfl (lv_at hl 1 rfl) ?_
          refine lv_iload_n hx hb dX3_machine_35 rfl (lv_at hl 2 rfl) ?_
          refine lv_iload_n hx hb dX3_machine_36 rfl (lv_at hl 3 rfl) ?_
          refine lv_iload_n hx hb dX3_machine_37 rfl (lv_at hl 1 rfl) ?_
          refine lv_iload_n hx hb dX3_machine_38 rfl (lv_at hl 2 rfl) ?_
          refine ro_S (As := [.int (nI q2), .int (nI p2)]) (rest := [.int 5, .int (nI p2), .int (nI q2), .ref aS]) ⟨hx, hb, hml, hown, hts⟩ hT hP (k_X3_poleWidth l D cI cZ q2 p2 (by omega) (by omega)) gX3_machine_X3_poleWidth rfl nd_X3_poleWidth [] rfl hl.1 rfl rfl (Nat.le_of_ble_eq_true rfl) ⟨Nat.le_of_ble_eq_true rfl, Nat.le_of_ble_eq_true rfl⟩ ⟨rfl, rfl⟩ ⟨Nat.zero_le _, Nat.zero_le _⟩ dX3_machine_39 ?_
          refine mu_V (As := [.int (nI q2), .int (nI p2), .int 5, .int (nI (pw q2 p2))]) (rest := []) (W1 := [(aS, .inr (3, [.ref aM, .ref aR, .ref aJ, .ref aF, .ref aG, .ref aI])), (aM, .inr (1, [.int (nI q2), .int (nI p2), .int (nI 5), .int (nI (pw q2 p2)), .int (nI (tT q2 p2)), .int (nI (tN q2 p2))])), (aR, .inr (2, [.ref aN, .int (nI (dgN (tN q2 p2))), .int (nI (tN q2 p2))])), (aN, .inl (cI, 49, .inl (cyR (tN q2 p2))))]) (st1 := []) ⟨hx, hb, hml, hown, hts⟩ hT hP hD hS (k_X3_take l D cI cZ aS aM aR aJ aF aG aI (nI Q) (nI P) (nI M) (nI Wd) (nI (tT Q P)) (nI (tN Q P)) aN (dgN (tN Q P)) (tN Q P) (cyR (tN Q P)) q2 p2 5 (pw q2 p2) (by unfold MV; omega)) gX3_machine_X3_take rfl rfl nd_X3_take [0, 1, 2, 3] (by decide) rfl rfl rfl rfl (ci := 3) rfl rfl (q0 := 0) rfl hl.1 rfl rfl (Nat.le_of_ble_eq_true rfl) ⟨Nat.le_of_ble_eq_true rfl, Nat.le_of_ble_eq_true rfl⟩ ⟨rfl, rfl⟩ ⟨Nat.zero_le _, Nat.zero_le _⟩ dX3_machine_42 (fun H locs hP hD hS => ?_)
          refine lv_aload_n hx hb dX3_machine_45 rfl (lv_at hl 0 rfl) ?_
          refine va_get (D := D) (ci := 3) (v := .ref aM) (C := RX3) (T := TX3) (N := 6) hx hb hts hi_X3_machine_X3 hown hT.1 hP 0 rfl rfl 0 (by decide) (hts (.fieldLink RX3 10 "SlotStar" "star" "LSlotStar$Machine;") (List.mem_of_getElem? (i := 1) rfl)) (fun _ h9 => h9) rfl dX3_machine_46 ?_
          refine va_get (D := D) (ci := 1) (v := .int (nI (tN q2 p2))) (C := RX1) (T := TX1) (N := 6) hx hb hts hi_X3_machine_X1 hown hT.1 hP 1 rfl rfl 5 (by decide) (hts (.fieldLink RX3 52 "SlotStar$Machine" "turns" "I") (List.mem_of_getElem? (i := 2) rfl)) (fun _ h9 => h9) rfl dX3_machine_49 ?_
          exact mu_ret hx hb hr hlocks dX3_machine_52 (by first | (rw [mcT_ok (m := 3) hq2 hp2 (Or.inl rfl)]; exact hP) | (rw [mcT_ok (m := 5) hq2 hp2 (Or.inr rfl)]; exact hP)) hS (by simp [sMac, c_1, c_2, hcq, hcp])
        · skip
          refine lv_bipush (v := (-2)) hx hb dX3_machine_30 (by decide) ?_
          exact mu_ret hx hb hr hlocks dX3_machine_32 (by first | (rw [mcT_q c_1]; exact hP) | (rw [mcT_p c_2]; exact hP) | (rw [mcT_m c_3 c_4]; exact hP)) hS (by simp [sMac, c_1, c_2, c_3, c_4])

set_option maxRecDepth 20000 in
theorem hi_X3_width_X1 : ∀ w ∈ wsX10, w ∈ wsX3_width := by
  intro w h
  unfold wsX3_width
  simp only [List.mem_cons, List.mem_append, h, or_true, true_or]
set_option maxRecDepth 20000 in
theorem hi_X3_width_X3 : ∀ w ∈ wsX30, w ∈ wsX3_width := by
  intro w h
  unfold wsX3_width
  simp only [List.mem_cons, List.mem_append, h, or_true, true_or]
theorem nd_X3_width : okName yX3_width 1 := by decide +kernel
set_option maxHeartbeats 4000000 in
set_option maxRecDepth 100000 in
theorem k_X3_width (l : Launch) (D : va_G) (cI cZ : ClassId) (aS : Nat) (aM : Nat) (aR : Nat) (aJ : Nat) (aF : Nat) (aG : Nat) (aI : Nat) (Q : Nat) (P : Nat) (M : Nat) (Wd : Nat) (w : Int32) (hv : MV Q P M Wd) : MU l yX3_width wsX3_width ({ frames := 1, cells := 0, slots := 0, locals := 22 } : Room) D cI cZ [(aS, .inr (3, [.ref aM, .ref aR, .ref aJ, .ref aF, .ref aG, .ref aI])), (aM, .inr (1, [.int (nI Q), .int (nI P), .int (nI M), .int (nI Wd), .int (nI (tT Q P)), .int (nI (tN Q P))]))] [.ref aS, .int w] (some (.int (sWid Q Wd w))) [(aS, .inr (3, [.ref aM, .ref aR, .ref aJ, .ref aF, .ref aG, .ref aI])), (aM, .inr (1, [.int (nI Q), .int (nI P), .int (nI M), .int (nI (wdT Q Wd w)), .int (nI (tT Q P)), .int (nI (tN Q P))]))] := by
  refine mu_start (by decide) rfl (Nat.le_of_ble_eq_true rfl) ?_
  intro p e s m args below meth c hx hb hr hml hlocks hts hown hT hP hD hS ls hl
  have hown : s.vm.findClass RX3 = some m.cls := hown
  have hl : lv_has ls 3 [(0, .ref aS), (1, .int w)] := hl
  have hv' := hv
  unfold MV at hv'
  refine lv_iload_n hx hb dX3_width_0 rfl (lv_at hl 1 rfl) ?_
  refine lv_iconst (v := 1) hx hb dX3_width_1 (by decide) ?_
  refine lv_aload_n hx hb dX3_width_2 rfl (lv_at hl 0 rfl) ?_
  refine va_get (D := D) (ci := 3) (v := .ref aM) (C := RX3) (T := TX3) (N := 6) hx hb hts hi_X3_width_X3 hown hT.1 hP 0 rfl rfl 0 (by decide) (hts (.fieldLink RX3 10 "SlotStar" "star" "LSlotStar$Machine;") (List.mem_of_getElem? (i := 1) rfl)) (fun _ h9 => h9) rfl dX3_width_3 ?_
  refine va_get (D := D) (ci := 1) (v := .int (nI Q)) (C := RX1) (T := TX1) (N := 6) hx hb hts hi_X3_width_X1 hown hT.1 hP 1 rfl rfl 0 (by decide) (hts (.fieldLink RX3 56 "SlotStar$Machine" "slots" "I") (List.mem_of_getElem? (i := 2) rfl)) (fun _ h9 => h9) rfl dX3_width_6 ?_
  refine lv_iconst (v := 1) hx hb dX3_width_9 (by decide) ?_
  refine lv_isub hx hb dX3_width_10 ?_
  refine ro_S (As := [.int w, .int 1, .int ((nI Q) - 1)]) (rest := []) ⟨hx, hb, hml, hown, hts⟩ hT hP (k_X3_isWithin l D cI cZ w 1 ((nI Q) - 1)) gX3_width_X3_isWithin rfl nd_X3_isWithin [] rfl hl.1 rfl rfl (Nat.le_of_ble_eq_true rfl) ⟨Nat.le_of_ble_eq_true rfl, Nat.le_of_ble_eq_true rfl⟩ ⟨rfl, rfl⟩ ⟨Nat.zero_le _, Nat.zero_le _⟩ dX3_width_11 ?_
  refine lv_if_ne (tgt := 20) hx hb dX3_width_14 (by decide) (fun c_1 => ?_) (fun c_1 => ?_)
  · skip
    obtain ⟨w2, hw2, rfl⟩ := jIn_w (by omega) c_1
    have hcw : cl (nI w2) = w2 := cl_nI (by omega)
    refine lv_aload_n hx hb dX3_width_20 rfl (lv_at hl 0 rfl) ?_
    refine va_get (D := D) (ci := 3) (v := .ref aM) (C := RX3) (T := TX3) (N := 6) hx hb hts hi_X3_width_X3 hown hT.1 hP 0 rfl rfl 0 (by decide) (hts (.fieldLink RX3 10 "SlotStar" "star" "LSlotStar$Machine;") (List.mem_of_getElem? (i := 1) rfl)) (fun _ h9 => h9) rfl dX3_width_21 ?_
    refine va_get (D := D) (ci := 1) (v := .int (nI Wd)) (C := RX1) (T := TX1) (N := 6) hx hb hts hi_X3_width_X1 hown hT.1 hP 1 rfl rfl 3 (by decide) (hts (.fieldLink RX3 59 "SlotStar$Machine" "width" "I") (List.mem_of_getElem? (i := 3) rfl)) (fun _ h9 => h9) rfl dX3_width_24 ?_
    refine lv_istore_n (lv' := [(2, .int (nI Wd)), (0, .ref aS), (1, .int (nI w2))]) hx hb dX3_width_27 rfl hl (by decide) rfl (fun ls hl => ?_)
    refine lv_aload_n hx hb dX3_width_28 rfl (lv_at hl 1 rfl) ?_
    refine va_get (D := D) (ci := 3) (v := .ref aM) (C := RX3) (T := TX3) (N := 6) hx hb hts hi_X3_width_X3 hown hT.1 hP 0 rfl rfl 0 (by decide) (hts (.fieldLink RX3 10 "SlotStar" "star" "LSlotStar$Machine;") (List.mem_of_getElem? (i := 1) rfl)) (fun _ h9 => h9) rfl dX3_width_29 ?_
    refine lv_iload_n hx hb dX3_width_32 rfl (lv_at hl 2 rfl) ?_
    refine va_put (D := D) (ci := 1) (v := .int (nI w2)) (ty := .int) (C := RX1) (T := TX1) (N := 6) hx hb hts hi_X3_width_X1 tyX1 tyX1_ok nmX1 hown hT.1 hP hD hS 1 rfl rfl 3 (by decide) (hts (.fieldLink RX3 59 "SlotStar$Machine" "width" "I") (List.mem_of_getElem? (i := 3) rfl)) (fun _ h9 => h9) rfl (by decide +kernel) rfl rfl (Nat.le_of_ble_eq_true rfl) dX3_width_33 (fun H locs hP hD hS => ?_)
    have hP : va_P D cls5 [(aS, .inr (3, [.ref aM, .ref aR, .ref aJ, .ref aF, .ref aG, .ref aI])), (aM, .inr (1, [.int (nI Q), .int (nI P), .int (nI M), .int (nI w2), .int (nI (tT Q P)), .int (nI (tN Q P))]))] H := hP
    have hD : va_D (va_M [(aS, .inr (3, [.ref aM, .ref aR, .ref aJ, .ref aF, .ref aG, .ref aI])), (aM, .inr (1, [.int (nI Q), .int (nI P), .int (nI M), .int (nI Wd), .int (nI (tT Q P)), .int (nI (tN Q P))]))]) [(aS, .inr (3, [.ref aM, .ref aR, .ref aJ, .ref aF, .ref aG, .ref aI])), (aM, .inr (1, [.int (nI Q), .int (nI P), .int (nI M), .int (nI w2), .int (nI (tT Q P)), .int (nI (tN Q P))]))] := hD
    refine lv_iload_n hx hb dX3_width_36 rfl (lv_at hl 0 rfl) ?_
    exact mu_ret hx hb hr hlocks dX3_width_37 (by simpa only [wdT, c_1, if_false, hcw] using hP) hS (by simp [sWid, c_1])
  · skip
    refine lv_bipush (v := (-2)) hx hb dX3_width_17 (by decide) ?_
    exact mu_ret hx hb hr hlocks dX3_width_19 (by simpa only [wdT, eq_true c_1, if_true] using hP) hS (by simp [sWid, eq_true c_1])

set_option maxRecDepth 20000 in
theorem hi_X3_image_X1 : ∀ w ∈ wsX10, w ∈ wsX3_image := by
  intro w h
  unfold wsX3_image
  simp only [List.mem_cons, List.mem_append, h, or_true, true_or]
set_option maxRecDepth 20000 in
theorem hi_X3_image_X3 : ∀ w ∈ wsX30, w ∈ wsX3_image := by
  intro w h
  unfold wsX3_image
  simp only [List.mem_cons, List.mem_append, h, or_true, true_or]
theorem nd_X3_image : okName yX3_image 1 := by decide +kernel
set_option maxHeartbeats 4000000 in
set_option maxRecDepth 100000 in
theorem k_X3_image (l : Launch) (D : va_G) (cI cZ : ClassId) (aS : Nat) (aM : Nat) (aR : Nat) (aJ : Nat) (aF : Nat) (aG : Nat) (aI : Nat) (Q : Nat) (P : Nat) (M : Nat) (Wd : Nat) (fI : Nat → Int32) (n : Int32) : MU l yX3_image wsX3_image ({ frames := 2, cells := 0, slots := 0, locals := 44 } : Room) D cI cZ [(aS, .inr (3, [.ref aM, .ref aR, .ref aJ, .ref aF, .ref aG, .ref aI])), (aM, .inr (1, [.int (nI Q), .int (nI P), .int (nI M), .int (nI Wd), .int (nI (tT Q P)), .int (nI (tN Q P))])), (aI, .inl (cI, 8, .inl fI))] [.ref aS, .int n] (some (.int (sIma n))) [(aS, .inr (3, [.ref aM, .ref aR, .ref aJ, .ref aF, .ref aG, .ref aI])), (aM, .inr (1, [.int (nI Q), .int (nI P), .int (nI M), .int (nI Wd), .int (nI (tT Q P)), .int (nI (tN Q P))])), (aI, .inl (cI, 8, .inl (imT n fI Q P M Wd)))] := by
  refine mu_start (by decide) rfl (Nat.le_of_ble_eq_true rfl) ?_
  intro p e s m args below meth c hx hb hr hml hlocks hts hown hT hP hD hS ls hl
  have hown : s.vm.findClass RX3 = some m.cls := hown
  have hl : lv_has ls 3 [(0, .ref aS), (1, .int n)] := hl
  refine lv_iload_n hx hb dX3_image_0 rfl (lv_at hl 1 rfl) ?_
  refine lv_iconst (v := 0) hx hb dX3_image_1 (by decide) ?_
  refine lv_iconst (v := 1) hx hb dX3_image_2 (by decide) ?_
  refine ro_S (As := [.int n, .int 0, .int 1]) (rest := []) ⟨hx, hb, hml, hown, hts⟩ hT hP (k_X3_isWithin l D cI cZ n 0 1) gX3_image_X3_isWithin rfl nd_X3_isWithin [] rfl hl.1 rfl rfl (Nat.le_of_ble_eq_true rfl) ⟨Nat.le_of_ble_eq_true rfl, Nat.le_of_ble_eq_true rfl⟩ ⟨rfl, rfl⟩ ⟨Nat.zero_le _, Nat.zero_le _⟩ dX3_image_3 ?_
  refine lv_if_ne (tgt := 12) hx hb dX3_image_6 (by decide) (fun c_1 => ?_) (fun c_1 => ?_)
  · skip
    obtain ⟨n2, hn2, rfl⟩ := jIn_nat 0 1 (by decide) c_1
    have hcn : cl (nI n2) = n2 := cl_nI (by omega)
    refine lv_iload_n hx hb dX3_image_12 rfl (lv_at hl 1 rfl) ?_
    refine lv_iconst (v := 4) hx hb dX3_image_13 (by decide) ?_
    refine lv_imul hx hb dX3_image_14 ?_
    refine top_eq (z := (nI (n2 * 4))) (by exact pk_mul n2 4) ?_
    refine lv_istore_n (lv' := [(2, .int (nI (n2 * 4))), (0, .ref aS), (1, .int (nI n2))]) hx hb dX3_image_15 rfl hl (by decide) rfl (fun ls hl => ?_)
    refine lv_aload_n hx hb dX3_image_16 rfl (lv_at hl 1 rfl) ?_
    refine va_get (D := D) (ci := 3) (v := .ref aI) (C := RX3) (T := TX3) (N := 6) hx hb hts hi_X3_image_X3 hown hT.1 hP 0 rfl rfl 5 (by decide) (hts (.fieldLink RX3 37 "SlotStar" "images" "[I") (List.mem_of_getElem? (i := 1) rfl)) (fun _ h9 => h9) rfl dX3_image_17 ?_
    refine lv_iload_n hx hb dX3_image_20 rfl (lv_at hl 0 rfl) ?_
    refine lv_aload_n hx hb dX3_image_21 rfl (lv_at hl 1 rfl) ?_
    refine va_get (D := D) (ci := 3) (v := .ref aM) (C := RX3) (T := TX3) (N := 6) hx hb hts hi_X3_image_X3 hown hT.1 hP 0 rfl rfl 0 (by decide) (hts (.fieldLink RX3 10 "SlotStar" "star" "LSlotStar$Machine;") (List.mem_of_getElem? (i := 2) rfl)) (fun _ h9 => h9) rfl dX3_image_22 ?_
    refine va_get (D := D) (ci := 1) (v := .int (nI Q)) (C := RX1) (T := TX1) (N := 6) hx hb hts hi_X3_image_X1 hown hT.1 hP 1 rfl rfl 0 (by decide) (hts (.fieldLink RX3 56 "SlotStar$Machine" "slots" "I") (List.mem_of_getElem? (i := 3) rfl)) (fun _ h9 => h9) rfl dX3_image_25 ?_
    refine mu_S (As := [.ref aI, .int (nI (n2 * 4)), .int (nI Q)]) (rest := []) (W1 := [(aS, .inr (3, [.ref aM, .ref aR, .ref aJ, .ref aF, .ref aG, .ref aI])), (aM, .inr (1, [.int (nI Q), .int (nI P), .int (nI M), .int (nI Wd), .int (nI (tT Q P)), .int (nI (tN Q P))])), (aI, .inl (cI, 8, .inl (upd fI (n2 * 4) (nI Q))))]) (st1 := []) ⟨hx, hb, hml, hown, hts⟩ hT hP hD hS (k_X3_put l D cI cZ aI 8 fI (n2 * 4) (nI Q) (by decide) (by omega)) gX3_image_X3_put rfl nd_X3_put [2] (by decide) rfl rfl rfl rfl hl.1 rfl rfl (Nat.le_of_ble_eq_true rfl) ⟨Nat.le_of_ble_eq_true rfl, Nat.le_of_ble_eq_true rfl⟩ ⟨rfl, rfl⟩ ⟨Nat.zero_le _, Nat.zero_le _⟩ dX3_image_28 (fun H locs hP hD hS => ?_)
    refine lv_aload_n hx hb dX3_image_31 rfl (lv_at hl 1 rfl) ?_
    refine va_get (D := D) (ci := 3) (v := .ref aI) (C := RX3) (T := TX3) (N := 6) hx hb hts hi_X3_image_X3 hown hT.1 hP 0 rfl rfl 5 (by decide) (hts (.fieldLink RX3 37 "SlotStar" "images" "[I") (List.mem_of_getElem? (i := 1) rfl)) (fun _ h9 => h9) rfl dX3_image_32 ?_
    refine lv_iload_n hx hb dX3_image_35 rfl (lv_at hl 0 rfl) ?_
    refine lv_iconst (v := 1) hx hb dX3_image_36 (by decide) ?_
    refine lv_iadd hx hb dX3_image_37 ?_
    refine top_eq (z := (nI (n2 * 4 + 1))) (by exact nI_add (n2 * 4) 1) ?_
    refine lv_aload_n hx hb dX3_image_38 rfl (lv_at hl 1 rfl) ?_
    refine va_get (D := D) (ci := 3) (v := .ref aM) (C := RX3) (T := TX3) (N := 6) hx hb hts hi_X3_image_X3 hown hT.1 hP 0 rfl rfl 0 (by decide) (hts (.fieldLink RX3 10 "SlotStar" "star" "LSlotStar$Machine;") (List.mem_of_getElem? (i := 2) rfl)) (fun _ h9 => h9) rfl dX3_image_39 ?_
    refine va_get (D := D) (ci := 1) (v := .int (nI P)) (C := RX1) (T := TX1) (N := 6) hx hb hts hi_X3_image_X1 hown hT.1 hP 1 rfl rfl 1 (by decide) (hts (.fieldLink RX3 103 "SlotStar$Machine" "pairs" "I") (List.mem_of_getElem? (i := 4) rfl)) (fun _ h9 => h9) rfl dX3_image_42 ?_
    refine mu_S (As := [.ref aI, .int (nI (n2 * 4 + 1)), .int (nI P)]) (rest := []) (W1 := [(aS, .inr (3, [.ref aM, .ref aR, .ref aJ, .ref aF, .ref aG, .ref aI])), (aM, .inr (1, [.int (nI Q), .int (nI P), .int (nI M), .int (nI Wd), .int (nI (tT Q P)), .int (nI (tN Q P))])), (aI, .inl (cI, 8, .inl (upd (upd fI (n2 * 4) (nI Q)) (n2 * 4 + 1) (nI P))))]) (st1 := []) ⟨hx, hb, hml, hown, hts⟩ hT hP hD hS (k_X3_put l D cI cZ aI 8 (upd fI (n2 * 4) (nI Q)) (n2 * 4 + 1) (nI P) (by decide) (by omega)) gX3_image_X3_put rfl nd_X3_put [2] (by decide) rfl rfl rfl rfl hl.1 rfl rfl (Nat.le_of_ble_eq_true rfl) ⟨Nat.le_of_ble_eq_true rfl, Nat.le_of_ble_eq_true rfl⟩ ⟨rfl, rfl⟩ ⟨Nat.zero_le _, Nat.zero_le _⟩ dX3_image_45 (fun H locs hP hD hS => ?_)
    refine lv_aload_n hx hb dX3_image_48 rfl (lv_at hl 1 rfl) ?_
    refine va_get (D := D) (ci := 3) (v := .ref aI) (C := RX3) (T := TX3) (N := 6) hx hb hts hi_X3_image_X3 hown hT.1 hP 0 rfl rfl 5 (by decide) (hts (.fieldLink RX3 37 "SlotStar" "images" "[I") (List.mem_of_getElem? (i := 1) rfl)) (fun _ h9 => h9) rfl dX3_image_49 ?_
    refine lv_iload_n hx hb dX3_image_52 rfl (lv_at hl 0 rfl) ?_
    refine lv_iconst (v := 2) hx hb dX3_image_53 (by decide) ?_
    refine lv_iadd hx hb dX3_image_54 ?_
    refine top_eq (z := (nI (n2 * 4 + 2))) (by exact nI_add (n2 * 4) 2) ?_
    refine lv_aload_n hx hb dX3_image_55 rfl (lv_at hl 1 rfl) ?_
    refine va_get (D := D) (ci := 3) (v := .ref aM) (C := RX3) (T := TX3) (N := 6) hx hb hts hi_X3_image_X3 hown hT.1 hP 0 rfl rfl 0 (by decide) (hts (.fieldLink RX3 10 "SlotStar" "star" "LSlotStar$Machine;") (List.mem_of_getElem? (i := 2) rfl)) (fun _ h9 => h9) rfl dX3_image_56 ?_
    refine va_get (D := D) (ci := 1) (v := .int (nI M)) (C := RX1) (T := TX1) (N := 6) hx hb hts hi_X3_image_X1 hown hT.1 hP 1 rfl rfl 2 (by decide) (hts (.fieldLink RX3 106 "SlotStar$Machine" "phases" "I") (List.mem_of_getElem? (i := 5) rfl)) (fun _ h9 => h9) rfl dX3_image_59 ?_
    refine mu_S (As := [.ref aI, .int (nI (n2 * 4 + 2)), .int (nI M)]) (rest := []) (W1 := [(aS, .inr (3, [.ref aM, .ref aR, .ref aJ, .ref aF, .ref aG, .ref aI])), (aM, .inr (1, [.int (nI Q), .int (nI P), .int (nI M), .int (nI Wd), .int (nI (tT Q P)), .int (nI (tN Q P))])), (aI, .inl (cI, 8, .inl (upd (upd (upd fI (n2 * 4) (nI Q)) (n2 * 4 + 1) (nI P)) (n2 * 4 + 2) (nI M))))]) (st1 := []) ⟨hx, hb, hml, hown, hts⟩ hT hP hD hS (k_X3_put l D cI cZ aI 8 (upd (upd fI (n2 * 4) (nI Q)) (n2 * 4 + 1) (nI P)) (n2 * 4 + 2) (nI M) (by decide) (by omega)) gX3_image_X3_put rfl nd_X3_put [2] (by decide) rfl rfl rfl rfl hl.1 rfl rfl (Nat.le_of_ble_eq_true rfl) ⟨Nat.le_of_ble_eq_true rfl, Nat.le_of_ble_eq_true rfl⟩ ⟨rfl, rfl⟩ ⟨Nat.zero_le _, Nat.zero_le _⟩ dX3_image_62 (fun H locs hP hD hS => ?_)
    refine lv_aload_n hx hb dX3_image_65 rfl (lv_at hl 1 rfl) ?_
    refine va_get (D := D) (ci := 3) (v := .ref aI) (C := RX3) (T := TX3) (N := 6) hx hb hts hi_X3_image_X3 hown hT.1 hP 0 rfl rfl 5 (by decide) (hts (.fieldLink RX3 37 "SlotStar" "images" "[I") (List.mem_of_getElem? (i := 1) rfl)) (fun _ h9 => h9) rfl dX3_image_66 ?_
    refine lv_iload_n hx hb dX3_image_69 rfl (lv_at hl 0 rfl) ?_
    refine lv_iconst (v := 3) hx hb dX3_image_70 (by decide) ?_
    refine lv_iadd hx hb dX3_image_71 ?_
    refine top_eq (z := (nI (n2 * 4 + 3))) (by exact nI_add (n2 * 4) 3) ?_
    refine lv_aload_n hx hb dX3_image_72 rfl (lv_at hl 1 rfl) ?_
    refine va_get (D := D) (ci := 3) (v := .ref aM) (C := RX3) (T := TX3) (N := 6) hx hb hts hi_X3_image_X3 hown hT.1 hP 0 rfl rfl 0 (by decide) (hts (.fieldLink RX3 10 "SlotStar" "star" "LSlotStar$Machine;") (List.mem_of_getElem? (i := 2) rfl)) (fun _ h9 => h9) rfl dX3_image_73 ?_
    refine va_get (D := D) (ci := 1) (v := .int (nI Wd)) (C := RX1) (T := TX1) (N := 6) hx hb hts hi_X3_image_X1 hown hT.1 hP 1 rfl rfl 3 (by decide) (hts (.fieldLink RX3 59 "SlotStar$Machine" "width" "I") (List.mem_of_getElem? (i := 6) rfl)) (fun _ h9 => h9) rfl dX3_image_76 ?_
    refine mu_S (As := [.ref aI, .int (nI (n2 * 4 + 3)), .int (nI Wd)]) (rest := []) (W1 := [(aS, .inr (3, [.ref aM, .ref aR, .ref aJ, .ref aF, .ref aG, .ref aI])), (aM, .inr (1, [.int (nI Q), .int (nI P), .int (nI M), .int (nI Wd), .int (nI (tT Q P)), .int (nI (tN Q P))])), (aI, .inl (cI, 8, .inl (upd (upd (upd (upd fI (n2 * 4) (nI Q)) (n2 * 4 + 1) (nI P)) (n2 * 4 + 2) (nI M)) (n2 * 4 + 3) (nI Wd))))]) (st1 := []) ⟨hx, hb, hml, hown, hts⟩ hT hP hD hS (k_X3_put l D cI cZ aI 8 (upd (upd (upd fI (n2 * 4) (nI Q)) (n2 * 4 + 1) (nI P)) (n2 * 4 + 2) (nI M)) (n2 * 4 + 3) (nI Wd) (by decide) (by omega)) gX3_image_X3_put rfl nd_X3_put [2] (by decide) rfl rfl rfl rfl hl.1 rfl rfl (Nat.le_of_ble_eq_true rfl) ⟨Nat.le_of_ble_eq_true rfl, Nat.le_of_ble_eq_true rfl⟩ ⟨rfl, rfl⟩ ⟨Nat.zero_le _, Nat.zero_le _⟩ dX3_image_79 (fun H locs hP hD hS => ?_)
    refine lv_iconst (v := 1) hx hb dX3_image_82 (by decide) ?_
    exact mu_ret hx hb hr hlocks dX3_image_83 (by simpa only [imT, c_1, if_false, hcn] using hP) hS (by simp [sIma, c_1])
  · skip
    refine lv_bipush (v := (-2)) hx hb dX3_image_9 (by decide) ?_
    exact mu_ret hx hb hr hlocks dX3_image_11 (by simpa only [imT, eq_true c_1, if_true] using hP) hS (by simp [sIma, eq_true c_1])

set_option maxRecDepth 20000 in
theorem hi_X3_restore_X3 : ∀ w ∈ wsX30, w ∈ wsX3_restore := by
  intro w h
  unfold wsX3_restore
  simp only [List.mem_cons, List.mem_append, h, or_true, true_or]
theorem nd_X3_restore : okName yX3_restore 1 := by decide +kernel
set_option maxHeartbeats 4000000 in
set_option maxRecDepth 100000 in
theorem k_X3_restore (l : Launch) (D : va_G) (cI cZ : ClassId) (aS : Nat) (aM : Nat) (aR : Nat) (aJ : Nat) (aF : Nat) (aG : Nat) (aI : Nat) (Q : Nat) (P : Nat) (M : Nat) (Wd : Nat) (aN : Nat) (fI : Nat → Int32) (n : Int32) (hi : imOk fI) : MU l yX3_restore wsX3_restore ({ frames := 5, cells := 0, slots := 0, locals := 113 } : Room) D cI cZ [(aS, .inr (3, [.ref aM, .ref aR, .ref aJ, .ref aF, .ref aG, .ref aI])), (aM, .inr (1, [.int (nI Q), .int (nI P), .int (nI M), .int (nI Wd), .int (nI (tT Q P)), .int (nI (tN Q P))])), (aR, .inr (2, [.ref aN, .int (nI (dgN (tN Q P))), .int (nI (tN Q P))])), (aN, .inl (cI, 49, .inl (cyR (tN Q P)))), (aI, .inl (cI, 8, .inl fI))] [.ref aS, .int n] (some (.int (sRes n fI))) [(aS, .inr (3, [.ref aM, .ref aR, .ref aJ, .ref aF, .ref aG, .ref aI])), (aM, .inr (1, [.int (nI ((rsT n fI (Q, P, M, Wd)).1)), .int (nI ((rsT n fI (Q, P, M, Wd)).2.1)), .int (nI ((rsT n fI (Q, P, M, Wd)).2.2.1)), .int (nI ((rsT n fI (Q, P, M, Wd)).2.2.2)), .int (nI (tT ((rsT n fI (Q, P, M, Wd)).1) ((rsT n fI (Q, P, M, Wd)).2.1))), .int (nI (tN ((rsT n fI (Q, P, M, Wd)).1) ((rsT n fI (Q, P, M, Wd)).2.1)))])), (aR, .inr (2, [.ref aN, .int (nI (dgN (tN ((rsT n fI (Q, P, M, Wd)).1) ((rsT n fI (Q, P, M, Wd)).2.1)))), .int (nI (tN ((rsT n fI (Q, P, M, Wd)).1) ((rsT n fI (Q, P, M, Wd)).2.1)))])), (aN, .inl (cI, 49, .inl (cyR (tN ((rsT n fI (Q, P, M, Wd)).1) ((rsT n fI (Q, P, M, Wd)).2.1))))), (aI, .inl (cI, 8, .inl fI))] := by
  refine mu_start (by decide) rfl (Nat.le_of_ble_eq_true rfl) ?_
  intro p e s m args below meth c hx hb hr hml hlocks hts hown hT hP hD hS ls hl
  have hown : s.vm.findClass RX3 = some m.cls := hown
  have hl : lv_has ls 3 [(0, .ref aS), (1, .int n)] := hl
  refine lv_iload_n hx hb dX3_restore_0 rfl (lv_at hl 1 rfl) ?_
  refine lv_iconst (v := 0) hx hb dX3_restore_1 (by decide) ?_
  refine lv_iconst (v := 1) hx hb dX3_restore_2 (by decide) ?_
  refine ro_S (As := [.int n, .int 0, .int 1]) (rest := []) ⟨hx, hb, hml, hown, hts⟩ hT hP (k_X3_isWithin l D cI cZ n 0 1) gX3_restore_X3_isWithin rfl nd_X3_isWithin [] rfl hl.1 rfl rfl (Nat.le_of_ble_eq_true rfl) ⟨Nat.le_of_ble_eq_true rfl, Nat.le_of_ble_eq_true rfl⟩ ⟨rfl, rfl⟩ ⟨Nat.zero_le _, Nat.zero_le _⟩ dX3_restore_3 ?_
  refine lv_if_ne (tgt := 12) hx hb dX3_restore_6 (by decide) (fun c_1 => ?_) (fun c_1 => ?_)
  · skip
    obtain ⟨n2, hn2, rfl⟩ := jIn_nat 0 1 (by decide) c_1
    have hcn : cl (nI n2) = n2 := cl_nI (by omega)
    refine lv_iload_n hx hb dX3_restore_12 rfl (lv_at hl 1 rfl) ?_
    refine lv_iconst (v := 4) hx hb dX3_restore_13 (by decide) ?_
    refine lv_imul hx hb dX3_restore_14 ?_
    refine top_eq (z := (nI (n2 * 4))) (by exact pk_mul n2 4) ?_
    refine lv_istore_n (lv' := [(2, .int (nI (n2 * 4))), (0, .ref aS), (1, .int (nI n2))]) hx hb dX3_restore_15 rfl hl (by decide) rfl (fun ls hl => ?_)
    refine lv_aload_n hx hb dX3_restore_16 rfl (lv_at hl 1 rfl) ?_
    refine va_get (D := D) (ci := 3) (v := .ref aI) (C := RX3) (T := TX3) (N := 6) hx hb hts hi_X3_restore_X3 hown hT.1 hP 0 rfl rfl 5 (by decide) (hts (.fieldLink RX3 37 "SlotStar" "images" "[I") (List.mem_of_getElem? (i := 1) rfl)) (fun _ h9 => h9) rfl dX3_restore_17 ?_
    refine lv_iload_n hx hb dX3_restore_20 rfl (lv_at hl 0 rfl) ?_
    refine ro_S (As := [.ref aI, .int (nI (n2 * 4))]) (rest := []) ⟨hx, hb, hml, hown, hts⟩ hT hP (k_X3_at l D cI cZ aI 8 fI (n2 * 4) (by decide) (by omega)) gX3_restore_X3_at rfl nd_X3_at [4] rfl hl.1 rfl rfl (Nat.le_of_ble_eq_true rfl) ⟨Nat.le_of_ble_eq_true rfl, Nat.le_of_ble_eq_true rfl⟩ ⟨rfl, rfl⟩ ⟨Nat.zero_le _, Nat.zero_le _⟩ dX3_restore_21 ?_
    refine lv_if_ne (tgt := 30) hx hb dX3_restore_24 (by decide) (fun c_2 => ?_) (fun c_2 => ?_)
    · skip
      obtain ⟨hmv, i0, i1, i2, i3⟩ := hi n2 (by omega) c_2
      refine lv_aload_n hx hb dX3_restore_30 rfl (lv_at hl 1 rfl) ?_
      refine lv_aload_n hx hb dX3_restore_31 rfl (lv_at hl 1 rfl) ?_
      refine va_get (D := D) (ci := 3) (v := .ref aI) (C := RX3) (T := TX3) (N := 6) hx hb hts hi_X3_restore_X3 hown hT.1 hP 0 rfl rfl 5 (by decide) (hts (.fieldLink RX3 37 "SlotStar" "images" "[I") (List.mem_of_getElem? (i := 1) rfl)) (fun _ h9 => h9) rfl dX3_restore_32 ?_
      refine lv_iload_n hx hb dX3_restore_35 rfl (lv_at hl 0 rfl) ?_
      refine ro_S (As := [.ref aI, .int (nI (n2 * 4))]) (rest := [.ref aS]) ⟨hx, hb, hml, hown, hts⟩ hT hP (k_X3_at l D cI cZ aI 8 fI (n2 * 4) (by decide) (by omega)) gX3_restore_X3_at rfl nd_X3_at [4] rfl hl.1 rfl rfl (Nat.le_of_ble_eq_true rfl) ⟨Nat.le_of_ble_eq_true rfl, Nat.le_of_ble_eq_true rfl⟩ ⟨rfl, rfl⟩ ⟨Nat.zero_le _, Nat.zero_le _⟩ dX3_restore_36 ?_
      refine top_eq (z := (nI (cl (fI (n2 * 4))))) (by exact i0) ?_
      refine lv_aload_n hx hb dX3_restore_39 rfl (lv_at hl 1 rfl) ?_
      refine va_get (D := D) (ci := 3) (v := .ref aI) (C := RX3) (T := TX3) (N := 6) hx hb hts hi_X3_restore_X3 hown hT.1 hP 0 rfl rfl 5 (by decide) (hts (.fieldLink RX3 37 "SlotStar" "images" "[I") (List.mem_of_getElem? (i := 1) rfl)) (fun _ h9 => h9) rfl dX3_restore_40 ?_
      refine lv_iload_n hx hb dX3_restore_43 rfl (lv_at hl 0 rfl) ?_
      refine lv_iconst (v := 1) hx hb dX3_restore_44 (by decide) ?_
      refine lv_iadd hx hb dX3_restore_45 ?_
      refine top_eq (z := (nI (n2 * 4 + 1))) (by exact nI_add (n2 * 4) 1) ?_
      refine ro_S (As := [.ref aI, .int (nI (n2 * 4 + 1))]) (rest := [.int (nI (cl (fI (n2 * 4)))), .ref aS]) ⟨hx, hb, hml, hown, hts⟩ hT hP (k_X3_at l D cI cZ aI 8 fI (n2 * 4 + 1) (by decide) (by omega)) gX3_restore_X3_at rfl nd_X3_at [4] rfl hl.1 rfl rfl (Nat.le_of_ble_eq_true rfl) ⟨Nat.le_of_ble_eq_true rfl, Nat.le_of_ble_eq_true rfl⟩ ⟨rfl, rfl⟩ ⟨Nat.zero_le _, Nat.zero_le _⟩ dX3_restore_46 ?_
      refine top_eq (z := (nI (cl (fI (n2 * 4 + 1))))) (by exact i1) ?_
      refine lv_aload_n hx hb dX3_restore_49 rfl (lv_at hl 1 rfl) ?_
      refine va_get (D := D) (ci := 3) (v := .ref aI) (C := RX3) (T := TX3) (N := 6) hx hb hts hi_X3_restore_X3 hown hT.1 hP 0 rfl rfl 5 (by decide) (hts (.fieldLink RX3 37 "SlotStar" "images" "[I") (List.mem_of_getElem? (i := 1) rfl)) (fun _ h9 => h9) rfl dX3_restore_50 ?_
      refine lv_iload_n hx hb dX3_restore_53 rfl (lv_at hl 0 rfl) ?_
      refine lv_iconst (v := 2) hx hb dX3_restore_54 (by decide) ?_
      refine lv_iadd hx hb dX3_restore_55 ?_
      refine top_eq (z := (nI (n2 * 4 + 2))) (by exact nI_add (n2 * 4) 2) ?_
      refine ro_S (As := [.ref aI, .int (nI (n2 * 4 + 2))]) (rest := [.int (nI (cl (fI (n2 * 4 + 1)))), .int (nI (cl (fI (n2 * 4)))), .ref aS]) ⟨hx, hb, hml, hown, hts⟩ hT hP (k_X3_at l D cI cZ aI 8 fI (n2 * 4 + 2) (by decide) (by omega)) gX3_restore_X3_at rfl nd_X3_at [4] rfl hl.1 rfl rfl (Nat.le_of_ble_eq_true rfl) ⟨Nat.le_of_ble_eq_true rfl, Nat.le_of_ble_eq_true rfl⟩ ⟨rfl, rfl⟩ ⟨Nat.zero_le _, Nat.zero_le _⟩ dX3_restore_56 ?_
      refine top_eq (z := (nI (cl (fI (n2 * 4 + 2))))) (by exact i2) ?_
      refine lv_aload_n hx hb dX3_restore_59 rfl (lv_at hl 1 rfl) ?_
      refine va_get (D := D) (ci := 3) (v := .ref aI) (C := RX3) (T := TX3) (N := 6) hx hb hts hi_X3_restore_X3 hown hT.1 hP 0 rfl rfl 5 (by decide) (hts (.fieldLink RX3 37 "SlotStar" "images" "[I") (List.mem_of_getElem? (i := 1) rfl)) (fun _ h9 => h9) rfl dX3_restore_60 ?_
      refine lv_iload_n hx hb dX3_restore_63 rfl (lv_at hl 0 rfl) ?_
      refine lv_iconst (v := 3) hx hb dX3_restore_64 (by decide) ?_
      refine lv_iadd hx hb dX3_restore_65 ?_
      refine top_eq (z := (nI (n2 * 4 + 3))) (by exact nI_add (n2 * 4) 3) ?_
      refine ro_S (As := [.ref aI, .int (nI (n2 * 4 + 3))]) (rest := [.int (nI (cl (fI (n2 * 4 + 2)))), .int (nI (cl (fI (n2 * 4 + 1)))), .int (nI (cl (fI (n2 * 4)))), .ref aS]) ⟨hx, hb, hml, hown, hts⟩ hT hP (k_X3_at l D cI cZ aI 8 fI (n2 * 4 + 3) (by decide) (by omega)) gX3_restore_X3_at rfl nd_X3_at [4] rfl hl.1 rfl rfl (Nat.le_of_ble_eq_true rfl) ⟨Nat.le_of_ble_eq_true rfl, Nat.le_of_ble_eq_true rfl⟩ ⟨rfl, rfl⟩ ⟨Nat.zero_le _, Nat.zero_le _⟩ dX3_restore_66 ?_
      refine top_eq (z := (nI (cl (fI (n2 * 4 + 3))))) (by exact i3) ?_
      refine mu_V (As := [.int (nI (cl (fI (n2 * 4)))), .int (nI (cl (fI (n2 * 4 + 1)))), .int (nI (cl (fI (n2 * 4 + 2)))), .int (nI (cl (fI (n2 * 4 + 3))))]) (rest := []) (W1 := [(aS, .inr (3, [.ref aM, .ref aR, .ref aJ, .ref aF, .ref aG, .ref aI])), (aM, .inr (1, [.int (nI (cl (fI (n2 * 4)))), .int (nI (cl (fI (n2 * 4 + 1)))), .int (nI (cl (fI (n2 * 4 + 2)))), .int (nI (cl (fI (n2 * 4 + 3)))), .int (nI (tT (cl (fI (n2 * 4))) (cl (fI (n2 * 4 + 1))))), .int (nI (tN (cl (fI (n2 * 4))) (cl (fI (n2 * 4 + 1)))))])), (aR, .inr (2, [.ref aN, .int (nI (dgN (tN (cl (fI (n2 * 4))) (cl (fI (n2 * 4 + 1)))))), .int (nI (tN (cl (fI (n2 * 4))) (cl (fI (n2 * 4 + 1)))))])), (aN, .inl (cI, 49, .inl (cyR (tN (cl (fI (n2 * 4))) (cl (fI (n2 * 4 + 1))))))), (aI, .inl (cI, 8, .inl fI))]) (st1 := []) ⟨hx, hb, hml, hown, hts⟩ hT hP hD hS (k_X3_take l D cI cZ aS aM aR aJ aF aG aI (nI Q) (nI P) (nI M) (nI Wd) (nI (tT Q P)) (nI (tN Q P)) aN (dgN (tN Q P)) (tN Q P) (cyR (tN Q P)) (cl (fI (n2 * 4))) (cl (fI (n2 * 4 + 1))) (cl (fI (n2 * 4 + 2))) (cl (fI (n2 * 4 + 3))) hmv) gX3_restore_X3_take rfl rfl nd_X3_take [0, 1, 2, 3] (by decide) rfl rfl rfl rfl (ci := 3) rfl rfl (q0 := 0) rfl hl.1 rfl rfl (Nat.le_of_ble_eq_true rfl) ⟨Nat.le_of_ble_eq_true rfl, Nat.le_of_ble_eq_true rfl⟩ ⟨rfl, rfl⟩ ⟨Nat.zero_le _, Nat.zero_le _⟩ dX3_restore_69 (fun H locs hP hD hS => ?_)
      refine lv_iconst (v := 1) hx hb dX3_restore_72 (by decide) ?_
      exact mu_ret hx hb hr hlocks dX3_restore_73 (by have e9 := rsT_1 (g := fI) (t := (Q, P, M, Wd)) (by omega) c_2; rw [e9]; exact hP) hS (by first | simp [sRes, c_1, c_2, hcn] | simp [sRes, c_1, c_2])
    · skip
      refine lv_bipush (v := (-3)) hx hb dX3_restore_27 (by decide) ?_
      exact mu_ret hx hb hr hlocks dX3_restore_29 (by have e9 := rsT_0 (g := fI) (t := (Q, P, M, Wd)) (by omega) c_2; rw [e9]; exact hP) hS (by first | simp [sRes, c_1, eq_true c_2, hcn] | simp [sRes, c_1, eq_true c_2])
  · skip
    refine lv_bipush (v := (-2)) hx hb dX3_restore_9 (by decide) ?_
    exact mu_ret hx hb hr hlocks dX3_restore_11 (by have e9 := rsT_n (g := fI) (t := (Q, P, M, Wd)) c_1; rw [e9]; exact hP) hS (by first | simp [sRes, eq_true c_1, hcn] | simp [sRes, eq_true c_1])
